section WalkM
variable {p : Program} {l : Launch} {e : Env} {s : State} {m : MethodId} {args : Array Value} {below : List Frame} {meth : Method} {c : Code} {Q : State → Prop} {b : Nat} {G : xG}
set_option maxRecDepth 4000 in
theorem s_L_isChild_9 (C : xC p m c s args meth G b cL_isChild 13 RL) (hl : l.stackTraces = false) (hX : xF b s) : ∀ (n9 : Nat) (l1 : Int32) (l7 : Int32) (l8 : Int32) (l9 : Int32) (w : xWt) (o : (Int32 × Int32 × Int32)) (w' : xWt), L_L_isChild_9 n9 l1 l7 l8 l9 w = some (o, w') → xW p l e (xRX 9 0 0) s m args below meth c Q b 13 (CW G b w') 0 0 193 [(0, .ref (b)), (1, .int (l1)), (2, .ref (ra b 10 0)), (3, .ref (ra b 10 2)), (4, .ref (ra b 10 3)), (5, .ref (ra b 10 4)), (6, .ref (ra b 10 5)), (7, .int (o.1)), (8, .int (o.2.1)), (9, .int (o.2.2))] [] → xW p l e (xRX 9 0 0) s m args below meth c Q b 13 (CW G b w) 0 0 9 [(0, .ref (b)), (1, .int (l1)), (2, .ref (ra b 10 0)), (3, .ref (ra b 10 2)), (4, .ref (ra b 10 3)), (5, .ref (ra b 10 4)), (6, .ref (ra b 10 5)), (7, .int (l7)), (8, .int (l8)), (9, .int (l9))] [] := by
  intro n9
  induction n9 with
  | zero => intro l1 l7 l8 l9 w o w' hF; exact none_ne (show none = some _ from hF)
  | succ n9 ih =>
    intro l1 l7 l8 l9 w o w' hF kx
    replace hF : B_L_isChild_9 (L_L_isChild_9 n9) l1 l7 l8 l9 w = some (o, w') := hF
    unfold B_L_isChild_9 at hF
    refine x_iload (pc := 9) C 9 dL_isChild_9 rfl ?_
    refine x_iconst (pc := 11) C 3 dL_isChild_11 ki_3 ?_
    refine x_icmp_ge (pc := 12) C 193 dL_isChild_12 rfl hF (fun c38 hF => ?_) (fun c38 hF => ?_)
    · obtain ⟨rfl, rfl⟩ := ret_eq hF
      exact x_sub [0, 1, 2, 3, 4, 5, 6, 7, 8, 9] rfl kx
    · refine x_aload (pc := 15) C 6 dL_isChild_15 rfl ?_
      refine x_bipush (pc := 17) C 6 dL_isChild_17 kb_6 ?_
      refine x_iload_n (pc := 19) C 1 dL_isChild_19 rfl rfl ?_
      refine x_imul (pc := 20) C dL_isChild_20 ?_
      refine x_iconst (pc := 21) C 2 dL_isChild_21 ki_2 ?_
      refine x_iload (pc := 22) C 9 dL_isChild_22 rfl ?_
      refine x_imul (pc := 24) C dL_isChild_24 ?_
      refine x_iadd (pc := 25) C dL_isChild_25 ?_
      refine w_ald (pc := 26) C (vA_m 5 (by decide)) hF dL_isChild_26 (fun x1 hF => ?_)
      refine x_istore (pc := 27) C [(10, .int (x1)), (0, .ref (b)), (1, .int (l1)), (2, .ref (ra b 10 0)), (3, .ref (ra b 10 2)), (4, .ref (ra b 10 3)), (5, .ref (ra b 10 4)), (6, .ref (ra b 10 5)), (7, .int (l7)), (8, .int (l8)), (9, .int (l9))] dL_isChild_27 (by decide) rfl ?_
      refine x_aload (pc := 29) C 7 dL_isChild_29 rfl ?_
      refine x_bipush (pc := 31) C 6 dL_isChild_31 kb_6 ?_
      refine x_iload_n (pc := 33) C 2 dL_isChild_33 rfl rfl ?_
      refine x_imul (pc := 34) C dL_isChild_34 ?_
      refine x_iconst (pc := 35) C 2 dL_isChild_35 ki_2 ?_
      refine x_iload (pc := 36) C 10 dL_isChild_36 rfl ?_
      refine x_imul (pc := 38) C dL_isChild_38 ?_
      refine x_iadd (pc := 39) C dL_isChild_39 ?_
      refine x_iconst (pc := 40) C 1 dL_isChild_40 ki_1 ?_
      refine x_iadd (pc := 41) C dL_isChild_41 ?_
      refine w_ald (pc := 42) C (vA_m 5 (by decide)) hF dL_isChild_42 (fun x2 hF => ?_)
      refine x_istore (pc := 43) C [(11, .int (x2)), (10, .int (x1)), (0, .ref (b)), (1, .int (l1)), (2, .ref (ra b 10 0)), (3, .ref (ra b 10 2)), (4, .ref (ra b 10 3)), (5, .ref (ra b 10 4)), (6, .ref (ra b 10 5)), (7, .int (l7)), (8, .int (l8)), (9, .int (l9))] dL_isChild_43 (by decide) rfl ?_
      refine x_iload (pc := 45) C 1 dL_isChild_45 rfl ?_
      refine x_iconst (pc := 47) C 2 dL_isChild_47 ki_2 ?_
      obtain ⟨o4, w3, hL, hF⟩ := bd_some hF
      refine x_join (P1 := CW G b w3) (pcJ := 78) (lvJ := [(0, .ref (b)), (1, .int (l1)), (2, .ref (ra b 10 0)), (3, .ref (ra b 10 2)), (4, .ref (ra b 10 3)), (5, .ref (ra b 10 4)), (6, .ref (ra b 10 5)), (7, .int (l7)), (8, .int (l8)), (9, .int (l9)), (10, .int (x1)), (11, .int (x2))]) (stJ := [.int (o4)]) 0 0 ?_ (fun kJ78 => ?_)
      · refine x_istore (pc := 78) C [(12, .int (o4)), (0, .ref (b)), (1, .int (l1)), (2, .ref (ra b 10 0)), (3, .ref (ra b 10 2)), (4, .ref (ra b 10 3)), (5, .ref (ra b 10 4)), (6, .ref (ra b 10 5)), (7, .int (l7)), (8, .int (l8)), (9, .int (l9)), (10, .int (x1)), (11, .int (x2))] dL_isChild_78 (by decide) rfl ?_
        refine x_iload (pc := 80) C 8 dL_isChild_80 rfl ?_
        refine x_iload (pc := 82) C 11 dL_isChild_82 rfl ?_
        refine x_iconst (pc := 84) C 2 dL_isChild_84 ki_2 ?_
        obtain ⟨o13, w12, hL, hF⟩ := bd_some hF
        refine x_join (P1 := CW G b w12) (pcJ := 93) (lvJ := [(0, .ref (b)), (1, .int (l1)), (2, .ref (ra b 10 0)), (3, .ref (ra b 10 2)), (4, .ref (ra b 10 3)), (5, .ref (ra b 10 4)), (6, .ref (ra b 10 5)), (7, .int (l7)), (8, .int (l8)), (9, .int (l9)), (10, .int (x1)), (11, .int (x2)), (12, .int (o4))]) (stJ := [.int (o13), .int (l7)]) 0 0 ?_ (fun kJ93 => ?_)
        · refine x_iadd (pc := 93) C dL_isChild_93 ?_
          refine x_istore (pc := 94) C [(7, .int ((l7 + o13))), (0, .ref (b)), (1, .int (l1)), (2, .ref (ra b 10 0)), (3, .ref (ra b 10 2)), (4, .ref (ra b 10 3)), (5, .ref (ra b 10 4)), (6, .ref (ra b 10 5)), (8, .int (l8)), (9, .int (l9)), (10, .int (x1)), (11, .int (x2)), (12, .int (o4))] dL_isChild_94 (by decide) rfl ?_
          refine x_iload (pc := 96) C 8 dL_isChild_96 rfl ?_
          refine x_iload (pc := 98) C 10 dL_isChild_98 rfl ?_
          refine x_iconst (pc := 100) C 1 dL_isChild_100 ki_1 ?_
          obtain ⟨o16, w15, hL, hF⟩ := bd_some hF
          refine x_join (P1 := CW G b w15) (pcJ := 109) (lvJ := [(0, .ref (b)), (1, .int (l1)), (2, .ref (ra b 10 0)), (3, .ref (ra b 10 2)), (4, .ref (ra b 10 3)), (5, .ref (ra b 10 4)), (6, .ref (ra b 10 5)), (7, .int ((l7 + o13))), (8, .int (l8)), (9, .int (l9)), (10, .int (x1)), (11, .int (x2)), (12, .int (o4))]) (stJ := [.int (o16), .int (l8)]) 0 0 ?_ (fun kJ109 => ?_)
          · refine x_iadd (pc := 109) C dL_isChild_109 ?_
            refine x_istore (pc := 110) C [(8, .int ((l8 + o16))), (0, .ref (b)), (1, .int (l1)), (2, .ref (ra b 10 0)), (3, .ref (ra b 10 2)), (4, .ref (ra b 10 3)), (5, .ref (ra b 10 4)), (6, .ref (ra b 10 5)), (7, .int ((l7 + o13))), (9, .int (l9)), (10, .int (x1)), (11, .int (x2)), (12, .int (o4))] dL_isChild_110 (by decide) rfl ?_
            refine x_aload_n (pc := 112) C 1 dL_isChild_112 rfl rfl ?_
            refine x_iload_n (pc := 113) C 2 dL_isChild_113 rfl rfl ?_
            refine x_iload (pc := 114) C 9 dL_isChild_114 rfl ?_
            refine x_iconst (pc := 116) C 0 dL_isChild_116 ki_0 ?_
            refine cF1_3 (pc := 117) (val := Value.int) C hX hF (fun _ _ h => c_X7_hook l _ b hl _ _ _ h) vm_X7_hook wq356 ⟨Nat.le_of_ble_eq_true rfl, Nat.le_of_ble_eq_true rfl⟩ rfl rfl (fun _ h => CW.pl h) (Nat.le_of_ble_eq_true rfl) ⟨Nat.zero_le _, Nat.zero_le _⟩ dL_isChild_117 (fun x18 w19 hF => ?_)
            refine x_iload (pc := 120) C 10 dL_isChild_120 rfl ?_
            refine x_icmp_ne (pc := 122) C 185 dL_isChild_122 rfl hF (fun c37 hF => ?_) (fun c37 hF => ?_)
            · exact none_ne hF
            · refine x_aload_n (pc := 125) C 1 dL_isChild_125 rfl rfl ?_
              refine x_iload_n (pc := 126) C 2 dL_isChild_126 rfl rfl ?_
              refine x_iload (pc := 127) C 9 dL_isChild_127 rfl ?_
              refine x_iconst (pc := 129) C 1 dL_isChild_129 ki_1 ?_
              refine cF1_3 (pc := 130) (val := Value.int) C hX hF (fun _ _ h => c_X7_hook l _ b hl _ _ _ h) vm_X7_hook wq356 ⟨Nat.le_of_ble_eq_true rfl, Nat.le_of_ble_eq_true rfl⟩ rfl rfl (fun _ h => CW.pl h) (Nat.le_of_ble_eq_true rfl) ⟨Nat.zero_le _, Nat.zero_le _⟩ dL_isChild_130 (fun x20 w21 hF => ?_)
              refine x_iload (pc := 133) C 11 dL_isChild_133 rfl ?_
              refine x_icmp_ne (pc := 135) C 185 dL_isChild_135 rfl hF (fun c36 hF => ?_) (fun c36 hF => ?_)
              · exact none_ne hF
              · refine x_aload_n (pc := 138) C 1 dL_isChild_138 rfl rfl ?_
                refine x_iload_n (pc := 139) C 2 dL_isChild_139 rfl rfl ?_
                refine x_iload (pc := 140) C 9 dL_isChild_140 rfl ?_
                refine x_iconst (pc := 142) C 2 dL_isChild_142 ki_2 ?_
                refine cF1_3 (pc := 143) (val := Value.int) C hX hF (fun _ _ h => c_X7_hook l _ b hl _ _ _ h) vm_X7_hook wq356 ⟨Nat.le_of_ble_eq_true rfl, Nat.le_of_ble_eq_true rfl⟩ rfl rfl (fun _ h => CW.pl h) (Nat.le_of_ble_eq_true rfl) ⟨Nat.zero_le _, Nat.zero_le _⟩ dL_isChild_143 (fun x22 w23 hF => ?_)
                refine x_iload (pc := 146) C 10 dL_isChild_146 rfl ?_
                refine x_iconst (pc := 148) C 1 dL_isChild_148 ki_1 ?_
                obtain ⟨o25, w24, hL, hF⟩ := bd_some hF
                refine x_join (P1 := CW G b w24) (pcJ := 162) (lvJ := [(0, .ref (b)), (1, .int (l1)), (2, .ref (ra b 10 0)), (3, .ref (ra b 10 2)), (4, .ref (ra b 10 3)), (5, .ref (ra b 10 4)), (6, .ref (ra b 10 5)), (7, .int ((l7 + o13))), (8, .int ((l8 + o16))), (9, .int (l9)), (10, .int (x1)), (11, .int (x2)), (12, .int (o4))]) (stJ := [.int (o25), .int (x22)]) 0 0 ?_ (fun kJ162 => ?_)
                · refine x_icmp_ne (pc := 162) C 185 dL_isChild_162 rfl hF (fun c35 hF => ?_) (fun c35 hF => ?_)
                  · exact none_ne hF
                  · refine x_aload_n (pc := 165) C 0 dL_isChild_165 rfl rfl ?_
                    refine x_iload_n (pc := 166) C 1 dL_isChild_166 rfl rfl ?_
                    refine x_iload (pc := 167) C 9 dL_isChild_167 rfl ?_
                    refine cF1_2 (pc := 169) (val := Value.int) C hX hF (fun _ _ h => c_X7_ifLoosened l _ b hl _ _ h) vm_X7_ifLoosened wq382 ⟨Nat.le_of_ble_eq_true rfl, Nat.le_of_ble_eq_true rfl⟩ rfl rfl (fun _ h => CW.pl h) (Nat.le_of_ble_eq_true rfl) ⟨Nat.zero_le _, Nat.zero_le _⟩ dL_isChild_169 (fun x29 w30 hF => ?_)
                    refine x_iload (pc := 172) C 12 dL_isChild_172 rfl ?_
                    obtain ⟨o32, w31, hL, hF⟩ := bd_some hF
                    refine x_join (P1 := CW G b w31) (pcJ := 182) (lvJ := [(0, .ref (b)), (1, .int (l1)), (2, .ref (ra b 10 0)), (3, .ref (ra b 10 2)), (4, .ref (ra b 10 3)), (5, .ref (ra b 10 4)), (6, .ref (ra b 10 5)), (7, .int ((l7 + o13))), (8, .int ((l8 + o16))), (9, .int (l9)), (10, .int (x1)), (11, .int (x2)), (12, .int (o4))]) (stJ := [.int (o32), .int (x29)]) 0 0 ?_ (fun kJ182 => ?_)
                    · refine x_icmp_eq (pc := 182) C 187 dL_isChild_182 rfl hF (fun c34 hF => ?_) (fun c34 hF => ?_)
                      · refine x_iinc (pc := 187) C 9 [(9, .int ((l9 + 1))), (0, .ref (b)), (1, .int (l1)), (2, .ref (ra b 10 0)), (3, .ref (ra b 10 2)), (4, .ref (ra b 10 3)), (5, .ref (ra b 10 4)), (6, .ref (ra b 10 5)), (7, .int ((l7 + o13))), (8, .int ((l8 + o16))), (10, .int (x1)), (11, .int (x2)), (12, .int (o4))] dL_isChild_187 rfl rfl (by decide) rfl ?_
                        refine x_goto (pc := 190) C 9 dL_isChild_190 rfl ?_
                        exact x_sub [1, 2, 3, 4, 5, 6, 7, 8, 9, 0] rfl (ih _ _ _ _ _ _ _ hF kx)
                      · exact none_ne hF
                    · replace hF := hL
                      refine x_if_eq (pc := 174) C 181 dL_isChild_174 rfl hF (fun c33 hF => ?_) (fun c33 hF => ?_)
                      · refine x_iconst (pc := 181) C 0 dL_isChild_181 ki_0 ?_
                        obtain ⟨rfl, rfl⟩ := ret_eq hF
                        exact x_sub [0, 1, 2, 3, 4, 5, 6, 7, 8, 9, 10, 11, 12] rfl kJ182
                      · refine x_iconst (pc := 177) C 1 dL_isChild_177 ki_1 ?_
                        refine x_goto (pc := 178) C 182 dL_isChild_178 rfl ?_
                        obtain ⟨rfl, rfl⟩ := ret_eq hF
                        exact x_sub [0, 1, 2, 3, 4, 5, 6, 7, 8, 9, 10, 11, 12] rfl kJ182
                · replace hF := hL
                  refine x_icmp_ne (pc := 149) C 161 dL_isChild_149 rfl hF (fun c28 hF => ?_) (fun c28 hF => ?_)
                  · refine x_iconst (pc := 161) C (-1) dL_isChild_161 ki_m1 ?_
                    obtain ⟨rfl, rfl⟩ := ret_eq hF
                    exact x_sub [1, 2, 3, 4, 5, 6, 7, 8, 0, 9, 10, 11, 12] rfl kJ162
                  · refine x_iload (pc := 152) C 11 dL_isChild_152 rfl ?_
                    refine x_aload_n (pc := 154) C 4 dL_isChild_154 rfl rfl ?_
                    refine cS1_2 (pc := 155) (val := Value.int) C hF (fun _ _ h => c_L_branch l _ b _ h) sm_L_branch wq285 rfl rfl ⟨Nat.le_of_ble_eq_true rfl, Nat.le_of_ble_eq_true rfl⟩ (Nat.le_of_ble_eq_true rfl) ⟨Nat.zero_le _, Nat.zero_le _⟩ dL_isChild_155 (fun x27 w26 hF => ?_)
                    refine x_goto (pc := 158) C 162 dL_isChild_158 rfl ?_
                    obtain ⟨rfl, rfl⟩ := ret_eq hF
                    exact x_sub [1, 2, 3, 4, 5, 6, 7, 8, 0, 9, 10, 11, 12] rfl kJ162
          · replace hF := hL
            refine x_icmp_ne (pc := 101) C 108 dL_isChild_101 rfl hF (fun c17 hF => ?_) (fun c17 hF => ?_)
            · refine x_iconst (pc := 108) C 0 dL_isChild_108 ki_0 ?_
              obtain ⟨rfl, rfl⟩ := ret_eq hF
              exact x_sub [1, 2, 3, 4, 5, 6, 7, 0, 8, 9, 10, 11, 12] rfl kJ109
            · refine x_iconst (pc := 104) C 1 dL_isChild_104 ki_1 ?_
              refine x_goto (pc := 105) C 109 dL_isChild_105 rfl ?_
              obtain ⟨rfl, rfl⟩ := ret_eq hF
              exact x_sub [1, 2, 3, 4, 5, 6, 7, 0, 8, 9, 10, 11, 12] rfl kJ109
        · replace hF := hL
          refine x_icmp_ne (pc := 85) C 92 dL_isChild_85 rfl hF (fun c14 hF => ?_) (fun c14 hF => ?_)
          · refine x_iconst (pc := 92) C 0 dL_isChild_92 ki_0 ?_
            obtain ⟨rfl, rfl⟩ := ret_eq hF
            exact x_sub [1, 2, 3, 4, 5, 6, 7, 8, 9, 10, 11, 12, 0] rfl kJ93
          · refine x_iconst (pc := 88) C 1 dL_isChild_88 ki_1 ?_
            refine x_goto (pc := 89) C 93 dL_isChild_89 rfl ?_
            obtain ⟨rfl, rfl⟩ := ret_eq hF
            exact x_sub [1, 2, 3, 4, 5, 6, 7, 8, 9, 10, 11, 12, 0] rfl kJ93
      · replace hF := hL
        refine x_icmp_ne (pc := 48) C 77 dL_isChild_48 rfl hF (fun c11 hF => ?_) (fun c11 hF => ?_)
        · refine x_iconst (pc := 77) C 0 dL_isChild_77 ki_0 ?_
          obtain ⟨rfl, rfl⟩ := ret_eq hF
          exact x_sub [2, 3, 4, 5, 6, 7, 8, 9, 10, 11, 1, 0] rfl kJ78
        · refine x_iload (pc := 51) C 0 dL_isChild_51 rfl ?_
          refine x_aload_n (pc := 53) C 5 dL_isChild_53 rfl rfl ?_
          refine cS1_2 (pc := 54) (val := Value.int) C hF (fun _ _ h => c_L_where l _ b _ h) sm_L_where wq112 rfl rfl ⟨Nat.le_of_ble_eq_true rfl, Nat.le_of_ble_eq_true rfl⟩ (Nat.le_of_ble_eq_true rfl) ⟨Nat.zero_le _, Nat.zero_le _⟩ dL_isChild_54 (fun x6 w5 hF => ?_)
          refine x_if_lt (pc := 57) C 77 dL_isChild_57 rfl hF (fun c10 hF => ?_) (fun c10 hF => ?_)
          · refine x_iconst (pc := 77) C 0 dL_isChild_77 ki_0 ?_
            obtain ⟨rfl, rfl⟩ := ret_eq hF
            exact x_sub [2, 3, 4, 5, 6, 7, 8, 9, 10, 11, 1, 0] rfl kJ78
          · refine x_iload (pc := 60) C 0 dL_isChild_60 rfl ?_
            refine x_iconst (pc := 62) C 2 dL_isChild_62 ki_2 ?_
            refine x_iconst (pc := 63) C (-1) dL_isChild_63 ki_m1 ?_
            refine x_aload (pc := 64) C 8 dL_isChild_64 rfl ?_
            refine cS1_4 (pc := 66) (val := Value.int) C hF (fun _ _ h => c_L_pins l _ b _ _ _ h) sm_L_pins wq109 rfl rfl ⟨Nat.le_of_ble_eq_true rfl, Nat.le_of_ble_eq_true rfl⟩ (Nat.le_of_ble_eq_true rfl) ⟨Nat.zero_le _, Nat.zero_le _⟩ dL_isChild_66 (fun x8 w7 hF => ?_)
            refine x_iconst (pc := 69) C 1 dL_isChild_69 ki_1 ?_
            refine x_icmp_ne (pc := 70) C 77 dL_isChild_70 rfl hF (fun c9 hF => ?_) (fun c9 hF => ?_)
            · refine x_iconst (pc := 77) C 0 dL_isChild_77 ki_0 ?_
              obtain ⟨rfl, rfl⟩ := ret_eq hF
              exact x_sub [2, 3, 4, 5, 6, 7, 8, 9, 10, 11, 1, 0] rfl kJ78
            · refine x_iconst (pc := 73) C 1 dL_isChild_73 ki_1 ?_
              refine x_goto (pc := 74) C 78 dL_isChild_74 rfl ?_
              obtain ⟨rfl, rfl⟩ := ret_eq hF
              exact x_sub [2, 3, 4, 5, 6, 7, 8, 9, 10, 11, 1, 0] rfl kJ78
set_option maxRecDepth 4000 in
theorem s_L_isChild_202 (C : xC p m c s args meth G b cL_isChild 13 RL) (hl : l.stackTraces = false) (hX : xF b s) : ∀ (n9 : Nat) (l1 : Int32) (l7 : Int32) (l8 : Int32) (l9 : Int32) (l10 : Int32) (l11 : Int32) (w : xWt) (o : (Int32 × Int32 × Int32)) (w' : xWt), L_L_isChild_202 n9 l1 l7 l8 l9 l10 l11 w = some (o, w') → xW p l e (xRX 9 0 0) s m args below meth c Q b 13 (CW G b w') 0 0 283 [(0, .ref (b)), (1, .int (l1)), (2, .ref (ra b 10 0)), (3, .ref (ra b 10 2)), (4, .ref (ra b 10 3)), (5, .ref (ra b 10 4)), (6, .ref (ra b 10 5)), (7, .int (l7)), (8, .int (l8)), (9, .int (o.1)), (10, .int (o.2.1)), (11, .int (o.2.2))] [] → xW p l e (xRX 9 0 0) s m args below meth c Q b 13 (CW G b w) 0 0 202 [(0, .ref (b)), (1, .int (l1)), (2, .ref (ra b 10 0)), (3, .ref (ra b 10 2)), (4, .ref (ra b 10 3)), (5, .ref (ra b 10 4)), (6, .ref (ra b 10 5)), (7, .int (l7)), (8, .int (l8)), (9, .int (l9)), (10, .int (l10)), (11, .int (l11))] [] := by
  intro n9
  induction n9 with
  | zero => intro l1 l7 l8 l9 l10 l11 w o w' hF; exact none_ne (show none = some _ from hF)
  | succ n9 ih =>
    intro l1 l7 l8 l9 l10 l11 w o w' hF kx
    replace hF : B_L_isChild_202 (L_L_isChild_202 n9) l1 l7 l8 l9 l10 l11 w = some (o, w') := hF
    unfold B_L_isChild_202 at hF
    refine x_iload (pc := 202) C 11 dL_isChild_202 rfl ?_
    refine x_aload_n (pc := 204) C 2 dL_isChild_204 rfl rfl ?_
    refine x_bipush (pc := 205) C 9 dL_isChild_205 kb_9 ?_
    refine w_ald (pc := 207) C (vA_m 0 (by decide)) hF dL_isChild_207 (fun x41 hF => ?_)
    refine x_icmp_ge (pc := 208) C 283 dL_isChild_208 rfl hF (fun c59 hF => ?_) (fun c59 hF => ?_)
    · obtain ⟨rfl, rfl⟩ := ret_eq hF
      exact x_sub [0, 1, 2, 3, 4, 5, 6, 7, 8, 9, 10, 11] rfl kx
    · refine x_iload (pc := 211) C 10 dL_isChild_211 rfl ?_
      refine x_aload (pc := 213) C 4 dL_isChild_213 rfl ?_
      refine x_iload (pc := 215) C 11 dL_isChild_215 rfl ?_
      refine w_ald (pc := 217) C (vA_m 3 (by decide)) hF dL_isChild_217 (fun x42 hF => ?_)
      refine x_aload_n (pc := 218) C 2 dL_isChild_218 rfl rfl ?_
      refine x_bipush (pc := 219) C 8 dL_isChild_219 kb_8 ?_
      refine w_ald (pc := 221) C (vA_m 0 (by decide)) hF dL_isChild_221 (fun x43 hF => ?_)
      refine x_iload_n (pc := 222) C 1 dL_isChild_222 rfl rfl ?_
      refine x_aload_n (pc := 223) C 2 dL_isChild_223 rfl rfl ?_
      refine x_aload_n (pc := 224) C 3 dL_isChild_224 rfl rfl ?_
      refine x_aload (pc := 225) C 6 dL_isChild_225 rfl ?_
      refine cS1_6 (pc := 227) (val := Value.int) C hF (fun _ _ h => c_L_may l _ b _ _ _ h) sm_L_may wq306 rfl rfl ⟨Nat.le_of_ble_eq_true rfl, Nat.le_of_ble_eq_true rfl⟩ (Nat.le_of_ble_eq_true rfl) ⟨Nat.zero_le _, Nat.zero_le _⟩ dL_isChild_227 (fun x45 w44 hF => ?_)
      obtain ⟨o47, w46, hL, hF⟩ := bd_some hF
      refine x_join (P1 := CW G b w46) (pcJ := 238) (lvJ := [(0, .ref (b)), (1, .int (l1)), (2, .ref (ra b 10 0)), (3, .ref (ra b 10 2)), (4, .ref (ra b 10 3)), (5, .ref (ra b 10 4)), (6, .ref (ra b 10 5)), (7, .int (l7)), (8, .int (l8)), (9, .int (l9)), (10, .int (l10)), (11, .int (l11))]) (stJ := [.int (o47), .int (l10)]) 0 0 ?_ (fun kJ238 => ?_)
      · refine x_iadd (pc := 238) C dL_isChild_238 ?_
        refine x_istore (pc := 239) C [(10, .int ((l10 + o47))), (0, .ref (b)), (1, .int (l1)), (2, .ref (ra b 10 0)), (3, .ref (ra b 10 2)), (4, .ref (ra b 10 3)), (5, .ref (ra b 10 4)), (6, .ref (ra b 10 5)), (7, .int (l7)), (8, .int (l8)), (9, .int (l9)), (11, .int (l11))] dL_isChild_239 (by decide) rfl ?_
        refine x_aload (pc := 241) C 5 dL_isChild_241 rfl ?_
        refine x_iload (pc := 243) C 11 dL_isChild_243 rfl ?_
        refine w_ald (pc := 245) C (vA_m 3 (by decide)) hF dL_isChild_245 (fun x49 hF => ?_)
        refine x_aload_n (pc := 246) C 4 dL_isChild_246 rfl rfl ?_
        refine cS1_2 (pc := 247) (val := Value.int) C hF (fun _ _ h => c_L_where l _ b _ h) sm_L_where wq112 rfl rfl ⟨Nat.le_of_ble_eq_true rfl, Nat.le_of_ble_eq_true rfl⟩ (Nat.le_of_ble_eq_true rfl) ⟨Nat.zero_le _, Nat.zero_le _⟩ dL_isChild_247 (fun x51 w50 hF => ?_)
        refine x_iload_n (pc := 250) C 2 dL_isChild_250 rfl rfl ?_
        obtain ⟨o53, w52, hL, hF⟩ := bd_some hF
        refine x_join (P1 := CW G b w52) (pcJ := 277) (lvJ := [(0, .ref (b)), (1, .int (l1)), (2, .ref (ra b 10 0)), (3, .ref (ra b 10 2)), (4, .ref (ra b 10 3)), (5, .ref (ra b 10 4)), (6, .ref (ra b 10 5)), (7, .int (l7)), (8, .int (l8)), (9, .int (o53)), (10, .int ((l10 + o47))), (11, .int (l11))]) (stJ := []) 0 0 ?_ (fun kJ277 => ?_)
        · refine x_iinc (pc := 277) C 11 [(11, .int ((l11 + 1))), (0, .ref (b)), (1, .int (l1)), (2, .ref (ra b 10 0)), (3, .ref (ra b 10 2)), (4, .ref (ra b 10 3)), (5, .ref (ra b 10 4)), (6, .ref (ra b 10 5)), (7, .int (l7)), (8, .int (l8)), (9, .int (o53)), (10, .int ((l10 + o47)))] dL_isChild_277 rfl rfl (by decide) rfl ?_
          refine x_goto (pc := 280) C 202 dL_isChild_280 rfl ?_
          exact x_sub [1, 2, 3, 4, 5, 6, 7, 8, 9, 10, 11, 0] rfl (ih _ _ _ _ _ _ _ _ _ hF kx)
        · replace hF := hL
          refine x_icmp_eq (pc := 251) C 257 dL_isChild_251 rfl hF (fun c58 hF => ?_) (fun c58 hF => ?_)
          · refine x_aload_n (pc := 257) C 1 dL_isChild_257 rfl rfl ?_
            refine x_iload_n (pc := 258) C 2 dL_isChild_258 rfl rfl ?_
            refine x_iload (pc := 259) C 10 dL_isChild_259 rfl ?_
            refine cF1_2 (pc := 261) (val := Value.int) C hX hF (fun _ _ h => c_X7_heap l _ b hl _ _ h) vm_X7_heap wq392 ⟨Nat.le_of_ble_eq_true rfl, Nat.le_of_ble_eq_true rfl⟩ rfl rfl (fun _ h => CW.pl h) (Nat.le_of_ble_eq_true rfl) ⟨Nat.zero_le _, Nat.zero_le _⟩ dL_isChild_261 (fun x54 w55 hF => ?_)
            refine x_aload (pc := 264) C 5 dL_isChild_264 rfl ?_
            refine x_iload (pc := 266) C 11 dL_isChild_266 rfl ?_
            refine w_ald (pc := 268) C (vA_m 3 (by decide)) hF dL_isChild_268 (fun x56 hF => ?_)
            refine x_icmp_eq (pc := 269) C 274 dL_isChild_269 rfl hF (fun c57 hF => ?_) (fun c57 hF => ?_)
            · refine x_iinc (pc := 274) C 10 [(9, .int ((l9 + 1))), (10, .int ((l10 + o47))), (0, .ref (b)), (1, .int (l1)), (2, .ref (ra b 10 0)), (3, .ref (ra b 10 2)), (4, .ref (ra b 10 3)), (5, .ref (ra b 10 4)), (6, .ref (ra b 10 5)), (7, .int (l7)), (8, .int (l8)), (11, .int (l11))] dL_isChild_274 rfl rfl (by decide) rfl ?_
              obtain ⟨rfl, rfl⟩ := ret_eq hF
              exact x_sub [2, 3, 4, 5, 6, 7, 8, 9, 10, 0, 1, 11] rfl kJ277
            · exact none_ne hF
          · refine x_goto (pc := 254) C 277 dL_isChild_254 rfl ?_
            obtain ⟨rfl, rfl⟩ := ret_eq hF
            exact x_sub [1, 2, 3, 4, 5, 6, 7, 8, 9, 10, 0, 11] rfl kJ277
      · replace hF := hL
        refine x_if_eq (pc := 230) C 237 dL_isChild_230 rfl hF (fun c48 hF => ?_) (fun c48 hF => ?_)
        · refine x_iconst (pc := 237) C 0 dL_isChild_237 ki_0 ?_
          obtain ⟨rfl, rfl⟩ := ret_eq hF
          exact x_sub [0, 1, 2, 3, 4, 5, 6, 7, 8, 9, 10, 11] rfl kJ238
        · refine x_iconst (pc := 233) C 1 dL_isChild_233 ki_1 ?_
          refine x_goto (pc := 234) C 238 dL_isChild_234 rfl ?_
          obtain ⟨rfl, rfl⟩ := ret_eq hF
          exact x_sub [0, 1, 2, 3, 4, 5, 6, 7, 8, 9, 10, 11] rfl kJ238
set_option maxRecDepth 4000 in
theorem c_L_isChild (l : Launch) (G : xG) (b : Nat) (hl : l.stackTraces = false) (a2 : Int32) {w w' : xWt} {v : Int32} (hF : F_L_isChild a2 w = some (v, w')) : xMetX l G b yL_isChild cL_isChild 13 (some .boolean) (xRX 9 0 0) [.ref (b), .int (a2), .ref (ra b 10 0), .ref (ra b 10 2), .ref (ra b 10 3), .ref (ra b 10 4), .ref (ra b 10 5)] (CW G b w) (.inl (some (.int v))) (CW G b w') 0 0 := by
  refine x_ofX (own := RL) rfl pn_L (Nat.le_of_ble_eq_true rfl) ?_
  intro p e s m args below meth c ha C hr hX hout
  unfold F_L_isChild at hF
  refine x_iconst (pc := 0) C 0 dL_isChild_0 ki_0 ?_
  refine x_istore (pc := 1) C [(7, .int (0)), (0, .ref (b)), (1, .int (a2)), (2, .ref (ra b 10 0)), (3, .ref (ra b 10 2)), (4, .ref (ra b 10 3)), (5, .ref (ra b 10 4)), (6, .ref (ra b 10 5))] dL_isChild_1 (by decide) rfl ?_
  refine x_iconst (pc := 3) C 0 dL_isChild_3 ki_0 ?_
  refine x_istore (pc := 4) C [(8, .int (0)), (7, .int (0)), (0, .ref (b)), (1, .int (a2)), (2, .ref (ra b 10 0)), (3, .ref (ra b 10 2)), (4, .ref (ra b 10 3)), (5, .ref (ra b 10 4)), (6, .ref (ra b 10 5))] dL_isChild_4 (by decide) rfl ?_
  refine x_iconst (pc := 6) C 0 dL_isChild_6 ki_0 ?_
  refine x_istore (pc := 7) C [(9, .int (0)), (8, .int (0)), (7, .int (0)), (0, .ref (b)), (1, .int (a2)), (2, .ref (ra b 10 0)), (3, .ref (ra b 10 2)), (4, .ref (ra b 10 3)), (5, .ref (ra b 10 4)), (6, .ref (ra b 10 5))] dL_isChild_7 (by decide) rfl ?_
  obtain ⟨o39, w40, hL, hF⟩ := bd_some hF
  refine x_sub [3, 4, 5, 6, 7, 8, 9, 2, 1, 0] rfl (s_L_isChild_9 C hl hX _ _ _ _ _ _ _ _ hL ?_)
  refine x_iconst (pc := 193) C 0 dL_isChild_193 ki_0 ?_
  refine x_istore (pc := 194) C [(9, .int (0)), (0, .ref (b)), (1, .int (a2)), (2, .ref (ra b 10 0)), (3, .ref (ra b 10 2)), (4, .ref (ra b 10 3)), (5, .ref (ra b 10 4)), (6, .ref (ra b 10 5)), (7, .int (o39.1)), (8, .int (o39.2.1))] dL_isChild_194 (by decide) rfl ?_
  refine x_iconst (pc := 196) C 0 dL_isChild_196 ki_0 ?_
  refine x_istore (pc := 197) C [(10, .int (0)), (9, .int (0)), (0, .ref (b)), (1, .int (a2)), (2, .ref (ra b 10 0)), (3, .ref (ra b 10 2)), (4, .ref (ra b 10 3)), (5, .ref (ra b 10 4)), (6, .ref (ra b 10 5)), (7, .int (o39.1)), (8, .int (o39.2.1))] dL_isChild_197 (by decide) rfl ?_
  refine x_iconst (pc := 199) C 0 dL_isChild_199 ki_0 ?_
  refine x_istore (pc := 200) C [(11, .int (0)), (10, .int (0)), (9, .int (0)), (0, .ref (b)), (1, .int (a2)), (2, .ref (ra b 10 0)), (3, .ref (ra b 10 2)), (4, .ref (ra b 10 3)), (5, .ref (ra b 10 4)), (6, .ref (ra b 10 5)), (7, .int (o39.1)), (8, .int (o39.2.1))] dL_isChild_200 (by decide) rfl ?_
  obtain ⟨o60, w61, hL, hF⟩ := bd_some hF
  refine x_sub [3, 4, 5, 6, 7, 8, 9, 10, 11, 2, 1, 0] rfl (s_L_isChild_202 C hl hX _ _ _ _ _ _ _ _ _ _ hL ?_)
  refine x_aload_n (pc := 283) C 0 dL_isChild_283 rfl rfl ?_
  refine x_iload_n (pc := 284) C 1 dL_isChild_284 rfl rfl ?_
  refine x_iconst (pc := 285) C 0 dL_isChild_285 ki_0 ?_
  refine cF1_2 (pc := 286) (val := Value.int) C hX hF (fun _ _ h => c_X7_child l _ b hl _ _ h) vm_X7_child wq326 ⟨Nat.le_of_ble_eq_true rfl, Nat.le_of_ble_eq_true rfl⟩ rfl rfl (fun _ h => CW.pl h) (Nat.le_of_ble_eq_true rfl) ⟨Nat.zero_le _, Nat.zero_le _⟩ dL_isChild_286 (fun x62 w63 hF => ?_)
  refine x_aload (pc := 289) C 5 dL_isChild_289 rfl ?_
  refine x_bipush (pc := 291) C 6 dL_isChild_291 kb_6 ?_
  refine x_iload_n (pc := 293) C 1 dL_isChild_293 rfl rfl ?_
  refine x_imul (pc := 294) C dL_isChild_294 ?_
  refine x_iconst (pc := 295) C 1 dL_isChild_295 ki_1 ?_
  refine x_iadd (pc := 296) C dL_isChild_296 ?_
  refine w_ald (pc := 297) C (vA_m 4 (by decide)) hF dL_isChild_297 (fun x64 hF => ?_)
  refine x_icmp_ne (pc := 298) C 433 dL_isChild_298 rfl hF (fun c96 hF => ?_) (fun c96 hF => ?_)
  · exact none_ne hF
  · refine x_aload_n (pc := 301) C 0 dL_isChild_301 rfl rfl ?_
    refine x_iload_n (pc := 302) C 1 dL_isChild_302 rfl rfl ?_
    refine x_iconst (pc := 303) C 1 dL_isChild_303 ki_1 ?_
    refine cF1_2 (pc := 304) (val := Value.int) C hX hF (fun _ _ h => c_X7_child l _ b hl _ _ h) vm_X7_child wq326 ⟨Nat.le_of_ble_eq_true rfl, Nat.le_of_ble_eq_true rfl⟩ rfl rfl (fun _ h => CW.pl h) (Nat.le_of_ble_eq_true rfl) ⟨Nat.zero_le _, Nat.zero_le _⟩ dL_isChild_304 (fun x65 w66 hF => ?_)
    refine x_aload (pc := 307) C 5 dL_isChild_307 rfl ?_
    refine x_bipush (pc := 309) C 6 dL_isChild_309 kb_6 ?_
    refine x_iload_n (pc := 311) C 1 dL_isChild_311 rfl rfl ?_
    refine x_imul (pc := 312) C dL_isChild_312 ?_
    refine x_iconst (pc := 313) C 2 dL_isChild_313 ki_2 ?_
    refine x_iadd (pc := 314) C dL_isChild_314 ?_
    refine w_ald (pc := 315) C (vA_m 4 (by decide)) hF dL_isChild_315 (fun x67 hF => ?_)
    refine x_icmp_ne (pc := 316) C 433 dL_isChild_316 rfl hF (fun c95 hF => ?_) (fun c95 hF => ?_)
    · exact none_ne hF
    · refine x_aload_n (pc := 319) C 0 dL_isChild_319 rfl rfl ?_
      refine x_iload_n (pc := 320) C 1 dL_isChild_320 rfl rfl ?_
      refine x_iconst (pc := 321) C 2 dL_isChild_321 ki_2 ?_
      refine cF1_2 (pc := 322) (val := Value.int) C hX hF (fun _ _ h => c_X7_child l _ b hl _ _ h) vm_X7_child wq326 ⟨Nat.le_of_ble_eq_true rfl, Nat.le_of_ble_eq_true rfl⟩ rfl rfl (fun _ h => CW.pl h) (Nat.le_of_ble_eq_true rfl) ⟨Nat.zero_le _, Nat.zero_le _⟩ dL_isChild_322 (fun x68 w69 hF => ?_)
      refine x_iload (pc := 325) C 7 dL_isChild_325 rfl ?_
      refine x_icmp_ne (pc := 327) C 433 dL_isChild_327 rfl hF (fun c94 hF => ?_) (fun c94 hF => ?_)
      · exact none_ne hF
      · refine x_aload_n (pc := 330) C 0 dL_isChild_330 rfl rfl ?_
        refine x_iload_n (pc := 331) C 1 dL_isChild_331 rfl rfl ?_
        refine x_iconst (pc := 332) C 3 dL_isChild_332 ki_3 ?_
        refine cF1_2 (pc := 333) (val := Value.int) C hX hF (fun _ _ h => c_X7_child l _ b hl _ _ h) vm_X7_child wq326 ⟨Nat.le_of_ble_eq_true rfl, Nat.le_of_ble_eq_true rfl⟩ rfl rfl (fun _ h => CW.pl h) (Nat.le_of_ble_eq_true rfl) ⟨Nat.zero_le _, Nat.zero_le _⟩ dL_isChild_333 (fun x70 w71 hF => ?_)
        refine x_iload (pc := 336) C 8 dL_isChild_336 rfl ?_
        refine x_icmp_ne (pc := 338) C 433 dL_isChild_338 rfl hF (fun c93 hF => ?_) (fun c93 hF => ?_)
        · exact none_ne hF
        · refine x_aload_n (pc := 341) C 0 dL_isChild_341 rfl rfl ?_
          refine x_iload_n (pc := 342) C 1 dL_isChild_342 rfl rfl ?_
          refine x_iconst (pc := 343) C 4 dL_isChild_343 ki_4 ?_
          refine cF1_2 (pc := 344) (val := Value.int) C hX hF (fun _ _ h => c_X7_child l _ b hl _ _ h) vm_X7_child wq326 ⟨Nat.le_of_ble_eq_true rfl, Nat.le_of_ble_eq_true rfl⟩ rfl rfl (fun _ h => CW.pl h) (Nat.le_of_ble_eq_true rfl) ⟨Nat.zero_le _, Nat.zero_le _⟩ dL_isChild_344 (fun x72 w73 hF => ?_)
          refine x_iload (pc := 347) C 9 dL_isChild_347 rfl ?_
          refine x_icmp_ne (pc := 349) C 433 dL_isChild_349 rfl hF (fun c92 hF => ?_) (fun c92 hF => ?_)
          · exact none_ne hF
          · refine x_aload_n (pc := 352) C 0 dL_isChild_352 rfl rfl ?_
            refine x_iload_n (pc := 353) C 1 dL_isChild_353 rfl rfl ?_
            refine x_iconst (pc := 354) C 5 dL_isChild_354 ki_5 ?_
            refine cF1_2 (pc := 355) (val := Value.int) C hX hF (fun _ _ h => c_X7_child l _ b hl _ _ h) vm_X7_child wq326 ⟨Nat.le_of_ble_eq_true rfl, Nat.le_of_ble_eq_true rfl⟩ rfl rfl (fun _ h => CW.pl h) (Nat.le_of_ble_eq_true rfl) ⟨Nat.zero_le _, Nat.zero_le _⟩ dL_isChild_355 (fun x74 w75 hF => ?_)
            refine x_aload (pc := 358) C 5 dL_isChild_358 rfl ?_
            refine x_bipush (pc := 360) C 6 dL_isChild_360 kb_6 ?_
            refine x_iload_n (pc := 362) C 1 dL_isChild_362 rfl rfl ?_
            refine x_imul (pc := 363) C dL_isChild_363 ?_
            refine x_iconst (pc := 364) C 3 dL_isChild_364 ki_3 ?_
            refine x_iadd (pc := 365) C dL_isChild_365 ?_
            refine w_ald (pc := 366) C (vA_m 4 (by decide)) hF dL_isChild_366 (fun x76 hF => ?_)
            refine x_icmp_ne (pc := 367) C 433 dL_isChild_367 rfl hF (fun c91 hF => ?_) (fun c91 hF => ?_)
            · exact none_ne hF
            · refine x_aload_n (pc := 370) C 0 dL_isChild_370 rfl rfl ?_
              refine x_iload_n (pc := 371) C 1 dL_isChild_371 rfl rfl ?_
              refine x_bipush (pc := 372) C 6 dL_isChild_372 kb_6 ?_
              refine cF1_2 (pc := 374) (val := Value.int) C hX hF (fun _ _ h => c_X7_child l _ b hl _ _ h) vm_X7_child wq326 ⟨Nat.le_of_ble_eq_true rfl, Nat.le_of_ble_eq_true rfl⟩ rfl rfl (fun _ h => CW.pl h) (Nat.le_of_ble_eq_true rfl) ⟨Nat.zero_le _, Nat.zero_le _⟩ dL_isChild_374 (fun x77 w78 hF => ?_)
              refine x_aload (pc := 377) C 5 dL_isChild_377 rfl ?_
              refine x_bipush (pc := 379) C 6 dL_isChild_379 kb_6 ?_
              refine x_iload_n (pc := 381) C 1 dL_isChild_381 rfl rfl ?_
              refine x_imul (pc := 382) C dL_isChild_382 ?_
              refine x_iconst (pc := 383) C 4 dL_isChild_383 ki_4 ?_
              refine x_iadd (pc := 384) C dL_isChild_384 ?_
              refine w_ald (pc := 385) C (vA_m 4 (by decide)) hF dL_isChild_385 (fun x79 hF => ?_)
              refine x_icmp_ne (pc := 386) C 433 dL_isChild_386 rfl hF (fun c90 hF => ?_) (fun c90 hF => ?_)
              · exact none_ne hF
              · refine x_aload_n (pc := 389) C 0 dL_isChild_389 rfl rfl ?_
                refine x_iload_n (pc := 390) C 1 dL_isChild_390 rfl rfl ?_
                refine x_bipush (pc := 391) C 7 dL_isChild_391 kb_7 ?_
                refine cF1_2 (pc := 393) (val := Value.int) C hX hF (fun _ _ h => c_X7_child l _ b hl _ _ h) vm_X7_child wq326 ⟨Nat.le_of_ble_eq_true rfl, Nat.le_of_ble_eq_true rfl⟩ rfl rfl (fun _ h => CW.pl h) (Nat.le_of_ble_eq_true rfl) ⟨Nat.zero_le _, Nat.zero_le _⟩ dL_isChild_393 (fun x80 w81 hF => ?_)
                refine x_aload (pc := 396) C 5 dL_isChild_396 rfl ?_
                refine x_bipush (pc := 398) C 6 dL_isChild_398 kb_6 ?_
                refine x_iload_n (pc := 400) C 1 dL_isChild_400 rfl rfl ?_
                refine x_imul (pc := 401) C dL_isChild_401 ?_
                refine x_iconst (pc := 402) C 5 dL_isChild_402 ki_5 ?_
                refine x_iadd (pc := 403) C dL_isChild_403 ?_
                refine w_ald (pc := 404) C (vA_m 4 (by decide)) hF dL_isChild_404 (fun x82 hF => ?_)
                refine x_icmp_ne (pc := 405) C 433 dL_isChild_405 rfl hF (fun c89 hF => ?_) (fun c89 hF => ?_)
                · exact none_ne hF
                · refine x_aload_n (pc := 408) C 0 dL_isChild_408 rfl rfl ?_
                  refine x_iload_n (pc := 409) C 1 dL_isChild_409 rfl rfl ?_
                  refine x_iload (pc := 410) C 9 dL_isChild_410 rfl ?_
                  refine cF1_2 (pc := 412) (val := Value.int) C hX hF (fun _ _ h => c_X7_heap l _ b hl _ _ h) vm_X7_heap wq392 ⟨Nat.le_of_ble_eq_true rfl, Nat.le_of_ble_eq_true rfl⟩ rfl rfl (fun _ h => CW.pl h) (Nat.le_of_ble_eq_true rfl) ⟨Nat.zero_le _, Nat.zero_le _⟩ dL_isChild_412 (fun x83 w84 hF => ?_)
                  refine x_iconst (pc := 415) C (-1) dL_isChild_415 ki_m1 ?_
                  refine x_icmp_ne (pc := 416) C 433 dL_isChild_416 rfl hF (fun c88 hF => ?_) (fun c88 hF => ?_)
                  · exact none_ne hF
                  · refine x_aload_n (pc := 419) C 0 dL_isChild_419 rfl rfl ?_
                    refine x_iload_n (pc := 420) C 1 dL_isChild_420 rfl rfl ?_
                    refine cF1_1 (pc := 421) (val := Value.int) C hX hF (fun _ _ h => c_X7_ifRested l _ b hl _ h) vm_X7_ifRested wq400 ⟨Nat.le_of_ble_eq_true rfl, Nat.le_of_ble_eq_true rfl⟩ rfl rfl (fun _ h => CW.pl h) (Nat.le_of_ble_eq_true rfl) ⟨Nat.zero_le _, Nat.zero_le _⟩ dL_isChild_421 (fun x85 w86 hF => ?_)
                    refine x_iload (pc := 424) C 10 dL_isChild_424 rfl ?_
                    refine x_icmp_ne (pc := 426) C 433 dL_isChild_426 rfl hF (fun c87 hF => ?_) (fun c87 hF => ?_)
                    · exact none_ne hF
                    · refine x_iconst (pc := 429) C 1 dL_isChild_429 ki_1 ?_
                      refine x_goto (pc := 430) C 434 dL_isChild_430 rfl ?_
                      obtain ⟨rfl, rfl⟩ := ret_eq hF
                      refine xv_ret rfl (Nat.le_of_ble_eq_true rfl) (Nat.le_of_ble_eq_true rfl) ?_
                      exact x_zret (pc := 434) C rfl hr rfl (fun _ h => h) dL_isChild_434
set_option maxRecDepth 4000 in
theorem s_L_areChildren_9 (C : xC p m c s args meth G b cL_areChildren 10 RL) (hl : l.stackTraces = false) (hX : xF b s) : ∀ (n9 cells slots : Nat) (l6 : Int32) (l7 : Int32) (l8 : Int32) (w : xWt) (o : (Int32 × Int32 × Int32)) (w' : xWt), cells + n9 ≤ 6 → slots + 6 * n9 ≤ 36 → L_L_areChildren_9 n9 l6 l7 l8 w = some (o, w') → (∀ cells slots : Nat, cells ≤ 6 → slots ≤ 36 → xW p l e (xRX 10 6 36) s m args below meth c Q b 10 (CW G b w') cells slots 168 [(0, .ref (b)), (1, .ref (ra b 10 0)), (2, .ref (ra b 10 2)), (3, .ref (ra b 10 3)), (4, .ref (ra b 10 4)), (5, .ref (ra b 10 5)), (6, .int (o.1)), (7, .int (o.2.1)), (8, .int (o.2.2))] []) → xW p l e (xRX 10 6 36) s m args below meth c Q b 10 (CW G b w) cells slots 9 [(0, .ref (b)), (1, .ref (ra b 10 0)), (2, .ref (ra b 10 2)), (3, .ref (ra b 10 3)), (4, .ref (ra b 10 4)), (5, .ref (ra b 10 5)), (6, .int (l6)), (7, .int (l7)), (8, .int (l8))] [] := by
  intro n9
  induction n9 with
  | zero => intro cells slots l6 l7 l8 w o w' hc hs hF; exact none_ne (show none = some _ from hF)
  | succ n9 ih =>
    intro cells slots l6 l7 l8 w o w' hc hs hF kx
    replace hF : B_L_areChildren_9 (L_L_areChildren_9 n9) l6 l7 l8 w = some (o, w') := hF
    unfold B_L_areChildren_9 at hF
    refine x_iload (pc := 9) C 8 dL_areChildren_9 rfl ?_
    refine x_iconst (pc := 11) C 5 dL_areChildren_11 ki_5 ?_
    refine x_icmp_ge (pc := 12) C 168 dL_areChildren_12 rfl hF (fun c32 hF => ?_) (fun c32 hF => ?_)
    · obtain ⟨rfl, rfl⟩ := ret_eq hF
      exact x_sub [0, 1, 2, 3, 4, 5, 6, 7, 8] rfl (kx _ _ (by omega) (by omega))
    · refine x_aload (pc := 15) C 4 dL_areChildren_15 rfl ?_
      refine x_bipush (pc := 17) C 6 dL_areChildren_17 kb_6 ?_
      refine x_iload (pc := 19) C 8 dL_areChildren_19 rfl ?_
      refine x_imul (pc := 21) C dL_areChildren_21 ?_
      refine w_ald (pc := 22) C (vA_m 4 (by decide)) hF dL_areChildren_22 (fun x1 hF => ?_)
      obtain ⟨o3, w2, hL, hF⟩ := bd_some hF
      refine x_join (P1 := CW G b w2) (pcJ := 162) (lvJ := [(0, .ref (b)), (1, .ref (ra b 10 0)), (2, .ref (ra b 10 2)), (3, .ref (ra b 10 3)), (4, .ref (ra b 10 4)), (5, .ref (ra b 10 5)), (6, .int (o3.1)), (7, .int (o3.2)), (8, .int (l8))]) (stJ := []) (cells + 1) (slots + 6) ?_ (fun kJ162 => ?_)
      · refine x_iinc (pc := 162) C 8 [(8, .int ((l8 + 1))), (0, .ref (b)), (1, .ref (ra b 10 0)), (2, .ref (ra b 10 2)), (3, .ref (ra b 10 3)), (4, .ref (ra b 10 4)), (5, .ref (ra b 10 5)), (6, .int (o3.1)), (7, .int (o3.2))] dL_areChildren_162 rfl rfl (by decide) rfl ?_
        refine x_goto (pc := 165) C 9 dL_areChildren_165 rfl ?_
        exact x_sub [1, 2, 3, 4, 5, 6, 7, 8, 0] rfl (ih _ _ _ _ _ _ _ _ (by omega) (by omega) hF kx)
      · replace hF := hL
        refine x_if_ne (pc := 23) C 40 dL_areChildren_23 rfl hF (fun c31 hF => ?_) (fun c31 hF => ?_)
        · refine x_aload_n (pc := 40) C 0 dL_areChildren_40 rfl rfl ?_
          refine x_iload (pc := 41) C 8 dL_areChildren_41 rfl ?_
          refine x_aload_n (pc := 43) C 1 dL_areChildren_43 rfl rfl ?_
          refine x_aload_n (pc := 44) C 2 dL_areChildren_44 rfl rfl ?_
          refine x_aload_n (pc := 45) C 3 dL_areChildren_45 rfl rfl ?_
          refine x_aload (pc := 46) C 4 dL_areChildren_46 rfl ?_
          refine x_aload (pc := 48) C 5 dL_areChildren_48 rfl ?_
          refine cX1_7 (pc := 50) C hX hF (fun _ _ h => c_L_isChild l _ b hl _ h) sm_L_isChild wq353 rfl rfl ⟨Nat.le_of_ble_eq_true rfl, Nat.le_of_ble_eq_true rfl⟩ (Nat.le_of_ble_eq_true rfl) ⟨show _ ≤ 6 by omega, show _ ≤ 36 by omega⟩ dL_areChildren_50 (fun x5 w4 hF => ?_)
          refine x_if_eq (pc := 53) C 98 dL_areChildren_53 rfl hF (fun c27 hF => ?_) (fun c27 hF => ?_)
          · exact none_ne hF
          · refine x_aload_n (pc := 56) C 0 dL_areChildren_56 rfl rfl ?_
            refine x_iload (pc := 57) C 8 dL_areChildren_57 rfl ?_
            refine x_iconst (pc := 59) C 0 dL_areChildren_59 ki_0 ?_
            refine cF1_2 (pc := 60) (val := Value.int) C hX hF (fun _ _ h => c_X7_ifRaked l _ b hl _ _ h) vm_X7_ifRaked wq413 ⟨Nat.le_of_ble_eq_true rfl, Nat.le_of_ble_eq_true rfl⟩ rfl rfl (fun _ h => CW.pl h) (Nat.le_of_ble_eq_true rfl) ⟨show _ ≤ 6 by omega, show _ ≤ 36 by omega⟩ dL_areChildren_60 (fun x6 w7 hF => ?_)
            refine x_iload (pc := 63) C 8 dL_areChildren_63 rfl ?_
            refine x_iconst (pc := 65) C 0 dL_areChildren_65 ki_0 ?_
            refine x_aload_n (pc := 66) C 1 dL_areChildren_66 rfl rfl ?_
            refine x_aload_n (pc := 67) C 2 dL_areChildren_67 rfl rfl ?_
            refine x_aload_n (pc := 68) C 3 dL_areChildren_68 rfl rfl ?_
            refine x_aload (pc := 69) C 5 dL_areChildren_69 rfl ?_
            refine cS1_6 (pc := 71) (val := Value.int) C hF (fun _ _ h => c_L_burns l _ b _ _ h) sm_L_burns wq418 rfl rfl ⟨Nat.le_of_ble_eq_true rfl, Nat.le_of_ble_eq_true rfl⟩ (Nat.le_of_ble_eq_true rfl) ⟨show _ ≤ 6 by omega, show _ ≤ 36 by omega⟩ dL_areChildren_71 (fun x9 w8 hF => ?_)
            refine x_icmp_ne (pc := 74) C 98 dL_areChildren_74 rfl hF (fun c26 hF => ?_) (fun c26 hF => ?_)
            · exact none_ne hF
            · refine x_aload_n (pc := 77) C 0 dL_areChildren_77 rfl rfl ?_
              refine x_iload (pc := 78) C 8 dL_areChildren_78 rfl ?_
              refine x_iconst (pc := 80) C 1 dL_areChildren_80 ki_1 ?_
              refine cF1_2 (pc := 81) (val := Value.int) C hX hF (fun _ _ h => c_X7_ifRaked l _ b hl _ _ h) vm_X7_ifRaked wq413 ⟨Nat.le_of_ble_eq_true rfl, Nat.le_of_ble_eq_true rfl⟩ rfl rfl (fun _ h => CW.pl h) (Nat.le_of_ble_eq_true rfl) ⟨show _ ≤ 6 by omega, show _ ≤ 36 by omega⟩ dL_areChildren_81 (fun x10 w11 hF => ?_)
              refine x_iload (pc := 84) C 8 dL_areChildren_84 rfl ?_
              refine x_iconst (pc := 86) C 1 dL_areChildren_86 ki_1 ?_
              refine x_aload_n (pc := 87) C 1 dL_areChildren_87 rfl rfl ?_
              refine x_aload_n (pc := 88) C 2 dL_areChildren_88 rfl rfl ?_
              refine x_aload_n (pc := 89) C 3 dL_areChildren_89 rfl rfl ?_
              refine x_aload (pc := 90) C 5 dL_areChildren_90 rfl ?_
              refine cS1_6 (pc := 92) (val := Value.int) C hF (fun _ _ h => c_L_burns l _ b _ _ h) sm_L_burns wq418 rfl rfl ⟨Nat.le_of_ble_eq_true rfl, Nat.le_of_ble_eq_true rfl⟩ (Nat.le_of_ble_eq_true rfl) ⟨show _ ≤ 6 by omega, show _ ≤ 36 by omega⟩ dL_areChildren_92 (fun x13 w12 hF => ?_)
              refine x_icmp_eq (pc := 95) C 100 dL_areChildren_95 rfl hF (fun c25 hF => ?_) (fun c25 hF => ?_)
              · refine x_iload (pc := 100) C 8 dL_areChildren_100 rfl ?_
                refine x_aload_n (pc := 102) C 1 dL_areChildren_102 rfl rfl ?_
                refine x_bipush (pc := 103) C 8 dL_areChildren_103 kb_8 ?_
                refine w_ald (pc := 105) C (vA_m 0 (by decide)) hF dL_areChildren_105 (fun x14 hF => ?_)
                refine x_aload_n (pc := 106) C 1 dL_areChildren_106 rfl rfl ?_
                refine x_aload_n (pc := 107) C 2 dL_areChildren_107 rfl rfl ?_
                refine x_aload_n (pc := 108) C 3 dL_areChildren_108 rfl rfl ?_
                refine x_aload (pc := 109) C 5 dL_areChildren_109 rfl ?_
                refine cS1_6 (pc := 111) (val := Value.int) C hF (fun _ _ h => c_L_burns l _ b _ _ h) sm_L_burns wq418 rfl rfl ⟨Nat.le_of_ble_eq_true rfl, Nat.le_of_ble_eq_true rfl⟩ (Nat.le_of_ble_eq_true rfl) ⟨show _ ≤ 6 by omega, show _ ≤ 36 by omega⟩ dL_areChildren_111 (fun x16 w15 hF => ?_)
                refine x_istore (pc := 114) C [(9, .int (x16)), (0, .ref (b)), (1, .ref (ra b 10 0)), (2, .ref (ra b 10 2)), (3, .ref (ra b 10 3)), (4, .ref (ra b 10 4)), (5, .ref (ra b 10 5)), (6, .int (l6)), (7, .int (l7)), (8, .int (l8))] dL_areChildren_114 (by decide) rfl ?_
                refine x_iload (pc := 116) C 0 dL_areChildren_116 rfl ?_
                refine x_iload (pc := 118) C 8 dL_areChildren_118 rfl ?_
                refine x_icmp_gt (pc := 120) C 154 dL_areChildren_120 rfl hF (fun c24 hF => ?_) (fun c24 hF => ?_)
                · refine x_iload (pc := 154) C 9 dL_areChildren_154 rfl ?_
                  refine x_istore (pc := 156) C [(6, .int (l8)), (9, .int (x16)), (0, .ref (b)), (1, .ref (ra b 10 0)), (2, .ref (ra b 10 2)), (3, .ref (ra b 10 3)), (4, .ref (ra b 10 4)), (5, .ref (ra b 10 5)), (7, .int (l7)), (8, .int (l8))] dL_areChildren_156 (by decide) rfl ?_
                  refine x_iload (pc := 158) C 1 dL_areChildren_158 rfl ?_
                  refine x_istore (pc := 160) C [(7, .int (x16)), (6, .int (l8)), (9, .int (x16)), (0, .ref (b)), (1, .ref (ra b 10 0)), (2, .ref (ra b 10 2)), (3, .ref (ra b 10 3)), (4, .ref (ra b 10 4)), (5, .ref (ra b 10 5)), (8, .int (l8))] dL_areChildren_160 (by decide) rfl ?_
                  obtain ⟨rfl, rfl⟩ := ret_eq hF
                  refine x_widen (k := (cells + 1)) (n := (slots + 6)) (by omega) (by omega) ?_
                  exact x_sub [3, 4, 5, 6, 7, 8, 1, 0, 9] rfl kJ162
                · refine x_iload (pc := 123) C 0 dL_areChildren_123 rfl ?_
                  refine x_if_le (pc := 125) C 162 dL_areChildren_125 rfl hF (fun c23 hF => ?_) (fun c23 hF => ?_)
                  · obtain ⟨rfl, rfl⟩ := ret_eq hF
                    refine x_widen (k := (cells + 1)) (n := (slots + 6)) (by omega) (by omega) ?_
                    exact x_sub [1, 2, 3, 4, 5, 6, 7, 8, 9] rfl kJ162
                  · refine x_iload (pc := 128) C 0 dL_areChildren_128 rfl ?_
                    refine x_iload (pc := 130) C 8 dL_areChildren_130 rfl ?_
                    refine x_icmp_ne (pc := 132) C 162 dL_areChildren_132 rfl hF (fun c22 hF => ?_) (fun c22 hF => ?_)
                    · obtain ⟨rfl, rfl⟩ := ret_eq hF
                      refine x_widen (k := (cells + 1)) (n := (slots + 6)) (by omega) (by omega) ?_
                      exact x_sub [1, 2, 3, 4, 5, 6, 7, 8, 9] rfl kJ162
                    · refine x_iload (pc := 135) C 9 dL_areChildren_135 rfl ?_
                      refine x_aload_n (pc := 137) C 2 dL_areChildren_137 rfl rfl ?_
                      refine x_aload_n (pc := 138) C 3 dL_areChildren_138 rfl rfl ?_
                      refine x_aload_n (pc := 139) C 4 dL_areChildren_139 rfl rfl ?_
                      refine cS1_4 (pc := 140) (val := Value.int) C hF (fun _ _ h => c_L_heap l _ b _ h) sm_L_heap wq421 rfl rfl ⟨Nat.le_of_ble_eq_true rfl, Nat.le_of_ble_eq_true rfl⟩ (Nat.le_of_ble_eq_true rfl) ⟨show _ ≤ 6 by omega, show _ ≤ 36 by omega⟩ dL_areChildren_140 (fun x18 w17 hF => ?_)
                      refine x_iload (pc := 143) C 7 dL_areChildren_143 rfl ?_
                      refine x_aload_n (pc := 145) C 2 dL_areChildren_145 rfl rfl ?_
                      refine x_aload_n (pc := 146) C 3 dL_areChildren_146 rfl rfl ?_
                      refine x_aload_n (pc := 147) C 4 dL_areChildren_147 rfl rfl ?_
                      refine cS1_4 (pc := 148) (val := Value.int) C hF (fun _ _ h => c_L_heap l _ b _ h) sm_L_heap wq421 rfl rfl ⟨Nat.le_of_ble_eq_true rfl, Nat.le_of_ble_eq_true rfl⟩ (Nat.le_of_ble_eq_true rfl) ⟨show _ ≤ 6 by omega, show _ ≤ 36 by omega⟩ dL_areChildren_148 (fun x20 w19 hF => ?_)
                      refine x_icmp_le (pc := 151) C 162 dL_areChildren_151 rfl hF (fun c21 hF => ?_) (fun c21 hF => ?_)
                      · obtain ⟨rfl, rfl⟩ := ret_eq hF
                        refine x_widen (k := (cells + 1)) (n := (slots + 6)) (by omega) (by omega) ?_
                        exact x_sub [1, 2, 3, 4, 5, 6, 7, 8, 9] rfl kJ162
                      · refine x_iload (pc := 154) C 9 dL_areChildren_154 rfl ?_
                        refine x_istore (pc := 156) C [(6, .int (l8)), (9, .int (x16)), (0, .ref (b)), (1, .ref (ra b 10 0)), (2, .ref (ra b 10 2)), (3, .ref (ra b 10 3)), (4, .ref (ra b 10 4)), (5, .ref (ra b 10 5)), (7, .int (l7)), (8, .int (l8))] dL_areChildren_156 (by decide) rfl ?_
                        refine x_iload (pc := 158) C 1 dL_areChildren_158 rfl ?_
                        refine x_istore (pc := 160) C [(7, .int (x16)), (6, .int (l8)), (9, .int (x16)), (0, .ref (b)), (1, .ref (ra b 10 0)), (2, .ref (ra b 10 2)), (3, .ref (ra b 10 3)), (4, .ref (ra b 10 4)), (5, .ref (ra b 10 5)), (8, .int (l8))] dL_areChildren_160 (by decide) rfl ?_
                        obtain ⟨rfl, rfl⟩ := ret_eq hF
                        refine x_widen (k := (cells + 1)) (n := (slots + 6)) (by omega) (by omega) ?_
                        exact x_sub [3, 4, 5, 6, 7, 8, 1, 0, 9] rfl kJ162
              · exact none_ne hF
        · refine x_aload_n (pc := 26) C 0 dL_areChildren_26 rfl rfl ?_
          refine x_iload (pc := 27) C 8 dL_areChildren_27 rfl ?_
          refine x_iconst (pc := 29) C 0 dL_areChildren_29 ki_0 ?_
          refine cL1_3 (pc := 30) C hX hF (fun _ _ h => c_L_child l _ b hl _ _ h) wq323 wq104 wq322 hd_L_child wq321 rfl rfl ⟨Nat.le_of_ble_eq_true rfl, Nat.le_of_ble_eq_true rfl⟩ (Nat.le_of_ble_eq_true rfl) ⟨show _ ≤ 6 by omega, show _ ≤ 36 by omega⟩ dL_areChildren_30 (fun x28 w29 hF => ?_)
          refine x_bipush (pc := 33) C (-31) dL_areChildren_33 kb_m31 ?_
          refine x_icmp_eq (pc := 35) C 162 dL_areChildren_35 rfl hF (fun c30 hF => ?_) (fun c30 hF => ?_)
          · obtain ⟨rfl, rfl⟩ := ret_eq hF
            exact x_sub [0, 1, 2, 3, 4, 5, 6, 7, 8] rfl kJ162
          · exact none_ne hF
set_option maxRecDepth 4000 in
theorem c_L_areChildren (l : Launch) (G : xG) (b : Nat) (hl : l.stackTraces = false)  {w w' : xWt} {v : Int32} (hF : F_L_areChildren w = some (v, w')) : xMetX l G b yL_areChildren cL_areChildren 10 (some .boolean) (xRX 10 6 36) [.ref (b), .ref (ra b 10 0), .ref (ra b 10 2), .ref (ra b 10 3), .ref (ra b 10 4), .ref (ra b 10 5)] (CW G b w) (.inl (some (.int v))) (CW G b w') 6 36 := by
  refine x_ofX (own := RL) rfl pn_L (Nat.le_of_ble_eq_true rfl) ?_
  intro p e s m args below meth c ha C hr hX hout
  unfold F_L_areChildren at hF
  refine x_iconst (pc := 0) C (-1) dL_areChildren_0 ki_m1 ?_
  refine x_istore (pc := 1) C [(6, .int ((-1))), (0, .ref (b)), (1, .ref (ra b 10 0)), (2, .ref (ra b 10 2)), (3, .ref (ra b 10 3)), (4, .ref (ra b 10 4)), (5, .ref (ra b 10 5))] dL_areChildren_1 (by decide) rfl ?_
  refine x_iconst (pc := 3) C 0 dL_areChildren_3 ki_0 ?_
  refine x_istore (pc := 4) C [(7, .int (0)), (6, .int ((-1))), (0, .ref (b)), (1, .ref (ra b 10 0)), (2, .ref (ra b 10 2)), (3, .ref (ra b 10 3)), (4, .ref (ra b 10 4)), (5, .ref (ra b 10 5))] dL_areChildren_4 (by decide) rfl ?_
  refine x_iconst (pc := 6) C 0 dL_areChildren_6 ki_0 ?_
  refine x_istore (pc := 7) C [(8, .int (0)), (7, .int (0)), (6, .int ((-1))), (0, .ref (b)), (1, .ref (ra b 10 0)), (2, .ref (ra b 10 2)), (3, .ref (ra b 10 3)), (4, .ref (ra b 10 4)), (5, .ref (ra b 10 5))] dL_areChildren_7 (by decide) rfl ?_
  obtain ⟨o33, w34, hL, hF⟩ := bd_some hF
  refine x_sub [3, 4, 5, 6, 7, 8, 2, 1, 0] rfl (s_L_areChildren_9 C hl hX _ _ _ _ _ _ _ _ _ (by omega) (by omega) hL (fun cells slots hc9 hs9 => ?_))
  refine x_aload_n (pc := 168) C 0 dL_areChildren_168 rfl rfl ?_
  refine cV1_0 (pc := 169) (val := Value.int) C hF (fun _ _ h => c_X7_bestRake l _ b h) vm_X7_bestRake wq424 rfl rfl ⟨Nat.le_of_ble_eq_true rfl, Nat.le_of_ble_eq_true rfl⟩ rfl rfl (fun _ h => CW.pl h) (Nat.le_of_ble_eq_true rfl) ⟨show _ ≤ 6 by omega, show _ ≤ 36 by omega⟩ dL_areChildren_169 (fun x35 w36 hF => ?_)
  refine x_iload (pc := 172) C 6 dL_areChildren_172 rfl ?_
  refine x_icmp_ne (pc := 174) C 181 dL_areChildren_174 rfl hF (fun c37 hF => ?_) (fun c37 hF => ?_)
  · exact none_ne hF
  · refine x_iconst (pc := 177) C 1 dL_areChildren_177 ki_1 ?_
    refine x_goto (pc := 178) C 182 dL_areChildren_178 rfl ?_
    obtain ⟨rfl, rfl⟩ := ret_eq hF
    refine xv_ret rfl hc9 hs9 ?_
    exact x_zret (pc := 182) C rfl hr rfl (fun _ h => h) dL_areChildren_182
set_option maxRecDepth 4000 in
theorem s_L_areLeaves_25 (C : xC p m c s args meth G b cL_areLeaves 9 RL) (hl : l.stackTraces = false) (hX : xF b s) : ∀ (n9 : Nat) (l5 : Int32) (l6 : Int32) (l7 : Int32) (l8 : Int32) (w : xWt) (o : (Int32 × Int32)) (w' : xWt), L_L_areLeaves_25 n9 l5 l6 l7 l8 w = some (o, w') → xW p l e (xRX 8 0 0) s m args below meth c Q b 9 (CW G b w') 0 0 78 [(0, .ref (b)), (1, .ref (ra b 10 0)), (2, .ref (ra b 10 1)), (3, .ref (ra b 10 2)), (4, .ref (ra b 10 5)), (5, .int (l5)), (6, .int (l6)), (7, .int (o.1)), (8, .int (o.2))] [] → xW p l e (xRX 8 0 0) s m args below meth c Q b 9 (CW G b w) 0 0 25 [(0, .ref (b)), (1, .ref (ra b 10 0)), (2, .ref (ra b 10 1)), (3, .ref (ra b 10 2)), (4, .ref (ra b 10 5)), (5, .int (l5)), (6, .int (l6)), (7, .int (l7)), (8, .int (l8))] [] := by
  intro n9
  induction n9 with
  | zero => intro l5 l6 l7 l8 w o w' hF; exact none_ne (show none = some _ from hF)
  | succ n9 ih =>
    intro l5 l6 l7 l8 w o w' hF kx
    replace hF : B_L_areLeaves_25 (L_L_areLeaves_25 n9) l5 l6 l7 l8 w = some (o, w') := hF
    unfold B_L_areLeaves_25 at hF
    refine x_iload (pc := 25) C 8 dL_areLeaves_25 rfl ?_
    refine x_bipush (pc := 27) C 15 dL_areLeaves_27 kb_15 ?_
    refine x_icmp_ge (pc := 29) C 78 dL_areLeaves_29 rfl hF (fun c11 hF => ?_) (fun c11 hF => ?_)
    · obtain ⟨rfl, rfl⟩ := ret_eq hF
      exact x_sub [0, 1, 2, 3, 4, 5, 6, 7, 8] rfl kx
    · refine x_iload (pc := 32) C 7 dL_areLeaves_32 rfl ?_
      refine x_aload (pc := 34) C 4 dL_areLeaves_34 rfl ?_
      refine x_iconst (pc := 36) C 2 dL_areLeaves_36 ki_2 ?_
      refine x_iload (pc := 37) C 8 dL_areLeaves_37 rfl ?_
      refine x_imul (pc := 39) C dL_areLeaves_39 ?_
      refine w_ald (pc := 40) C (vA_m 5 (by decide)) hF dL_areLeaves_40 (fun x4 hF => ?_)
      refine x_iconst (pc := 41) C 2 dL_areLeaves_41 ki_2 ?_
      obtain ⟨o6, w5, hL, hF⟩ := bd_some hF
      refine x_join (P1 := CW G b w5) (pcJ := 69) (lvJ := [(0, .ref (b)), (1, .ref (ra b 10 0)), (2, .ref (ra b 10 1)), (3, .ref (ra b 10 2)), (4, .ref (ra b 10 5)), (5, .int (l5)), (6, .int (l6)), (7, .int (l7)), (8, .int (l8))]) (stJ := [.int (o6), .int (l7)]) 0 0 ?_ (fun kJ69 => ?_)
      · refine x_ior (pc := 69) C dL_areLeaves_69 ?_
        refine x_istore (pc := 70) C [(7, .int ((l7 ||| o6))), (0, .ref (b)), (1, .ref (ra b 10 0)), (2, .ref (ra b 10 1)), (3, .ref (ra b 10 2)), (4, .ref (ra b 10 5)), (5, .int (l5)), (6, .int (l6)), (8, .int (l8))] dL_areLeaves_70 (by decide) rfl ?_
        refine x_iinc (pc := 72) C 8 [(8, .int ((l8 + 1))), (7, .int ((l7 ||| o6))), (0, .ref (b)), (1, .ref (ra b 10 0)), (2, .ref (ra b 10 1)), (3, .ref (ra b 10 2)), (4, .ref (ra b 10 5)), (5, .int (l5)), (6, .int (l6))] dL_areLeaves_72 rfl rfl (by decide) rfl ?_
        refine x_goto (pc := 75) C 25 dL_areLeaves_75 rfl ?_
        exact x_sub [2, 3, 4, 5, 6, 7, 8, 1, 0] rfl (ih _ _ _ _ _ _ _ hF kx)
      · replace hF := hL
        refine x_icmp_ne (pc := 42) C 68 dL_areLeaves_42 rfl hF (fun c10 hF => ?_) (fun c10 hF => ?_)
        · refine x_iconst (pc := 68) C 0 dL_areLeaves_68 ki_0 ?_
          obtain ⟨rfl, rfl⟩ := ret_eq hF
          exact x_sub [0, 1, 2, 3, 4, 5, 6, 7, 8] rfl kJ69
        · refine x_aload (pc := 45) C 4 dL_areLeaves_45 rfl ?_
          refine x_iconst (pc := 47) C 2 dL_areLeaves_47 ki_2 ?_
          refine x_iload (pc := 48) C 8 dL_areLeaves_48 rfl ?_
          refine x_imul (pc := 50) C dL_areLeaves_50 ?_
          refine x_iconst (pc := 51) C 1 dL_areLeaves_51 ki_1 ?_
          refine x_iadd (pc := 52) C dL_areLeaves_52 ?_
          refine w_ald (pc := 53) C (vA_m 5 (by decide)) hF dL_areLeaves_53 (fun x7 hF => ?_)
          refine x_iload (pc := 54) C 5 dL_areLeaves_54 rfl ?_
          refine x_icmp_ne (pc := 56) C 68 dL_areLeaves_56 rfl hF (fun c9 hF => ?_) (fun c9 hF => ?_)
          · refine x_iconst (pc := 68) C 0 dL_areLeaves_68 ki_0 ?_
            obtain ⟨rfl, rfl⟩ := ret_eq hF
            exact x_sub [0, 1, 2, 3, 4, 5, 6, 7, 8] rfl kJ69
          · refine x_iconst (pc := 59) C 1 dL_areLeaves_59 ki_1 ?_
            refine x_iload (pc := 60) C 8 dL_areLeaves_60 rfl ?_
            refine x_iconst (pc := 62) C 3 dL_areLeaves_62 ki_3 ?_
            refine y_idiv (pc := 63) C dL_areLeaves_63 hF (fun x8 hF => ?_)
            refine x_ishl (pc := 64) C dL_areLeaves_64 ?_
            refine x_goto (pc := 65) C 69 dL_areLeaves_65 rfl ?_
            obtain ⟨rfl, rfl⟩ := ret_eq hF
            exact x_sub [0, 1, 2, 3, 4, 5, 6, 7, 8] rfl kJ69
set_option maxRecDepth 4000 in
theorem s_L_areLeaves_3 (C : xC p m c s args meth G b cL_areLeaves 9 RL) (hl : l.stackTraces = false) (hX : xF b s) : ∀ (n9 : Nat) (l5 : Int32) (w : xWt) (o : (Int32)) (w' : xWt), L_L_areLeaves_3 n9 l5 w = some (o, w') → xW p l e (xRX 8 0 0) s m args below meth c Q b 9 (CW G b w') 0 0 304 [(0, .ref (b)), (1, .ref (ra b 10 0)), (2, .ref (ra b 10 1)), (3, .ref (ra b 10 2)), (4, .ref (ra b 10 5)), (5, .int (o))] [] → xW p l e (xRX 8 0 0) s m args below meth c Q b 9 (CW G b w) 0 0 3 [(0, .ref (b)), (1, .ref (ra b 10 0)), (2, .ref (ra b 10 1)), (3, .ref (ra b 10 2)), (4, .ref (ra b 10 5)), (5, .int (l5))] [] := by
  intro n9
  induction n9 with
  | zero => intro l5 w o w' hF; exact none_ne (show none = some _ from hF)
  | succ n9 ih =>
    intro l5 w o w' hF kx
    replace hF : B_L_areLeaves_3 (L_L_areLeaves_3 n9) l5 w = some (o, w') := hF
    unfold B_L_areLeaves_3 at hF
    refine x_iload (pc := 3) C 5 dL_areLeaves_3 rfl ?_
    refine x_aload_n (pc := 5) C 1 dL_areLeaves_5 rfl rfl ?_
    refine x_iconst (pc := 6) C 1 dL_areLeaves_6 ki_1 ?_
    refine w_ald (pc := 7) C (vA_m 0 (by decide)) hF dL_areLeaves_7 (fun x1 hF => ?_)
    refine x_icmp_ge (pc := 8) C 304 dL_areLeaves_8 rfl hF (fun c67 hF => ?_) (fun c67 hF => ?_)
    · obtain ⟨rfl, rfl⟩ := ret_eq hF
      exact x_sub [0, 1, 2, 3, 4, 5] rfl kx
    · refine x_iload (pc := 11) C 5 dL_areLeaves_11 rfl ?_
      refine x_aload_n (pc := 13) C 3 dL_areLeaves_13 rfl rfl ?_
      refine cS1_2 (pc := 14) (val := Value.int) C hF (fun _ _ h => c_L_where l _ b _ h) sm_L_where wq112 rfl rfl ⟨Nat.le_of_ble_eq_true rfl, Nat.le_of_ble_eq_true rfl⟩ (Nat.le_of_ble_eq_true rfl) ⟨Nat.zero_le _, Nat.zero_le _⟩ dL_areLeaves_14 (fun x3 w2 hF => ?_)
      refine x_istore (pc := 17) C [(6, .int (x3)), (0, .ref (b)), (1, .ref (ra b 10 0)), (2, .ref (ra b 10 1)), (3, .ref (ra b 10 2)), (4, .ref (ra b 10 5)), (5, .int (l5))] dL_areLeaves_17 (by decide) rfl ?_
      refine x_iconst (pc := 19) C 0 dL_areLeaves_19 ki_0 ?_
      refine x_istore (pc := 20) C [(7, .int (0)), (6, .int (x3)), (0, .ref (b)), (1, .ref (ra b 10 0)), (2, .ref (ra b 10 1)), (3, .ref (ra b 10 2)), (4, .ref (ra b 10 5)), (5, .int (l5))] dL_areLeaves_20 (by decide) rfl ?_
      refine x_iconst (pc := 22) C 0 dL_areLeaves_22 ki_0 ?_
      refine x_istore (pc := 23) C [(8, .int (0)), (7, .int (0)), (6, .int (x3)), (0, .ref (b)), (1, .ref (ra b 10 0)), (2, .ref (ra b 10 1)), (3, .ref (ra b 10 2)), (4, .ref (ra b 10 5)), (5, .int (l5))] dL_areLeaves_23 (by decide) rfl ?_
      obtain ⟨o12, w13, hL, hF⟩ := bd_some hF
      refine x_sub [3, 4, 5, 6, 7, 8, 2, 1, 0] rfl (s_L_areLeaves_25 C hl hX _ _ _ _ _ _ _ _ hL ?_)
      refine x_aload_n (pc := 78) C 0 dL_areLeaves_78 rfl rfl ?_
      refine x_iload (pc := 79) C 5 dL_areLeaves_79 rfl ?_
      refine x_iconst (pc := 81) C 0 dL_areLeaves_81 ki_0 ?_
      refine cF1_2 (pc := 82) (val := Value.int) C hX hF (fun _ _ h => c_X7_leaf l _ b hl _ _ h) vm_X7_leaf wq254 ⟨Nat.le_of_ble_eq_true rfl, Nat.le_of_ble_eq_true rfl⟩ rfl rfl (fun _ h => CW.pl h) (Nat.le_of_ble_eq_true rfl) ⟨Nat.zero_le _, Nat.zero_le _⟩ dL_areLeaves_82 (fun x14 w15 hF => ?_)
      refine x_aload_n (pc := 85) C 3 dL_areLeaves_85 rfl rfl ?_
      refine x_iload (pc := 86) C 5 dL_areLeaves_86 rfl ?_
      refine w_ald (pc := 88) C (vA_m 2 (by decide)) hF dL_areLeaves_88 (fun x16 hF => ?_)
      refine x_bipush (pc := 89) C 10 dL_areLeaves_89 kb_10 ?_
      refine y_irem (pc := 91) C dL_areLeaves_91 hF (fun x17 hF => ?_)
      refine x_icmp_ne (pc := 92) C 236 dL_areLeaves_92 rfl hF (fun c66 hF => ?_) (fun c66 hF => ?_)
      · exact none_ne hF
      · refine x_aload_n (pc := 95) C 0 dL_areLeaves_95 rfl rfl ?_
        refine x_iload (pc := 96) C 5 dL_areLeaves_96 rfl ?_
        refine x_iconst (pc := 98) C 1 dL_areLeaves_98 ki_1 ?_
        refine cF1_2 (pc := 99) (val := Value.int) C hX hF (fun _ _ h => c_X7_leaf l _ b hl _ _ h) vm_X7_leaf wq254 ⟨Nat.le_of_ble_eq_true rfl, Nat.le_of_ble_eq_true rfl⟩ rfl rfl (fun _ h => CW.pl h) (Nat.le_of_ble_eq_true rfl) ⟨Nat.zero_le _, Nat.zero_le _⟩ dL_areLeaves_99 (fun x18 w19 hF => ?_)
        refine x_iload (pc := 102) C 6 dL_areLeaves_102 rfl ?_
        refine x_iconst (pc := 104) C (-1) dL_areLeaves_104 ki_m1 ?_
        obtain ⟨o21, w20, hL, hF⟩ := bd_some hF
        refine x_join (P1 := CW G b w20) (pcJ := 124) (lvJ := [(0, .ref (b)), (1, .ref (ra b 10 0)), (2, .ref (ra b 10 1)), (3, .ref (ra b 10 2)), (4, .ref (ra b 10 5)), (5, .int (l5)), (6, .int (x3)), (7, .int (o12.1)), (8, .int (o12.2))]) (stJ := [.int (o21), .int (x18)]) 0 0 ?_ (fun kJ124 => ?_)
        · refine x_icmp_ne (pc := 124) C 236 dL_areLeaves_124 rfl hF (fun c65 hF => ?_) (fun c65 hF => ?_)
          · exact none_ne hF
          · refine x_aload_n (pc := 127) C 0 dL_areLeaves_127 rfl rfl ?_
            refine x_iload (pc := 128) C 5 dL_areLeaves_128 rfl ?_
            refine x_iconst (pc := 130) C 2 dL_areLeaves_130 ki_2 ?_
            refine cF1_2 (pc := 131) (val := Value.int) C hX hF (fun _ _ h => c_X7_leaf l _ b hl _ _ h) vm_X7_leaf wq254 ⟨Nat.le_of_ble_eq_true rfl, Nat.le_of_ble_eq_true rfl⟩ rfl rfl (fun _ h => CW.pl h) (Nat.le_of_ble_eq_true rfl) ⟨Nat.zero_le _, Nat.zero_le _⟩ dL_areLeaves_131 (fun x24 w25 hF => ?_)
            refine x_iload (pc := 134) C 5 dL_areLeaves_134 rfl ?_
            refine x_aload_n (pc := 136) C 3 dL_areLeaves_136 rfl rfl ?_
            refine cS1_2 (pc := 137) (val := Value.int) C hF (fun _ _ h => c_L_branch l _ b _ h) sm_L_branch wq285 rfl rfl ⟨Nat.le_of_ble_eq_true rfl, Nat.le_of_ble_eq_true rfl⟩ (Nat.le_of_ble_eq_true rfl) ⟨Nat.zero_le _, Nat.zero_le _⟩ dL_areLeaves_137 (fun x27 w26 hF => ?_)
            refine x_icmp_ne (pc := 140) C 236 dL_areLeaves_140 rfl hF (fun c64 hF => ?_) (fun c64 hF => ?_)
            · exact none_ne hF
            · refine x_aload_n (pc := 143) C 0 dL_areLeaves_143 rfl rfl ?_
              refine x_iload (pc := 144) C 5 dL_areLeaves_144 rfl ?_
              refine x_iconst (pc := 146) C 3 dL_areLeaves_146 ki_3 ?_
              refine cF1_2 (pc := 147) (val := Value.int) C hX hF (fun _ _ h => c_X7_leaf l _ b hl _ _ h) vm_X7_leaf wq254 ⟨Nat.le_of_ble_eq_true rfl, Nat.le_of_ble_eq_true rfl⟩ rfl rfl (fun _ h => CW.pl h) (Nat.le_of_ble_eq_true rfl) ⟨Nat.zero_le _, Nat.zero_le _⟩ dL_areLeaves_147 (fun x28 w29 hF => ?_)
              refine x_iload (pc := 150) C 5 dL_areLeaves_150 rfl ?_
              refine x_aload_n (pc := 152) C 3 dL_areLeaves_152 rfl rfl ?_
              refine cS1_2 (pc := 153) (val := Value.int) C hF (fun _ _ h => c_L_noted l _ b _ h) sm_L_noted wq288 rfl rfl ⟨Nat.le_of_ble_eq_true rfl, Nat.le_of_ble_eq_true rfl⟩ (Nat.le_of_ble_eq_true rfl) ⟨Nat.zero_le _, Nat.zero_le _⟩ dL_areLeaves_153 (fun x31 w30 hF => ?_)
              refine x_icmp_ne (pc := 156) C 236 dL_areLeaves_156 rfl hF (fun c63 hF => ?_) (fun c63 hF => ?_)
              · exact none_ne hF
              · refine x_aload_n (pc := 159) C 0 dL_areLeaves_159 rfl rfl ?_
                refine x_iload (pc := 160) C 5 dL_areLeaves_160 rfl ?_
                refine x_iconst (pc := 162) C 4 dL_areLeaves_162 ki_4 ?_
                refine cF1_2 (pc := 163) (val := Value.int) C hX hF (fun _ _ h => c_X7_leaf l _ b hl _ _ h) vm_X7_leaf wq254 ⟨Nat.le_of_ble_eq_true rfl, Nat.le_of_ble_eq_true rfl⟩ rfl rfl (fun _ h => CW.pl h) (Nat.le_of_ble_eq_true rfl) ⟨Nat.zero_le _, Nat.zero_le _⟩ dL_areLeaves_163 (fun x32 w33 hF => ?_)
                refine x_iload (pc := 166) C 6 dL_areLeaves_166 rfl ?_
                obtain ⟨o35, w34, hL, hF⟩ := bd_some hF
                refine x_join (P1 := CW G b w34) (pcJ := 177) (lvJ := [(0, .ref (b)), (1, .ref (ra b 10 0)), (2, .ref (ra b 10 1)), (3, .ref (ra b 10 2)), (4, .ref (ra b 10 5)), (5, .int (l5)), (6, .int (x3)), (7, .int (o12.1)), (8, .int (o12.2))]) (stJ := [.int (o35), .int (x32)]) 0 0 ?_ (fun kJ177 => ?_)
                · refine x_icmp_ne (pc := 177) C 236 dL_areLeaves_177 rfl hF (fun c62 hF => ?_) (fun c62 hF => ?_)
                  · exact none_ne hF
                  · refine x_aload_n (pc := 180) C 0 dL_areLeaves_180 rfl rfl ?_
                    refine x_iload (pc := 181) C 5 dL_areLeaves_181 rfl ?_
                    refine x_iconst (pc := 183) C 5 dL_areLeaves_183 ki_5 ?_
                    refine cF1_2 (pc := 184) (val := Value.int) C hX hF (fun _ _ h => c_X7_leaf l _ b hl _ _ h) vm_X7_leaf wq254 ⟨Nat.le_of_ble_eq_true rfl, Nat.le_of_ble_eq_true rfl⟩ rfl rfl (fun _ h => CW.pl h) (Nat.le_of_ble_eq_true rfl) ⟨Nat.zero_le _, Nat.zero_le _⟩ dL_areLeaves_184 (fun x37 w38 hF => ?_)
                    refine x_iload (pc := 187) C 7 dL_areLeaves_187 rfl ?_
                    refine x_icmp_ne (pc := 189) C 236 dL_areLeaves_189 rfl hF (fun c61 hF => ?_) (fun c61 hF => ?_)
                    · exact none_ne hF
                    · refine x_aload_n (pc := 192) C 0 dL_areLeaves_192 rfl rfl ?_
                      refine x_iload (pc := 193) C 5 dL_areLeaves_193 rfl ?_
                      refine x_bipush (pc := 195) C 6 dL_areLeaves_195 kb_6 ?_
                      refine cF1_2 (pc := 197) (val := Value.int) C hX hF (fun _ _ h => c_X7_leaf l _ b hl _ _ h) vm_X7_leaf wq254 ⟨Nat.le_of_ble_eq_true rfl, Nat.le_of_ble_eq_true rfl⟩ rfl rfl (fun _ h => CW.pl h) (Nat.le_of_ble_eq_true rfl) ⟨Nat.zero_le _, Nat.zero_le _⟩ dL_areLeaves_197 (fun x39 w40 hF => ?_)
                      refine x_iload (pc := 200) C 5 dL_areLeaves_200 rfl ?_
                      refine x_iconst (pc := 202) C 2 dL_areLeaves_202 ki_2 ?_
                      refine x_iconst (pc := 203) C (-1) dL_areLeaves_203 ki_m1 ?_
                      refine x_aload (pc := 204) C 4 dL_areLeaves_204 rfl ?_
                      refine cS1_4 (pc := 206) (val := Value.int) C hF (fun _ _ h => c_L_pins l _ b _ _ _ h) sm_L_pins wq109 rfl rfl ⟨Nat.le_of_ble_eq_true rfl, Nat.le_of_ble_eq_true rfl⟩ (Nat.le_of_ble_eq_true rfl) ⟨Nat.zero_le _, Nat.zero_le _⟩ dL_areLeaves_206 (fun x42 w41 hF => ?_)
                      refine x_icmp_ne (pc := 209) C 236 dL_areLeaves_209 rfl hF (fun c60 hF => ?_) (fun c60 hF => ?_)
                      · exact none_ne hF
                      · refine x_aload_n (pc := 212) C 0 dL_areLeaves_212 rfl rfl ?_
                        refine x_iload (pc := 213) C 5 dL_areLeaves_213 rfl ?_
                        refine x_bipush (pc := 215) C 7 dL_areLeaves_215 kb_7 ?_
                        refine cF1_2 (pc := 217) (val := Value.int) C hX hF (fun _ _ h => c_X7_leaf l _ b hl _ _ h) vm_X7_leaf wq254 ⟨Nat.le_of_ble_eq_true rfl, Nat.le_of_ble_eq_true rfl⟩ rfl rfl (fun _ h => CW.pl h) (Nat.le_of_ble_eq_true rfl) ⟨Nat.zero_le _, Nat.zero_le _⟩ dL_areLeaves_217 (fun x43 w44 hF => ?_)
                        refine x_iload (pc := 220) C 5 dL_areLeaves_220 rfl ?_
                        refine x_iconst (pc := 222) C 1 dL_areLeaves_222 ki_1 ?_
                        refine x_iconst (pc := 223) C (-1) dL_areLeaves_223 ki_m1 ?_
                        refine x_aload (pc := 224) C 4 dL_areLeaves_224 rfl ?_
                        refine cS1_4 (pc := 226) (val := Value.int) C hF (fun _ _ h => c_L_pins l _ b _ _ _ h) sm_L_pins wq109 rfl rfl ⟨Nat.le_of_ble_eq_true rfl, Nat.le_of_ble_eq_true rfl⟩ (Nat.le_of_ble_eq_true rfl) ⟨Nat.zero_le _, Nat.zero_le _⟩ dL_areLeaves_226 (fun x46 w45 hF => ?_)
                        refine x_icmp_ne (pc := 229) C 236 dL_areLeaves_229 rfl hF (fun c59 hF => ?_) (fun c59 hF => ?_)
                        · exact none_ne hF
                        · refine x_iconst (pc := 232) C 1 dL_areLeaves_232 ki_1 ?_
                          refine x_goto (pc := 233) C 237 dL_areLeaves_233 rfl ?_
                          refine x_istore (pc := 237) C [(8, .int (1)), (0, .ref (b)), (1, .ref (ra b 10 0)), (2, .ref (ra b 10 1)), (3, .ref (ra b 10 2)), (4, .ref (ra b 10 5)), (5, .int (l5)), (6, .int (x3)), (7, .int (o12.1))] dL_areLeaves_237 (by decide) rfl ?_
                          refine x_iload (pc := 239) C 0 dL_areLeaves_239 rfl ?_
                          refine x_if_eq (pc := 241) C 296 dL_areLeaves_241 rfl (cst_f (c9 := (1 : Int32) = 0) (by decide) hF) (fun c58 _ => absurd c58 (by decide)) (fun c58 hF => ?_)
                          refine x_aload_n (pc := 244) C 1 dL_areLeaves_244 rfl rfl ?_
                          refine x_iload (pc := 245) C 6 dL_areLeaves_245 rfl ?_
                          refine cF1_1 (pc := 247) (val := Value.int) C hX hF (fun _ _ h => c_X7_why l _ b hl _ h) vm_X7_why wq291 ⟨Nat.le_of_ble_eq_true rfl, Nat.le_of_ble_eq_true rfl⟩ rfl rfl (fun _ h => CW.pl h) (Nat.le_of_ble_eq_true rfl) ⟨Nat.zero_le _, Nat.zero_le _⟩ dL_areLeaves_247 (fun x47 w48 hF => ?_)
                          refine x_iload (pc := 250) C 7 dL_areLeaves_250 rfl ?_
                          refine x_bipush (pc := 252) C (-2) dL_areLeaves_252 kb_m2 ?_
                          obtain ⟨o50, w49, hL, hF⟩ := bd_some hF
                          refine x_join (P1 := CW G b w49) (pcJ := 293) (lvJ := [(0, .ref (b)), (1, .ref (ra b 10 0)), (2, .ref (ra b 10 1)), (3, .ref (ra b 10 2)), (4, .ref (ra b 10 5)), (5, .int (l5)), (6, .int (x3)), (7, .int (o12.1)), (8, .int (1))]) (stJ := [.int (o50), .int (x47)]) 0 0 ?_ (fun kJ293 => ?_)
                          · refine x_icmp_eq (pc := 293) C 298 dL_areLeaves_293 rfl hF (fun c57 hF => ?_) (fun c57 hF => ?_)
                            · refine x_iinc (pc := 298) C 5 [(5, .int ((l5 + 1))), (0, .ref (b)), (1, .ref (ra b 10 0)), (2, .ref (ra b 10 1)), (3, .ref (ra b 10 2)), (4, .ref (ra b 10 5)), (6, .int (x3)), (7, .int (o12.1)), (8, .int (1))] dL_areLeaves_298 rfl rfl (by decide) rfl ?_
                              refine x_goto (pc := 301) C 3 dL_areLeaves_301 rfl ?_
                              exact x_sub [1, 2, 3, 4, 5, 0] rfl (ih _ _ _ _ hF kx)
                            · exact none_ne hF
                          · replace hF := hL
                            refine x_icmp_ne (pc := 254) C 261 dL_areLeaves_254 rfl hF (fun c56 hF => ?_) (fun c56 hF => ?_)
                            · refine x_iload (pc := 261) C 7 dL_areLeaves_261 rfl ?_
                              refine x_iconst (pc := 263) C (-1) dL_areLeaves_263 ki_m1 ?_
                              refine x_icmp_ne (pc := 264) C 271 dL_areLeaves_264 rfl hF (fun c55 hF => ?_) (fun c55 hF => ?_)
                              · refine x_iload (pc := 271) C 6 dL_areLeaves_271 rfl ?_
                                refine x_aload_n (pc := 273) C 2 dL_areLeaves_273 rfl rfl ?_
                                refine x_bipush (pc := 274) C 8 dL_areLeaves_274 kb_8 ?_
                                refine w_ald (pc := 276) C (vA_m 0 (by decide)) hF dL_areLeaves_276 (fun x51 hF => ?_)
                                refine x_iconst (pc := 277) C (-1) dL_areLeaves_277 ki_m1 ?_
                                refine x_aload_n (pc := 278) C 2 dL_areLeaves_278 rfl rfl ?_
                                refine x_aload_n (pc := 279) C 4 dL_areLeaves_279 rfl rfl ?_
                                refine x_aload (pc := 280) C 5 dL_areLeaves_280 rfl ?_
                                refine cS1_6 (pc := 282) (val := Value.int) C hF (fun _ _ h => c_L_may l _ b _ _ _ h) sm_L_may wq306 rfl rfl ⟨Nat.le_of_ble_eq_true rfl, Nat.le_of_ble_eq_true rfl⟩ (Nat.le_of_ble_eq_true rfl) ⟨Nat.zero_le _, Nat.zero_le _⟩ dL_areLeaves_282 (fun x53 w52 hF => ?_)
                                refine x_if_eq (pc := 285) C 292 dL_areLeaves_285 rfl hF (fun c54 hF => ?_) (fun c54 hF => ?_)
                                · refine x_iconst (pc := 292) C 2 dL_areLeaves_292 ki_2 ?_
                                  obtain ⟨rfl, rfl⟩ := ret_eq hF
                                  exact x_sub [1, 2, 3, 4, 5, 6, 7, 8, 0] rfl kJ293
                                · refine x_iconst (pc := 288) C 3 dL_areLeaves_288 ki_3 ?_
                                  refine x_goto (pc := 289) C 293 dL_areLeaves_289 rfl ?_
                                  obtain ⟨rfl, rfl⟩ := ret_eq hF
                                  exact x_sub [1, 2, 3, 4, 5, 6, 7, 8, 0] rfl kJ293
                              · refine x_iconst (pc := 267) C 1 dL_areLeaves_267 ki_1 ?_
                                refine x_goto (pc := 268) C 293 dL_areLeaves_268 rfl ?_
                                obtain ⟨rfl, rfl⟩ := ret_eq hF
                                exact x_sub [1, 2, 3, 4, 5, 6, 7, 8, 0] rfl kJ293
                            · refine x_iconst (pc := 257) C 0 dL_areLeaves_257 ki_0 ?_
                              refine x_goto (pc := 258) C 293 dL_areLeaves_258 rfl ?_
                              obtain ⟨rfl, rfl⟩ := ret_eq hF
                              exact x_sub [1, 2, 3, 4, 5, 6, 7, 8, 0] rfl kJ293
                · replace hF := hL
                  refine x_if_ge (pc := 168) C 175 dL_areLeaves_168 rfl hF (fun c36 hF => ?_) (fun c36 hF => ?_)
                  · refine x_iload (pc := 175) C 6 dL_areLeaves_175 rfl ?_
                    obtain ⟨rfl, rfl⟩ := ret_eq hF
                    exact x_sub [0, 1, 2, 3, 4, 5, 6, 7, 8] rfl kJ177
                  · refine x_iconst (pc := 171) C (-1) dL_areLeaves_171 ki_m1 ?_
                    refine x_goto (pc := 172) C 177 dL_areLeaves_172 rfl ?_
                    obtain ⟨rfl, rfl⟩ := ret_eq hF
                    exact x_sub [0, 1, 2, 3, 4, 5, 6, 7, 8] rfl kJ177
        · replace hF := hL
          refine x_icmp_ne (pc := 105) C 112 dL_areLeaves_105 rfl hF (fun c23 hF => ?_) (fun c23 hF => ?_)
          · refine x_iload (pc := 112) C 6 dL_areLeaves_112 rfl ?_
            refine x_bipush (pc := 114) C (-2) dL_areLeaves_114 kb_m2 ?_
            refine x_icmp_ne (pc := 116) C 123 dL_areLeaves_116 rfl hF (fun c22 hF => ?_) (fun c22 hF => ?_)
            · refine x_iconst (pc := 123) C 1 dL_areLeaves_123 ki_1 ?_
              obtain ⟨rfl, rfl⟩ := ret_eq hF
              exact x_sub [0, 1, 2, 3, 4, 5, 6, 7, 8] rfl kJ124
            · refine x_iconst (pc := 119) C 2 dL_areLeaves_119 ki_2 ?_
              refine x_goto (pc := 120) C 124 dL_areLeaves_120 rfl ?_
              obtain ⟨rfl, rfl⟩ := ret_eq hF
              exact x_sub [0, 1, 2, 3, 4, 5, 6, 7, 8] rfl kJ124
          · refine x_iconst (pc := 108) C 0 dL_areLeaves_108 ki_0 ?_
            refine x_goto (pc := 109) C 124 dL_areLeaves_109 rfl ?_
            obtain ⟨rfl, rfl⟩ := ret_eq hF
            exact x_sub [0, 1, 2, 3, 4, 5, 6, 7, 8] rfl kJ124
set_option maxRecDepth 4000 in
theorem s_L_areLeaves_307 (C : xC p m c s args meth G b cL_areLeaves 9 RL) (hl : l.stackTraces = false) (hX : xF b s) : ∀ (n9 : Nat) (l5 : Int32) (w : xWt) (o : (Int32)) (w' : xWt), L_L_areLeaves_307 n9 l5 w = some (o, w') → xW p l e (xRX 8 0 0) s m args below meth c Q b 9 (CW G b w') 0 0 335 [(0, .ref (b)), (1, .ref (ra b 10 0)), (2, .ref (ra b 10 1)), (3, .ref (ra b 10 2)), (4, .ref (ra b 10 5)), (5, .int (o))] [] → xW p l e (xRX 8 0 0) s m args below meth c Q b 9 (CW G b w) 0 0 307 [(0, .ref (b)), (1, .ref (ra b 10 0)), (2, .ref (ra b 10 1)), (3, .ref (ra b 10 2)), (4, .ref (ra b 10 5)), (5, .int (l5))] [] := by
  intro n9
  induction n9 with
  | zero => intro l5 w o w' hF; exact none_ne (show none = some _ from hF)
  | succ n9 ih =>
    intro l5 w o w' hF kx
    replace hF : B_L_areLeaves_307 (L_L_areLeaves_307 n9) l5 w = some (o, w') := hF
    unfold B_L_areLeaves_307 at hF
    refine x_iload (pc := 307) C 5 dL_areLeaves_307 rfl ?_
    refine x_bipush (pc := 309) C 12 dL_areLeaves_309 kb_12 ?_
    refine x_icmp_ge (pc := 311) C 335 dL_areLeaves_311 rfl hF (fun c74 hF => ?_) (fun c74 hF => ?_)
    · obtain ⟨rfl, rfl⟩ := ret_eq hF
      exact x_sub [0, 1, 2, 3, 4, 5] rfl kx
    · refine x_aload_n (pc := 314) C 0 dL_areLeaves_314 rfl rfl ?_
      refine x_iload (pc := 315) C 5 dL_areLeaves_315 rfl ?_
      refine cF1_1 (pc := 317) (val := Value.int) C hX hF (fun _ _ h => c_X7_branch l _ b hl _ h) vm_X7_branch wq309 ⟨Nat.le_of_ble_eq_true rfl, Nat.le_of_ble_eq_true rfl⟩ rfl rfl (fun _ h => CW.pl h) (Nat.le_of_ble_eq_true rfl) ⟨Nat.zero_le _, Nat.zero_le _⟩ dL_areLeaves_317 (fun x70 w71 hF => ?_)
      refine x_aload_n (pc := 320) C 2 dL_areLeaves_320 rfl rfl ?_
      refine x_iload (pc := 321) C 5 dL_areLeaves_321 rfl ?_
      refine w_ald (pc := 323) C (vA_m 1 (by decide)) hF dL_areLeaves_323 (fun x72 hF => ?_)
      refine x_icmp_eq (pc := 324) C 329 dL_areLeaves_324 rfl hF (fun c73 hF => ?_) (fun c73 hF => ?_)
      · refine x_iinc (pc := 329) C 5 [(5, .int ((l5 + 1))), (0, .ref (b)), (1, .ref (ra b 10 0)), (2, .ref (ra b 10 1)), (3, .ref (ra b 10 2)), (4, .ref (ra b 10 5))] dL_areLeaves_329 rfl rfl (by decide) rfl ?_
        refine x_goto (pc := 332) C 307 dL_areLeaves_332 rfl ?_
        exact x_sub [1, 2, 3, 4, 5, 0] rfl (ih _ _ _ _ hF kx)
      · exact none_ne hF
set_option maxRecDepth 4000 in
theorem c_L_areLeaves (l : Launch) (G : xG) (b : Nat) (hl : l.stackTraces = false)  {w w' : xWt} {v : Int32} (hF : F_L_areLeaves w = some (v, w')) : xMetX l G b yL_areLeaves cL_areLeaves 9 (some .boolean) (xRX 8 0 0) [.ref (b), .ref (ra b 10 0), .ref (ra b 10 1), .ref (ra b 10 2), .ref (ra b 10 5)] (CW G b w) (.inl (some (.int v))) (CW G b w') 0 0 := by
  refine x_ofX (own := RL) rfl pn_L (Nat.le_of_ble_eq_true rfl) ?_
  intro p e s m args below meth c ha C hr hX hout
  unfold F_L_areLeaves at hF
  refine x_iconst (pc := 0) C 0 dL_areLeaves_0 ki_0 ?_
  refine x_istore (pc := 1) C [(5, .int (0)), (0, .ref (b)), (1, .ref (ra b 10 0)), (2, .ref (ra b 10 1)), (3, .ref (ra b 10 2)), (4, .ref (ra b 10 5))] dL_areLeaves_1 (by decide) rfl ?_
  obtain ⟨o68, w69, hL, hF⟩ := bd_some hF
  refine x_sub [1, 2, 3, 4, 5, 0] rfl (s_L_areLeaves_3 C hl hX _ _ _ _ _ hL ?_)
  refine x_iconst (pc := 304) C 0 dL_areLeaves_304 ki_0 ?_
  refine x_istore (pc := 305) C [(5, .int (0)), (0, .ref (b)), (1, .ref (ra b 10 0)), (2, .ref (ra b 10 1)), (3, .ref (ra b 10 2)), (4, .ref (ra b 10 5))] dL_areLeaves_305 (by decide) rfl ?_
  obtain ⟨o75, w76, hL, hF⟩ := bd_some hF
  refine x_sub [1, 2, 3, 4, 5, 0] rfl (s_L_areLeaves_307 C hl hX _ _ _ _ _ hL ?_)
  refine x_iconst (pc := 335) C 1 dL_areLeaves_335 ki_1 ?_
  obtain ⟨rfl, rfl⟩ := ret_eq hF
  refine xv_ret rfl (Nat.le_of_ble_eq_true rfl) (Nat.le_of_ble_eq_true rfl) ?_
  exact x_zret (pc := 336) C rfl hr rfl (fun _ h => h) dL_areLeaves_336
set_option maxRecDepth 4000 in
theorem s_L_goes_584 (C : xC p m c s args meth G b cL_goes 17 RL) (hl : l.stackTraces = false) (hX : xF b s) : ∀ (n9 : Nat) (l1 : Int32) (l2 : Int32) (l8 : Int32) (l9 : Int32) (l10 : Int32) (l11 : Int32) (l12 : Int32) (w : xWt) (o : (Int32)) (w' : xWt), L_L_goes_584 n9 l1 l2 l8 l9 l10 l11 l12 w = some (o, w') → xW p l e (xRX 9 4 58) s m args below meth c Q b 17 (CW G b w') 0 0 601 [(0, .ref (b)), (1, .int (l1)), (2, .int (l2)), (3, .ref (ra b 10 0)), (4, .ref (ra b 10 2)), (5, .ref (ra b 10 3)), (6, .ref (ra b 10 4)), (7, .ref (ra b 10 5)), (8, .int (l8)), (9, .int (l9)), (10, .int (l10)), (11, .int (l11)), (12, .int (o))] [] → xW p l e (xRX 9 4 58) s m args below meth c Q b 17 (CW G b w) 0 0 584 [(0, .ref (b)), (1, .int (l1)), (2, .int (l2)), (3, .ref (ra b 10 0)), (4, .ref (ra b 10 2)), (5, .ref (ra b 10 3)), (6, .ref (ra b 10 4)), (7, .ref (ra b 10 5)), (8, .int (l8)), (9, .int (l9)), (10, .int (l10)), (11, .int (l11)), (12, .int (l12))] [] := by
  intro n9
  induction n9 with
  | zero => intro l1 l2 l8 l9 l10 l11 l12 w o w' hF; exact none_ne (show none = some _ from hF)
  | succ n9 ih =>
    intro l1 l2 l8 l9 l10 l11 l12 w o w' hF kx
    replace hF : B_L_goes_584 (L_L_goes_584 n9) l1 l2 l8 l9 l10 l11 l12 w = some (o, w') := hF
    unfold B_L_goes_584 at hF
    refine x_aload (pc := 584) C 6 dL_goes_584 rfl ?_
    refine x_bipush (pc := 586) C 6 dL_goes_586 kb_6 ?_
    refine x_iload (pc := 588) C 12 dL_goes_588 rfl ?_
    refine x_imul (pc := 590) C dL_goes_590 ?_
    refine w_ald (pc := 591) C (vA_m 4 (by decide)) hF dL_goes_591 (fun x23 hF => ?_)
    refine x_if_ne (pc := 592) C 601 dL_goes_592 rfl hF (fun c24 hF => ?_) (fun c24 hF => ?_)
    · obtain ⟨rfl, rfl⟩ := ret_eq hF
      exact x_sub [0, 1, 2, 3, 4, 5, 6, 7, 8, 9, 10, 11, 12] rfl kx
    · refine x_iinc (pc := 595) C 12 [(12, .int ((l12 + 1))), (0, .ref (b)), (1, .int (l1)), (2, .int (l2)), (3, .ref (ra b 10 0)), (4, .ref (ra b 10 2)), (5, .ref (ra b 10 3)), (6, .ref (ra b 10 4)), (7, .ref (ra b 10 5)), (8, .int (l8)), (9, .int (l9)), (10, .int (l10)), (11, .int (l11))] dL_goes_595 rfl rfl (by decide) rfl ?_
      refine x_goto (pc := 598) C 584 dL_goes_598 rfl ?_
      exact x_sub [1, 2, 3, 4, 5, 6, 7, 8, 9, 10, 11, 12, 0] rfl (ih _ _ _ _ _ _ _ _ _ _ hF kx)
set_option maxRecDepth 4000 in
theorem s_L_goes_622 (C : xC p m c s args meth G b cL_goes 17 RL) (hl : l.stackTraces = false) (hX : xF b s) : ∀ (n9 : Nat) (l1 : Int32) (l2 : Int32) (l8 : Int32) (l9 : Int32) (l10 : Int32) (l11 : Int32) (l12 : Int32) (l14 : Int32) (l15 : Int32) (l16 : Int32) (w : xWt) (o : (Int32 × Int32)) (w' : xWt), L_L_goes_622 n9 l1 l2 l8 l9 l10 l11 l12 l14 l15 l16 w = some (o, w') → xW p l e (xRX 9 4 58) s m args below meth c Q b 17 (CW G b w') 1 40 684 [(0, .ref (b)), (1, .int (l1)), (2, .int (l2)), (3, .ref (ra b 10 0)), (4, .ref (ra b 10 2)), (5, .ref (ra b 10 3)), (6, .ref (ra b 10 4)), (7, .ref (ra b 10 5)), (8, .int (l8)), (9, .int (l9)), (10, .int (l10)), (11, .int (l11)), (12, .int (l12)), (13, .ref (oub G)), (14, .int (o.1)), (15, .int (l15)), (16, .int (o.2))] [] → xW p l e (xRX 9 4 58) s m args below meth c Q b 17 (CW G b w) 1 40 622 [(0, .ref (b)), (1, .int (l1)), (2, .int (l2)), (3, .ref (ra b 10 0)), (4, .ref (ra b 10 2)), (5, .ref (ra b 10 3)), (6, .ref (ra b 10 4)), (7, .ref (ra b 10 5)), (8, .int (l8)), (9, .int (l9)), (10, .int (l10)), (11, .int (l11)), (12, .int (l12)), (13, .ref (oub G)), (14, .int (l14)), (15, .int (l15)), (16, .int (l16))] [] := by
  intro n9
  induction n9 with
  | zero => intro l1 l2 l8 l9 l10 l11 l12 l14 l15 l16 w o w' hF; exact none_ne (show none = some _ from hF)
  | succ n9 ih =>
    intro l1 l2 l8 l9 l10 l11 l12 l14 l15 l16 w o w' hF kx
    replace hF : B_L_goes_622 (L_L_goes_622 n9) l1 l2 l8 l9 l10 l11 l12 l14 l15 l16 w = some (o, w') := hF
    unfold B_L_goes_622 at hF
    refine x_iload (pc := 622) C 16 dL_goes_622 rfl ?_
    refine x_aload_n (pc := 624) C 3 dL_goes_624 rfl rfl ?_
    refine x_bipush (pc := 625) C 9 dL_goes_625 kb_9 ?_
    refine w_ald (pc := 627) C (vA_m 0 (by decide)) hF dL_goes_627 (fun x27 hF => ?_)
    refine x_icmp_ge (pc := 628) C 684 dL_goes_628 rfl hF (fun c42 hF => ?_) (fun c42 hF => ?_)
    · obtain ⟨rfl, rfl⟩ := ret_eq hF
      exact x_sub [0, 1, 2, 3, 4, 5, 6, 7, 8, 9, 10, 11, 12, 13, 14, 15, 16] rfl kx
    · refine x_aload (pc := 631) C 5 dL_goes_631 rfl ?_
      refine x_iload (pc := 633) C 16 dL_goes_633 rfl ?_
      refine w_ald (pc := 635) C (vA_m 3 (by decide)) hF dL_goes_635 (fun x28 hF => ?_)
      refine x_aload (pc := 636) C 4 dL_goes_636 rfl ?_
      refine cS1_2 (pc := 638) (val := Value.int) C hF (fun _ _ h => c_L_where l _ b _ h) sm_L_where wq112 rfl rfl ⟨Nat.le_of_ble_eq_true rfl, Nat.le_of_ble_eq_true rfl⟩ (Nat.le_of_ble_eq_true rfl) ⟨Nat.le_of_ble_eq_true rfl, Nat.le_of_ble_eq_true rfl⟩ dL_goes_638 (fun x30 w29 hF => ?_)
      refine x_iload (pc := 641) C 8 dL_goes_641 rfl ?_
      obtain ⟨o32, w31, hL, hF⟩ := bd_some hF
      refine x_join (P1 := CW G b w31) (pcJ := 651) (lvJ := [(0, .ref (b)), (1, .int (l1)), (2, .int (l2)), (3, .ref (ra b 10 0)), (4, .ref (ra b 10 2)), (5, .ref (ra b 10 3)), (6, .ref (ra b 10 4)), (7, .ref (ra b 10 5)), (8, .int (l8)), (9, .int (l9)), (10, .int (l10)), (11, .int (l11)), (12, .int (l12)), (13, .ref (oub G)), (14, .int (l14)), (15, .int (l15)), (16, .int (l16))]) (stJ := [.int (o32)]) 1 40 ?_ (fun kJ651 => ?_)
      · refine x_iload (pc := 651) C 15 dL_goes_651 rfl ?_
        refine x_iconst (pc := 653) C 1 dL_goes_653 ki_1 ?_
        obtain ⟨o35, w34, hL, hF⟩ := bd_some hF
        refine x_join (P1 := CW G b w34) (pcJ := 662) (lvJ := [(0, .ref (b)), (1, .int (l1)), (2, .int (l2)), (3, .ref (ra b 10 0)), (4, .ref (ra b 10 2)), (5, .ref (ra b 10 3)), (6, .ref (ra b 10 4)), (7, .ref (ra b 10 5)), (8, .int (l8)), (9, .int (l9)), (10, .int (l10)), (11, .int (l11)), (12, .int (l12)), (13, .ref (oub G)), (14, .int (l14)), (15, .int (l15)), (16, .int (l16))]) (stJ := [.int (o35), .int (o32)]) 1 40 ?_ (fun kJ662 => ?_)
        · obtain ⟨o38, w37, hL, hF⟩ := bd_some hF
          refine x_join (P1 := CW G b w37) (pcJ := 678) (lvJ := [(0, .ref (b)), (1, .int (l1)), (2, .int (l2)), (3, .ref (ra b 10 0)), (4, .ref (ra b 10 2)), (5, .ref (ra b 10 3)), (6, .ref (ra b 10 4)), (7, .ref (ra b 10 5)), (8, .int (l8)), (9, .int (l9)), (10, .int (l10)), (11, .int (l11)), (12, .int (l12)), (13, .ref (oub G)), (14, .int (o38)), (15, .int (l15)), (16, .int (l16))]) (stJ := []) 1 40 ?_ (fun kJ678 => ?_)
          · refine x_iinc (pc := 678) C 16 [(16, .int ((l16 + 1))), (0, .ref (b)), (1, .int (l1)), (2, .int (l2)), (3, .ref (ra b 10 0)), (4, .ref (ra b 10 2)), (5, .ref (ra b 10 3)), (6, .ref (ra b 10 4)), (7, .ref (ra b 10 5)), (8, .int (l8)), (9, .int (l9)), (10, .int (l10)), (11, .int (l11)), (12, .int (l12)), (13, .ref (oub G)), (14, .int (o38)), (15, .int (l15))] dL_goes_678 rfl rfl (by decide) rfl ?_
            refine x_goto (pc := 681) C 622 dL_goes_681 rfl ?_
            exact x_sub [1, 2, 3, 4, 5, 6, 7, 8, 9, 10, 11, 12, 13, 14, 15, 16, 0] rfl (ih _ _ _ _ _ _ _ _ _ _ _ _ _ hF kx)
          · replace hF := hL
            refine x_icmp_ne (pc := 662) C 678 dL_goes_662 rfl hF (fun c41 hF => ?_) (fun c41 hF => ?_)
            · obtain ⟨rfl, rfl⟩ := ret_eq hF
              exact x_sub [0, 1, 2, 3, 4, 5, 6, 7, 8, 9, 10, 11, 12, 13, 14, 15, 16] rfl kJ678
            · refine x_aload (pc := 665) C 13 dL_goes_665 rfl ?_
              refine x_iload (pc := 667) C 14 dL_goes_667 rfl ?_
              refine x_aload (pc := 669) C 5 dL_goes_669 rfl ?_
              refine x_iload (pc := 671) C 16 dL_goes_671 rfl ?_
              refine w_ald (pc := 673) C (vA_m 3 (by decide)) hF dL_goes_673 (fun x39 hF => ?_)
              refine w_nst (pc := 674) C hF dL_goes_674 (fun w40 hF => ?_)
              refine x_iinc (pc := 675) C 14 [(14, .int ((l14 + 1))), (0, .ref (b)), (1, .int (l1)), (2, .int (l2)), (3, .ref (ra b 10 0)), (4, .ref (ra b 10 2)), (5, .ref (ra b 10 3)), (6, .ref (ra b 10 4)), (7, .ref (ra b 10 5)), (8, .int (l8)), (9, .int (l9)), (10, .int (l10)), (11, .int (l11)), (12, .int (l12)), (13, .ref (oub G)), (15, .int (l15)), (16, .int (l16))] dL_goes_675 rfl rfl (by decide) rfl ?_
              obtain ⟨rfl, rfl⟩ := ret_eq hF
              exact x_sub [1, 2, 3, 4, 5, 6, 7, 8, 9, 10, 11, 12, 13, 14, 0, 15, 16] rfl kJ678
        · replace hF := hL
          refine x_icmp_ne (pc := 654) C 661 dL_goes_654 rfl hF (fun c36 hF => ?_) (fun c36 hF => ?_)
          · refine x_iconst (pc := 661) C 0 dL_goes_661 ki_0 ?_
            obtain ⟨rfl, rfl⟩ := ret_eq hF
            exact x_sub [0, 1, 2, 3, 4, 5, 6, 7, 8, 9, 10, 11, 12, 13, 14, 15, 16] rfl kJ662
          · refine x_iconst (pc := 657) C 1 dL_goes_657 ki_1 ?_
            refine x_goto (pc := 658) C 662 dL_goes_658 rfl ?_
            obtain ⟨rfl, rfl⟩ := ret_eq hF
            exact x_sub [0, 1, 2, 3, 4, 5, 6, 7, 8, 9, 10, 11, 12, 13, 14, 15, 16] rfl kJ662
      · replace hF := hL
        refine x_icmp_ne (pc := 643) C 650 dL_goes_643 rfl hF (fun c33 hF => ?_) (fun c33 hF => ?_)
        · refine x_iconst (pc := 650) C 0 dL_goes_650 ki_0 ?_
          obtain ⟨rfl, rfl⟩ := ret_eq hF
          exact x_sub [0, 1, 2, 3, 4, 5, 6, 7, 8, 9, 10, 11, 12, 13, 14, 15, 16] rfl kJ651
        · refine x_iconst (pc := 646) C 1 dL_goes_646 ki_1 ?_
          refine x_goto (pc := 647) C 651 dL_goes_647 rfl ?_
          obtain ⟨rfl, rfl⟩ := ret_eq hF
          exact x_sub [0, 1, 2, 3, 4, 5, 6, 7, 8, 9, 10, 11, 12, 13, 14, 15, 16] rfl kJ651
set_option maxRecDepth 4000 in
theorem s_L_goes_613 (C : xC p m c s args meth G b cL_goes 17 RL) (hl : l.stackTraces = false) (hX : xF b s) : ∀ (n9 : Nat) (l1 : Int32) (l2 : Int32) (l8 : Int32) (l9 : Int32) (l10 : Int32) (l11 : Int32) (l12 : Int32) (l14 : Int32) (l15 : Int32) (w : xWt) (o : (Int32 × Int32)) (w' : xWt), L_L_goes_613 n9 l1 l2 l8 l9 l10 l11 l12 l14 l15 w = some (o, w') → xW p l e (xRX 9 4 58) s m args below meth c Q b 17 (CW G b w') 1 40 690 [(0, .ref (b)), (1, .int (l1)), (2, .int (l2)), (3, .ref (ra b 10 0)), (4, .ref (ra b 10 2)), (5, .ref (ra b 10 3)), (6, .ref (ra b 10 4)), (7, .ref (ra b 10 5)), (8, .int (l8)), (9, .int (l9)), (10, .int (l10)), (11, .int (l11)), (12, .int (l12)), (13, .ref (oub G)), (14, .int (o.1)), (15, .int (o.2))] [] → xW p l e (xRX 9 4 58) s m args below meth c Q b 17 (CW G b w) 1 40 613 [(0, .ref (b)), (1, .int (l1)), (2, .int (l2)), (3, .ref (ra b 10 0)), (4, .ref (ra b 10 2)), (5, .ref (ra b 10 3)), (6, .ref (ra b 10 4)), (7, .ref (ra b 10 5)), (8, .int (l8)), (9, .int (l9)), (10, .int (l10)), (11, .int (l11)), (12, .int (l12)), (13, .ref (oub G)), (14, .int (l14)), (15, .int (l15))] [] := by
  intro n9
  induction n9 with
  | zero => intro l1 l2 l8 l9 l10 l11 l12 l14 l15 w o w' hF; exact none_ne (show none = some _ from hF)
  | succ n9 ih =>
    intro l1 l2 l8 l9 l10 l11 l12 l14 l15 w o w' hF kx
    replace hF : B_L_goes_613 (L_L_goes_613 n9) l1 l2 l8 l9 l10 l11 l12 l14 l15 w = some (o, w') := hF
    unfold B_L_goes_613 at hF
    refine x_iload (pc := 613) C 15 dL_goes_613 rfl ?_
    refine x_iconst (pc := 615) C 2 dL_goes_615 ki_2 ?_
    refine x_icmp_ge (pc := 616) C 690 dL_goes_616 rfl hF (fun c45 hF => ?_) (fun c45 hF => ?_)
    · obtain ⟨rfl, rfl⟩ := ret_eq hF
      exact x_sub [0, 1, 2, 3, 4, 5, 6, 7, 8, 9, 10, 11, 12, 13, 14, 15] rfl kx
    · refine x_iconst (pc := 619) C 0 dL_goes_619 ki_0 ?_
      refine x_istore (pc := 620) C [(16, .int (0)), (0, .ref (b)), (1, .int (l1)), (2, .int (l2)), (3, .ref (ra b 10 0)), (4, .ref (ra b 10 2)), (5, .ref (ra b 10 3)), (6, .ref (ra b 10 4)), (7, .ref (ra b 10 5)), (8, .int (l8)), (9, .int (l9)), (10, .int (l10)), (11, .int (l11)), (12, .int (l12)), (13, .ref (oub G)), (14, .int (l14)), (15, .int (l15))] dL_goes_620 (by decide) rfl ?_
      obtain ⟨o43, w44, hL, hF⟩ := bd_some hF
      refine x_sub [1, 2, 3, 4, 5, 6, 7, 8, 9, 10, 11, 12, 13, 14, 15, 16, 0] rfl (s_L_goes_622 C hl hX _ _ _ _ _ _ _ _ _ _ _ _ _ _ hL ?_)
      refine x_iinc (pc := 684) C 15 [(15, .int ((l15 + 1))), (0, .ref (b)), (1, .int (l1)), (2, .int (l2)), (3, .ref (ra b 10 0)), (4, .ref (ra b 10 2)), (5, .ref (ra b 10 3)), (6, .ref (ra b 10 4)), (7, .ref (ra b 10 5)), (8, .int (l8)), (9, .int (l9)), (10, .int (l10)), (11, .int (l11)), (12, .int (l12)), (13, .ref (oub G)), (14, .int (o43.1)), (16, .int (o43.2))] dL_goes_684 rfl rfl (by decide) rfl ?_
      refine x_goto (pc := 687) C 613 dL_goes_687 rfl ?_
      exact x_sub [1, 2, 3, 4, 5, 6, 7, 8, 9, 10, 11, 12, 13, 14, 15, 0] rfl (ih _ _ _ _ _ _ _ _ _ _ _ _ hF kx)
set_option maxRecDepth 4000 in
theorem s_L_goes_705 (C : xC p m c s args meth G b cL_goes 17 RL) (hl : l.stackTraces = false) (hX : xF b s) : ∀ (n9 : Nat) (l1 : Int32) (l2 : Int32) (l8 : Int32) (l9 : Int32) (l10 : Int32) (l11 : Int32) (l12 : Int32) (l14 : Int32) (l15 : Int32) (l16 : Int32) (w : xWt) (o : (Int32)) (w' : xWt), L_L_goes_705 n9 l1 l2 l8 l9 l10 l11 l12 l14 l15 l16 w = some (o, w') → xW p l e (xRX 9 4 58) s m args below meth c Q b 17 (CW G b w') 1 40 755 [(0, .ref (b)), (1, .int (l1)), (2, .int (l2)), (3, .ref (ra b 10 0)), (4, .ref (ra b 10 2)), (5, .ref (ra b 10 3)), (6, .ref (ra b 10 4)), (7, .ref (ra b 10 5)), (8, .int (l8)), (9, .int (l9)), (10, .int (l10)), (11, .int (l11)), (12, .int (l12)), (13, .ref (oub G)), (14, .int (l14)), (15, .int (l15)), (16, .int (o))] [] → xW p l e (xRX 9 4 58) s m args below meth c Q b 17 (CW G b w) 1 40 705 [(0, .ref (b)), (1, .int (l1)), (2, .int (l2)), (3, .ref (ra b 10 0)), (4, .ref (ra b 10 2)), (5, .ref (ra b 10 3)), (6, .ref (ra b 10 4)), (7, .ref (ra b 10 5)), (8, .int (l8)), (9, .int (l9)), (10, .int (l10)), (11, .int (l11)), (12, .int (l12)), (13, .ref (oub G)), (14, .int (l14)), (15, .int (l15)), (16, .int (l16))] [] := by
  intro n9
  induction n9 with
  | zero => intro l1 l2 l8 l9 l10 l11 l12 l14 l15 l16 w o w' hF; exact none_ne (show none = some _ from hF)
  | succ n9 ih =>
    intro l1 l2 l8 l9 l10 l11 l12 l14 l15 l16 w o w' hF kx
    replace hF : B_L_goes_705 (L_L_goes_705 n9) l1 l2 l8 l9 l10 l11 l12 l14 l15 l16 w = some (o, w') := hF
    unfold B_L_goes_705 at hF
    refine x_iload (pc := 705) C 16 dL_goes_705 rfl ?_
    refine x_iload (pc := 707) C 14 dL_goes_707 rfl ?_
    refine x_icmp_ge (pc := 709) C 755 dL_goes_709 rfl hF (fun c60 hF => ?_) (fun c60 hF => ?_)
    · obtain ⟨rfl, rfl⟩ := ret_eq hF
      exact x_sub [0, 1, 2, 3, 4, 5, 6, 7, 8, 9, 10, 11, 12, 13, 14, 15, 16] rfl kx
    · refine x_aload (pc := 712) C 5 dL_goes_712 rfl ?_
      refine x_iload (pc := 714) C 16 dL_goes_714 rfl ?_
      refine x_aload (pc := 716) C 13 dL_goes_716 rfl ?_
      refine x_iload (pc := 718) C 16 dL_goes_718 rfl ?_
      refine w_nld (pc := 720) C hF dL_goes_720 (fun x50 hF => ?_)
      refine w_ast (pc := 721) C (vA_m 3 (by decide)) hF dL_goes_721 (fun w51 hF => ?_)
      refine x_aload (pc := 722) C 5 dL_goes_722 rfl ?_
      refine x_iload (pc := 724) C 16 dL_goes_724 rfl ?_
      refine w_ald (pc := 726) C (vA_m 3 (by decide)) hF dL_goes_726 (fun x52 hF => ?_)
      refine x_aload (pc := 727) C 4 dL_goes_727 rfl ?_
      refine cS1_2 (pc := 729) (val := Value.int) C hF (fun _ _ h => c_L_where l _ b _ h) sm_L_where wq112 rfl rfl ⟨Nat.le_of_ble_eq_true rfl, Nat.le_of_ble_eq_true rfl⟩ (Nat.le_of_ble_eq_true rfl) ⟨Nat.le_of_ble_eq_true rfl, Nat.le_of_ble_eq_true rfl⟩ dL_goes_729 (fun x54 w53 hF => ?_)
      refine x_iload (pc := 732) C 8 dL_goes_732 rfl ?_
      obtain ⟨o56, w55, hL, hF⟩ := bd_some hF
      refine x_join (P1 := CW G b w55) (pcJ := 749) (lvJ := [(0, .ref (b)), (1, .int (l1)), (2, .int (l2)), (3, .ref (ra b 10 0)), (4, .ref (ra b 10 2)), (5, .ref (ra b 10 3)), (6, .ref (ra b 10 4)), (7, .ref (ra b 10 5)), (8, .int (l8)), (9, .int (l9)), (10, .int (l10)), (11, .int (l11)), (12, .int (l12)), (13, .ref (oub G)), (14, .int (l14)), (15, .int (l15)), (16, .int (l16))]) (stJ := []) 1 40 ?_ (fun kJ749 => ?_)
      · refine x_iinc (pc := 749) C 16 [(16, .int ((l16 + 1))), (0, .ref (b)), (1, .int (l1)), (2, .int (l2)), (3, .ref (ra b 10 0)), (4, .ref (ra b 10 2)), (5, .ref (ra b 10 3)), (6, .ref (ra b 10 4)), (7, .ref (ra b 10 5)), (8, .int (l8)), (9, .int (l9)), (10, .int (l10)), (11, .int (l11)), (12, .int (l12)), (13, .ref (oub G)), (14, .int (l14)), (15, .int (l15))] dL_goes_749 rfl rfl (by decide) rfl ?_
        refine x_goto (pc := 752) C 705 dL_goes_752 rfl ?_
        exact x_sub [1, 2, 3, 4, 5, 6, 7, 8, 9, 10, 11, 12, 13, 14, 15, 16, 0] rfl (ih _ _ _ _ _ _ _ _ _ _ _ _ _ hF kx)
      · replace hF := hL
        refine x_icmp_ne (pc := 734) C 749 dL_goes_734 rfl hF (fun c59 hF => ?_) (fun c59 hF => ?_)
        · obtain ⟨rfl, rfl⟩ := ret_eq hF
          exact x_sub [0, 1, 2, 3, 4, 5, 6, 7, 8, 9, 10, 11, 12, 13, 14, 15, 16] rfl kJ749
        · refine x_aload (pc := 737) C 5 dL_goes_737 rfl ?_
          refine x_iload (pc := 739) C 16 dL_goes_739 rfl ?_
          refine w_ald (pc := 741) C (vA_m 3 (by decide)) hF dL_goes_741 (fun x57 hF => ?_)
          refine x_iload (pc := 742) C 12 dL_goes_742 rfl ?_
          refine x_aload (pc := 744) C 4 dL_goes_744 rfl ?_
          refine cS0_3 (pc := 746) C hF (fun _ _ h => c_L_put l _ b _ _ h) sm_L_put wq618 rfl rfl ⟨Nat.le_of_ble_eq_true rfl, Nat.le_of_ble_eq_true rfl⟩ (Nat.le_of_ble_eq_true rfl) ⟨Nat.le_of_ble_eq_true rfl, Nat.le_of_ble_eq_true rfl⟩ dL_goes_746 (fun _ w58 hF => ?_)
          obtain ⟨rfl, rfl⟩ := ret_eq hF
          exact x_sub [0, 1, 2, 3, 4, 5, 6, 7, 8, 9, 10, 11, 12, 13, 14, 15, 16] rfl kJ749
set_option maxRecDepth 4000 in
theorem s_L_goes_310 (C : xC p m c s args meth G b cL_goes 17 RL) (hl : l.stackTraces = false) (hX : xF b s) : ∀ (n9 : Nat) (l1 : Int32) (l2 : Int32) (l8 : Int32) (l9 : Int32) (l10 : Int32) (l11 : Int32) (l12 : Int32) (w : xWt) (o : (Int32)) (w' : xWt), L_L_goes_310 n9 l1 l2 l8 l9 l10 l11 l12 w = some (o, w') → xW p l e (xRX 9 4 58) s m args below meth c Q b 17 (CW G b w') 0 0 334 [(0, .ref (b)), (1, .int (l1)), (2, .int (l2)), (3, .ref (ra b 10 0)), (4, .ref (ra b 10 2)), (5, .ref (ra b 10 3)), (6, .ref (ra b 10 4)), (7, .ref (ra b 10 5)), (8, .int (l8)), (9, .int (l9)), (10, .int (l10)), (11, .int (l11)), (12, .int (o))] [] → xW p l e (xRX 9 4 58) s m args below meth c Q b 17 (CW G b w) 0 0 310 [(0, .ref (b)), (1, .int (l1)), (2, .int (l2)), (3, .ref (ra b 10 0)), (4, .ref (ra b 10 2)), (5, .ref (ra b 10 3)), (6, .ref (ra b 10 4)), (7, .ref (ra b 10 5)), (8, .int (l8)), (9, .int (l9)), (10, .int (l10)), (11, .int (l11)), (12, .int (l12))] [] := by
  intro n9
  induction n9 with
  | zero => intro l1 l2 l8 l9 l10 l11 l12 w o w' hF; exact none_ne (show none = some _ from hF)
  | succ n9 ih =>
    intro l1 l2 l8 l9 l10 l11 l12 w o w' hF kx
    replace hF : B_L_goes_310 (L_L_goes_310 n9) l1 l2 l8 l9 l10 l11 l12 w = some (o, w') := hF
    unfold B_L_goes_310 at hF
    refine x_iload (pc := 310) C 12 dL_goes_310 rfl ?_
    refine x_iconst (pc := 312) C 5 dL_goes_312 ki_5 ?_
    refine x_icmp_ge (pc := 313) C 334 dL_goes_313 rfl hF (fun c98 hF => ?_) (fun c98 hF => ?_)
    · obtain ⟨rfl, rfl⟩ := ret_eq hF
      exact x_sub [0, 1, 2, 3, 4, 5, 6, 7, 8, 9, 10, 11, 12] rfl kx
    · refine x_aload (pc := 316) C 6 dL_goes_316 rfl ?_
      refine x_bipush (pc := 318) C 6 dL_goes_318 kb_6 ?_
      refine x_iload (pc := 320) C 12 dL_goes_320 rfl ?_
      refine x_imul (pc := 322) C dL_goes_322 ?_
      refine w_ald (pc := 323) C (vA_m 4 (by decide)) hF dL_goes_323 (fun x96 hF => ?_)
      refine x_iconst (pc := 324) C 1 dL_goes_324 ki_1 ?_
      refine x_icmp_ne (pc := 325) C 334 dL_goes_325 rfl hF (fun c97 hF => ?_) (fun c97 hF => ?_)
      · obtain ⟨rfl, rfl⟩ := ret_eq hF
        exact x_sub [0, 1, 2, 3, 4, 5, 6, 7, 8, 9, 10, 11, 12] rfl kx
      · refine x_iinc (pc := 328) C 12 [(12, .int ((l12 + 1))), (0, .ref (b)), (1, .int (l1)), (2, .int (l2)), (3, .ref (ra b 10 0)), (4, .ref (ra b 10 2)), (5, .ref (ra b 10 3)), (6, .ref (ra b 10 4)), (7, .ref (ra b 10 5)), (8, .int (l8)), (9, .int (l9)), (10, .int (l10)), (11, .int (l11))] dL_goes_328 rfl rfl (by decide) rfl ?_
        refine x_goto (pc := 331) C 310 dL_goes_331 rfl ?_
        exact x_sub [1, 2, 3, 4, 5, 6, 7, 8, 9, 10, 11, 12, 0] rfl (ih _ _ _ _ _ _ _ _ _ _ hF kx)
set_option maxRecDepth 4000 in
theorem s_L_goes_358 (C : xC p m c s args meth G b cL_goes 17 RL) (hl : l.stackTraces = false) (hX : xF b s) : ∀ (n9 : Nat) (l1 : Int32) (l2 : Int32) (l8 : Int32) (l9 : Int32) (l10 : Int32) (l11 : Int32) (l12 : Int32) (l13 : Int32) (w : xWt) (o : (Int32)) (w' : xWt), L_L_goes_358 n9 l1 l2 l8 l9 l10 l11 l12 l13 w = some (o, w') → xW p l e (xRX 9 4 58) s m args below meth c Q b 17 (CW G b w') 0 0 383 [(0, .ref (b)), (1, .int (l1)), (2, .int (l2)), (3, .ref (ra b 10 0)), (4, .ref (ra b 10 2)), (5, .ref (ra b 10 3)), (6, .ref (ra b 10 4)), (7, .ref (ra b 10 5)), (8, .int (l8)), (9, .int (l9)), (10, .int (l10)), (11, .int (l11)), (12, .int (l12)), (13, .int (o))] [] → xW p l e (xRX 9 4 58) s m args below meth c Q b 17 (CW G b w) 0 0 358 [(0, .ref (b)), (1, .int (l1)), (2, .int (l2)), (3, .ref (ra b 10 0)), (4, .ref (ra b 10 2)), (5, .ref (ra b 10 3)), (6, .ref (ra b 10 4)), (7, .ref (ra b 10 5)), (8, .int (l8)), (9, .int (l9)), (10, .int (l10)), (11, .int (l11)), (12, .int (l12)), (13, .int (l13))] [] := by
  intro n9
  induction n9 with
  | zero => intro l1 l2 l8 l9 l10 l11 l12 l13 w o w' hF; exact none_ne (show none = some _ from hF)
  | succ n9 ih =>
    intro l1 l2 l8 l9 l10 l11 l12 l13 w o w' hF kx
    replace hF : B_L_goes_358 (L_L_goes_358 n9) l1 l2 l8 l9 l10 l11 l12 l13 w = some (o, w') := hF
    unfold B_L_goes_358 at hF
    refine x_iload (pc := 358) C 13 dL_goes_358 rfl ?_
    refine x_bipush (pc := 360) C 6 dL_goes_360 kb_6 ?_
    refine x_icmp_ge (pc := 362) C 383 dL_goes_362 rfl hF (fun c102 hF => ?_) (fun c102 hF => ?_)
    · obtain ⟨rfl, rfl⟩ := ret_eq hF
      exact x_sub [0, 1, 2, 3, 4, 5, 6, 7, 8, 9, 10, 11, 12, 13] rfl kx
    · refine x_aload (pc := 365) C 6 dL_goes_365 rfl ?_
      refine x_bipush (pc := 367) C 6 dL_goes_367 kb_6 ?_
      refine x_iload (pc := 369) C 12 dL_goes_369 rfl ?_
      refine x_imul (pc := 371) C dL_goes_371 ?_
      refine x_iload (pc := 372) C 13 dL_goes_372 rfl ?_
      refine x_iadd (pc := 374) C dL_goes_374 ?_
      refine x_iconst (pc := 375) C 0 dL_goes_375 ki_0 ?_
      refine w_ast (pc := 376) C (vA_m 4 (by decide)) hF dL_goes_376 (fun w101 hF => ?_)
      refine x_iinc (pc := 377) C 13 [(13, .int ((l13 + 1))), (0, .ref (b)), (1, .int (l1)), (2, .int (l2)), (3, .ref (ra b 10 0)), (4, .ref (ra b 10 2)), (5, .ref (ra b 10 3)), (6, .ref (ra b 10 4)), (7, .ref (ra b 10 5)), (8, .int (l8)), (9, .int (l9)), (10, .int (l10)), (11, .int (l11)), (12, .int (l12))] dL_goes_377 rfl rfl (by decide) rfl ?_
      refine x_goto (pc := 380) C 358 dL_goes_380 rfl ?_
      exact x_sub [1, 2, 3, 4, 5, 6, 7, 8, 9, 10, 11, 12, 13, 0] rfl (ih _ _ _ _ _ _ _ _ _ _ _ hF kx)
set_option maxRecDepth 4000 in
theorem s_L_goes_145 (C : xC p m c s args meth G b cL_goes 17 RL) (hl : l.stackTraces = false) (hX : xF b s) : ∀ (n9 : Nat) (l1 : Int32) (l2 : Int32) (l8 : Int32) (l9 : Int32) (l10 : Int32) (l11 : Int32) (l12 : Int32) (l13 : Int32) (w : xWt) (o : (Int32 × Int32)) (w' : xWt), L_L_goes_145 n9 l1 l2 l8 l9 l10 l11 l12 l13 w = some (o, w') → xW p l e (xRX 9 4 58) s m args below meth c Q b 17 (CW G b w') 0 0 184 [(0, .ref (b)), (1, .int (l1)), (2, .int (l2)), (3, .ref (ra b 10 0)), (4, .ref (ra b 10 2)), (5, .ref (ra b 10 3)), (6, .ref (ra b 10 4)), (7, .ref (ra b 10 5)), (8, .int (l8)), (9, .int (l9)), (10, .int (l10)), (11, .int (l11)), (12, .int (o.1)), (13, .int (o.2))] [] → xW p l e (xRX 9 4 58) s m args below meth c Q b 17 (CW G b w) 0 0 145 [(0, .ref (b)), (1, .int (l1)), (2, .int (l2)), (3, .ref (ra b 10 0)), (4, .ref (ra b 10 2)), (5, .ref (ra b 10 3)), (6, .ref (ra b 10 4)), (7, .ref (ra b 10 5)), (8, .int (l8)), (9, .int (l9)), (10, .int (l10)), (11, .int (l11)), (12, .int (l12)), (13, .int (l13))] [] := by
  intro n9
  induction n9 with
  | zero => intro l1 l2 l8 l9 l10 l11 l12 l13 w o w' hF; exact none_ne (show none = some _ from hF)
  | succ n9 ih =>
    intro l1 l2 l8 l9 l10 l11 l12 l13 w o w' hF kx
    replace hF : B_L_goes_145 (L_L_goes_145 n9) l1 l2 l8 l9 l10 l11 l12 l13 w = some (o, w') := hF
    unfold B_L_goes_145 at hF
    refine x_iload (pc := 145) C 13 dL_goes_145 rfl ?_
    refine x_iconst (pc := 147) C 3 dL_goes_147 ki_3 ?_
    refine x_icmp_ge (pc := 148) C 184 dL_goes_148 rfl hF (fun c137 hF => ?_) (fun c137 hF => ?_)
    · obtain ⟨rfl, rfl⟩ := ret_eq hF
      exact x_sub [0, 1, 2, 3, 4, 5, 6, 7, 8, 9, 10, 11, 12, 13] rfl kx
    · refine x_iload (pc := 151) C 12 dL_goes_151 rfl ?_
      refine x_aload (pc := 153) C 7 dL_goes_153 rfl ?_
      refine x_bipush (pc := 155) C 6 dL_goes_155 kb_6 ?_
      refine x_iload (pc := 157) C 8 dL_goes_157 rfl ?_
      refine x_imul (pc := 159) C dL_goes_159 ?_
      refine x_iconst (pc := 160) C 2 dL_goes_160 ki_2 ?_
      refine x_iload (pc := 161) C 13 dL_goes_161 rfl ?_
      refine x_imul (pc := 163) C dL_goes_163 ?_
      refine x_iadd (pc := 164) C dL_goes_164 ?_
      refine w_ald (pc := 165) C (vA_m 5 (by decide)) hF dL_goes_165 (fun x133 hF => ?_)
      refine x_iconst (pc := 166) C 2 dL_goes_166 ki_2 ?_
      obtain ⟨o135, w134, hL, hF⟩ := bd_some hF
      refine x_join (P1 := CW G b w134) (pcJ := 175) (lvJ := [(0, .ref (b)), (1, .int (l1)), (2, .int (l2)), (3, .ref (ra b 10 0)), (4, .ref (ra b 10 2)), (5, .ref (ra b 10 3)), (6, .ref (ra b 10 4)), (7, .ref (ra b 10 5)), (8, .int (l8)), (9, .int (l9)), (10, .int (l10)), (11, .int (l11)), (12, .int (l12)), (13, .int (l13))]) (stJ := [.int (o135), .int (l12)]) 0 0 ?_ (fun kJ175 => ?_)
      · refine x_iadd (pc := 175) C dL_goes_175 ?_
        refine x_istore (pc := 176) C [(12, .int ((l12 + o135))), (0, .ref (b)), (1, .int (l1)), (2, .int (l2)), (3, .ref (ra b 10 0)), (4, .ref (ra b 10 2)), (5, .ref (ra b 10 3)), (6, .ref (ra b 10 4)), (7, .ref (ra b 10 5)), (8, .int (l8)), (9, .int (l9)), (10, .int (l10)), (11, .int (l11)), (13, .int (l13))] dL_goes_176 (by decide) rfl ?_
        refine x_iinc (pc := 178) C 13 [(13, .int ((l13 + 1))), (12, .int ((l12 + o135))), (0, .ref (b)), (1, .int (l1)), (2, .int (l2)), (3, .ref (ra b 10 0)), (4, .ref (ra b 10 2)), (5, .ref (ra b 10 3)), (6, .ref (ra b 10 4)), (7, .ref (ra b 10 5)), (8, .int (l8)), (9, .int (l9)), (10, .int (l10)), (11, .int (l11))] dL_goes_178 rfl rfl (by decide) rfl ?_
        refine x_goto (pc := 181) C 145 dL_goes_181 rfl ?_
        exact x_sub [2, 3, 4, 5, 6, 7, 8, 9, 10, 11, 12, 13, 1, 0] rfl (ih _ _ _ _ _ _ _ _ _ _ _ hF kx)
      · replace hF := hL
        refine x_icmp_ne (pc := 167) C 174 dL_goes_167 rfl hF (fun c136 hF => ?_) (fun c136 hF => ?_)
        · refine x_iconst (pc := 174) C 0 dL_goes_174 ki_0 ?_
          obtain ⟨rfl, rfl⟩ := ret_eq hF
          exact x_sub [0, 1, 2, 3, 4, 5, 6, 7, 8, 9, 10, 11, 12, 13] rfl kJ175
        · refine x_iconst (pc := 170) C 1 dL_goes_170 ki_1 ?_
          refine x_goto (pc := 171) C 175 dL_goes_171 rfl ?_
          obtain ⟨rfl, rfl⟩ := ret_eq hF
          exact x_sub [0, 1, 2, 3, 4, 5, 6, 7, 8, 9, 10, 11, 12, 13] rfl kJ175
set_option maxRecDepth 4000 in
theorem c_L_goes (l : Launch) (G : xG) (b : Nat) (hl : l.stackTraces = false) (a2 : Int32) (a3 : Int32) {w w' : xWt} {v : Int32} (hF : F_L_goes a2 a3 w = some (v, w')) : xMetX l G b yL_goes cL_goes 17 (some .boolean) (xRX 9 4 58) [.ref (b), .int (a2), .int (a3), .ref (ra b 10 0), .ref (ra b 10 2), .ref (ra b 10 3), .ref (ra b 10 4), .ref (ra b 10 5)] (CW G b w) (.inl (some (.int v))) (CW G b w') 4 58 := by
  refine x_ofX (own := RL) rfl pn_L (Nat.le_of_ble_eq_true rfl) ?_
  intro p e s m args below meth c ha C hr hX hout
  unfold F_L_goes at hF
  refine x_iload_n (pc := 0) C 2 dL_goes_0 rfl rfl ?_
  refine x_iconst (pc := 1) C 5 dL_goes_1 ki_5 ?_
  refine cS1_2 (pc := 2) (val := Value.int) C hF (fun _ _ h => c_L_low l _ b _ _ h) sm_L_low wq485 rfl rfl ⟨Nat.le_of_ble_eq_true rfl, Nat.le_of_ble_eq_true rfl⟩ (Nat.le_of_ble_eq_true rfl) ⟨Nat.zero_le _, Nat.zero_le _⟩ dL_goes_2 (fun x2 w1 hF => ?_)
  refine x_istore (pc := 5) C [(8, .int (x2)), (0, .ref (b)), (1, .int (a2)), (2, .int (a3)), (3, .ref (ra b 10 0)), (4, .ref (ra b 10 2)), (5, .ref (ra b 10 3)), (6, .ref (ra b 10 4)), (7, .ref (ra b 10 5))] dL_goes_5 (by decide) rfl ?_
  refine x_iload_n (pc := 7) C 2 dL_goes_7 rfl rfl ?_
  refine x_bipush (pc := 8) C 10 dL_goes_8 kb_10 ?_
  refine cS1_2 (pc := 10) (val := Value.int) C hF (fun _ _ h => c_L_low l _ b _ _ h) sm_L_low wq485 rfl rfl ⟨Nat.le_of_ble_eq_true rfl, Nat.le_of_ble_eq_true rfl⟩ (Nat.le_of_ble_eq_true rfl) ⟨Nat.zero_le _, Nat.zero_le _⟩ dL_goes_10 (fun x4 w3 hF => ?_)
  refine x_istore (pc := 13) C [(9, .int (x4)), (8, .int (x2)), (0, .ref (b)), (1, .int (a2)), (2, .int (a3)), (3, .ref (ra b 10 0)), (4, .ref (ra b 10 2)), (5, .ref (ra b 10 3)), (6, .ref (ra b 10 4)), (7, .ref (ra b 10 5))] dL_goes_13 (by decide) rfl ?_
  refine x_aload (pc := 15) C 8 dL_goes_15 rfl ?_
  refine x_bipush (pc := 17) C 6 dL_goes_17 kb_6 ?_
  refine x_iload (pc := 19) C 1 dL_goes_19 rfl ?_
  refine x_imul (pc := 21) C dL_goes_21 ?_
  refine w_ald (pc := 22) C (vA_m 4 (by decide)) hF dL_goes_22 (fun x5 hF => ?_)
  refine x_iconst (pc := 23) C 1 dL_goes_23 ki_1 ?_
  obtain ⟨o7, w6, hL, hF⟩ := bd_some hF
  refine x_join (P1 := CW G b w6) (pcJ := 32) (lvJ := [(0, .ref (b)), (1, .int (a2)), (2, .int (a3)), (3, .ref (ra b 10 0)), (4, .ref (ra b 10 2)), (5, .ref (ra b 10 3)), (6, .ref (ra b 10 4)), (7, .ref (ra b 10 5)), (8, .int (x2)), (9, .int (x4))]) (stJ := [.int (o7)]) 0 0 ?_ (fun kJ32 => ?_)
  · refine x_istore (pc := 32) C [(10, .int (o7)), (0, .ref (b)), (1, .int (a2)), (2, .int (a3)), (3, .ref (ra b 10 0)), (4, .ref (ra b 10 2)), (5, .ref (ra b 10 3)), (6, .ref (ra b 10 4)), (7, .ref (ra b 10 5)), (8, .int (x2)), (9, .int (x4))] dL_goes_32 (by decide) rfl ?_
    refine x_aload (pc := 34) C 7 dL_goes_34 rfl ?_
    refine x_bipush (pc := 36) C 6 dL_goes_36 kb_6 ?_
    refine x_iload (pc := 38) C 9 dL_goes_38 rfl ?_
    refine x_imul (pc := 40) C dL_goes_40 ?_
    refine x_iconst (pc := 41) C 1 dL_goes_41 ki_1 ?_
    refine x_iadd (pc := 42) C dL_goes_42 ?_
    refine w_ald (pc := 43) C (vA_m 4 (by decide)) hF dL_goes_43 (fun x9 hF => ?_)
    refine x_iconst (pc := 44) C 1 dL_goes_44 ki_1 ?_
    obtain ⟨o11, w10, hL, hF⟩ := bd_some hF
    refine x_join (P1 := CW G b w10) (pcJ := 53) (lvJ := [(0, .ref (b)), (1, .int (a2)), (2, .int (a3)), (3, .ref (ra b 10 0)), (4, .ref (ra b 10 2)), (5, .ref (ra b 10 3)), (6, .ref (ra b 10 4)), (7, .ref (ra b 10 5)), (8, .int (x2)), (9, .int (x4)), (10, .int (o7))]) (stJ := [.int (o11)]) 0 0 ?_ (fun kJ53 => ?_)
    · refine x_istore (pc := 53) C [(11, .int (o11)), (0, .ref (b)), (1, .int (a2)), (2, .int (a3)), (3, .ref (ra b 10 0)), (4, .ref (ra b 10 2)), (5, .ref (ra b 10 3)), (6, .ref (ra b 10 4)), (7, .ref (ra b 10 5)), (8, .int (x2)), (9, .int (x4)), (10, .int (o7))] dL_goes_53 (by decide) rfl ?_
      refine x_iload (pc := 55) C 10 dL_goes_55 rfl ?_
      refine x_iconst (pc := 57) C 2 dL_goes_57 ki_2 ?_
      refine x_icmp_ge (pc := 58) C 133 dL_goes_58 rfl hF (fun c167 hF => ?_) (fun c167 hF => ?_)
      · refine x_iload (pc := 133) C 10 dL_goes_133 rfl ?_
        refine x_iconst (pc := 135) C 4 dL_goes_135 ki_4 ?_
        refine x_icmp_ge (pc := 136) C 235 dL_goes_136 rfl hF (fun c151 hF => ?_) (fun c151 hF => ?_)
        · refine x_iload (pc := 235) C 10 dL_goes_235 rfl ?_
          refine x_bipush (pc := 237) C 7 dL_goes_237 kb_7 ?_
          refine x_icmp_ge (pc := 239) C 300 dL_goes_239 rfl hF (fun c132 hF => ?_) (fun c132 hF => ?_)
          · refine x_iload (pc := 300) C 10 dL_goes_300 rfl ?_
            refine x_bipush (pc := 302) C 7 dL_goes_302 kb_7 ?_
            refine x_icmp_ne (pc := 304) C 416 dL_goes_304 rfl hF (fun c114 hF => ?_) (fun c114 hF => ?_)
            · refine x_iload (pc := 416) C 10 dL_goes_416 rfl ?_
              refine x_bipush (pc := 418) C 8 dL_goes_418 kb_8 ?_
              refine x_icmp_ne (pc := 420) C 522 dL_goes_420 rfl hF (fun c95 hF => ?_) (fun c95 hF => ?_)
              · refine x_iload (pc := 522) C 11 dL_goes_522 rfl ?_
                refine x_if_eq (pc := 524) C 536 dL_goes_524 rfl hF (fun c73 hF => ?_) (fun c73 hF => ?_)
                · refine x_aload_n (pc := 536) C 1 dL_goes_536 rfl rfl ?_
                  refine x_iload (pc := 537) C 9 dL_goes_537 rfl ?_
                  refine cL1_2 (pc := 539) C hX hF (fun _ _ h => c_L_leave l _ b hl _ h) wq591 wq104 wq590 hd_L_leave wq589 rfl rfl ⟨Nat.le_of_ble_eq_true rfl, Nat.le_of_ble_eq_true rfl⟩ (Nat.le_of_ble_eq_true rfl) ⟨Nat.le_of_ble_eq_true rfl, Nat.le_of_ble_eq_true rfl⟩ dL_goes_539 (fun x13 w14 hF => ?_)
                  refine x_iload (pc := 542) C 11 dL_goes_542 rfl ?_
                  obtain ⟨o16, w15, hL, hF⟩ := bd_some hF
                  refine x_join (P1 := CW G b w15) (pcJ := 554) (lvJ := [(0, .ref (b)), (1, .int (a2)), (2, .int (a3)), (3, .ref (ra b 10 0)), (4, .ref (ra b 10 2)), (5, .ref (ra b 10 3)), (6, .ref (ra b 10 4)), (7, .ref (ra b 10 5)), (8, .int (x2)), (9, .int (x4)), (10, .int (o7)), (11, .int (o11))]) (stJ := [.int (o16), .int (x13)]) 1 6 ?_ (fun kJ554 => ?_)
                  · refine x_icmp_ne (pc := 554) C 561 dL_goes_554 rfl hF (fun c18 hF => ?_) (fun c18 hF => ?_)
                    · exact none_ne hF
                    · refine x_iconst (pc := 557) C 1 dL_goes_557 ki_1 ?_
                      refine x_goto (pc := 558) C 562 dL_goes_558 rfl ?_
                      obtain ⟨rfl, rfl⟩ := ret_eq hF
                      refine xv_ret rfl (Nat.le_of_ble_eq_true rfl) (Nat.le_of_ble_eq_true rfl) ?_
                      exact x_zret (pc := 562) C rfl hr rfl (fun _ h => h) dL_goes_562
                  · replace hF := hL
                    refine x_if_eq (pc := 544) C 552 dL_goes_544 rfl hF (fun c17 hF => ?_) (fun c17 hF => ?_)
                    · refine x_bipush (pc := 552) C (-31) dL_goes_552 kb_m31 ?_
                      obtain ⟨rfl, rfl⟩ := ret_eq hF
                      exact x_sub [1, 2, 3, 4, 5, 6, 7, 8, 9, 10, 11, 0] rfl kJ554
                    · refine x_bipush (pc := 547) C (-33) dL_goes_547 kb_m33 ?_
                      refine x_goto (pc := 549) C 554 dL_goes_549 rfl ?_
                      obtain ⟨rfl, rfl⟩ := ret_eq hF
                      exact x_sub [1, 2, 3, 4, 5, 6, 7, 8, 9, 10, 11, 0] rfl kJ554
                · refine x_aload (pc := 527) C 7 dL_goes_527 rfl ?_
                  refine cS1_1 (pc := 529) (val := Value.int) C hF (fun _ _ h => c_L_children l _ b h) sm_L_children wq183 rfl rfl ⟨Nat.le_of_ble_eq_true rfl, Nat.le_of_ble_eq_true rfl⟩ (Nat.le_of_ble_eq_true rfl) ⟨Nat.zero_le _, Nat.zero_le _⟩ dL_goes_529 (fun x20 w19 hF => ?_)
                  refine x_iconst (pc := 532) C 1 dL_goes_532 ki_1 ?_
                  refine x_icmp_ne (pc := 533) C 563 dL_goes_533 rfl hF (fun c72 hF => ?_) (fun c72 hF => ?_)
                  · refine x_iload (pc := 563) C 9 dL_goes_563 rfl ?_
                    refine x_aload (pc := 565) C 7 dL_goes_565 rfl ?_
                    refine x_aload (pc := 567) C 8 dL_goes_567 rfl ?_
                    refine cS0_3 (pc := 569) C hF (fun _ _ h => c_L_without l _ b _ h) sm_L_without wq102 rfl rfl ⟨Nat.le_of_ble_eq_true rfl, Nat.le_of_ble_eq_true rfl⟩ (Nat.le_of_ble_eq_true rfl) ⟨Nat.zero_le _, Nat.zero_le _⟩ dL_goes_569 (fun _ w21 hF => ?_)
                    refine x_aload (pc := 572) C 7 dL_goes_572 rfl ?_
                    refine x_bipush (pc := 574) C 6 dL_goes_574 kb_6 ?_
                    refine x_iload (pc := 576) C 9 dL_goes_576 rfl ?_
                    refine x_imul (pc := 578) C dL_goes_578 ?_
                    refine x_iconst (pc := 579) C 0 dL_goes_579 ki_0 ?_
                    refine w_ast (pc := 580) C (vA_m 4 (by decide)) hF dL_goes_580 (fun w22 hF => ?_)
                    refine x_iconst (pc := 581) C 0 dL_goes_581 ki_0 ?_
                    refine x_istore (pc := 582) C [(12, .int (0)), (11, .int (o11)), (0, .ref (b)), (1, .int (a2)), (2, .int (a3)), (3, .ref (ra b 10 0)), (4, .ref (ra b 10 2)), (5, .ref (ra b 10 3)), (6, .ref (ra b 10 4)), (7, .ref (ra b 10 5)), (8, .int (x2)), (9, .int (x4)), (10, .int (o7))] dL_goes_582 (by decide) rfl ?_
                    obtain ⟨o25, w26, hL, hF⟩ := bd_some hF
                    refine x_sub [2, 3, 4, 5, 6, 7, 8, 9, 10, 11, 12, 1, 0] rfl (s_L_goes_584 C hl hX _ _ _ _ _ _ _ _ _ _ _ hL ?_)
                    refine x_bipush (pc := 601) C 40 dL_goes_601 kb_40 ?_
                    refine w_new (pc := 603) C ⟨Nat.le_of_ble_eq_true rfl, Nat.le_of_ble_eq_true rfl⟩ dL_goes_603 (fun G hdr C => ?_)
                    refine x_astore (pc := 605) C [(13, .ref (oub G)), (0, .ref (b)), (1, .int (a2)), (2, .int (a3)), (3, .ref (ra b 10 0)), (4, .ref (ra b 10 2)), (5, .ref (ra b 10 3)), (6, .ref (ra b 10 4)), (7, .ref (ra b 10 5)), (8, .int (x2)), (9, .int (x4)), (10, .int (o7)), (11, .int (o11)), (12, .int (o25))] dL_goes_605 (by decide) rfl ?_
                    refine x_iconst (pc := 607) C 0 dL_goes_607 ki_0 ?_
                    refine x_istore (pc := 608) C [(14, .int (0)), (13, .ref (oub G)), (0, .ref (b)), (1, .int (a2)), (2, .int (a3)), (3, .ref (ra b 10 0)), (4, .ref (ra b 10 2)), (5, .ref (ra b 10 3)), (6, .ref (ra b 10 4)), (7, .ref (ra b 10 5)), (8, .int (x2)), (9, .int (x4)), (10, .int (o7)), (11, .int (o11)), (12, .int (o25))] dL_goes_608 (by decide) rfl ?_
                    refine x_iconst (pc := 610) C 0 dL_goes_610 ki_0 ?_
                    refine x_istore (pc := 611) C [(15, .int (0)), (14, .int (0)), (13, .ref (oub G)), (0, .ref (b)), (1, .int (a2)), (2, .int (a3)), (3, .ref (ra b 10 0)), (4, .ref (ra b 10 2)), (5, .ref (ra b 10 3)), (6, .ref (ra b 10 4)), (7, .ref (ra b 10 5)), (8, .int (x2)), (9, .int (x4)), (10, .int (o7)), (11, .int (o11)), (12, .int (o25))] dL_goes_611 (by decide) rfl ?_
                    obtain ⟨o46, w47, hL, hF⟩ := bd_some hF
                    refine x_sub [3, 4, 5, 6, 7, 8, 9, 10, 11, 12, 13, 14, 15, 2, 1, 0] rfl (s_L_goes_613 C hl hX _ _ _ _ _ _ _ _ _ _ _ _ _ hL ?_)
                    refine x_iload (pc := 690) C 8 dL_goes_690 rfl ?_
                    refine x_aload_n (pc := 692) C 3 dL_goes_692 rfl rfl ?_
                    refine x_aload (pc := 693) C 4 dL_goes_693 rfl ?_
                    refine x_aload (pc := 695) C 5 dL_goes_695 rfl ?_
                    refine cS1_4 (pc := 697) (val := Value.int) C hF (fun _ _ h => c_L_heap l _ b _ h) sm_L_heap wq421 rfl rfl ⟨Nat.le_of_ble_eq_true rfl, Nat.le_of_ble_eq_true rfl⟩ (Nat.le_of_ble_eq_true rfl) ⟨Nat.le_of_ble_eq_true rfl, Nat.le_of_ble_eq_true rfl⟩ dL_goes_697 (fun x49 w48 hF => ?_)
                    refine x_istore (pc := 700) C [(15, .int (x49)), (0, .ref (b)), (1, .int (a2)), (2, .int (a3)), (3, .ref (ra b 10 0)), (4, .ref (ra b 10 2)), (5, .ref (ra b 10 3)), (6, .ref (ra b 10 4)), (7, .ref (ra b 10 5)), (8, .int (x2)), (9, .int (x4)), (10, .int (o7)), (11, .int (o11)), (12, .int (o25)), (13, .ref (oub G)), (14, .int (o46.1))] dL_goes_700 (by decide) rfl ?_
                    refine x_iconst (pc := 702) C 0 dL_goes_702 ki_0 ?_
                    refine x_istore (pc := 703) C [(16, .int (0)), (15, .int (x49)), (0, .ref (b)), (1, .int (a2)), (2, .int (a3)), (3, .ref (ra b 10 0)), (4, .ref (ra b 10 2)), (5, .ref (ra b 10 3)), (6, .ref (ra b 10 4)), (7, .ref (ra b 10 5)), (8, .int (x2)), (9, .int (x4)), (10, .int (o7)), (11, .int (o11)), (12, .int (o25)), (13, .ref (oub G)), (14, .int (o46.1))] dL_goes_703 (by decide) rfl ?_
                    obtain ⟨o61, w62, hL, hF⟩ := bd_some hF
                    refine x_sub [2, 3, 4, 5, 6, 7, 8, 9, 10, 11, 12, 13, 14, 15, 16, 1, 0] rfl (s_L_goes_705 C hl hX _ _ _ _ _ _ _ _ _ _ _ _ _ _ hL ?_)
                    refine x_aload_n (pc := 755) C 0 dL_goes_755 rfl rfl ?_
                    refine x_iload (pc := 756) C 8 dL_goes_756 rfl ?_
                    refine cL1_2 (pc := 758) C hX hF (fun _ _ h => c_L_leave l _ b hl _ h) wq591 wq104 wq590 hd_L_leave wq589 rfl rfl ⟨Nat.le_of_ble_eq_true rfl, Nat.le_of_ble_eq_true rfl⟩ (Nat.le_of_ble_eq_true rfl) ⟨Nat.le_of_ble_eq_true rfl, Nat.le_of_ble_eq_true rfl⟩ dL_goes_758 (fun x63 w64 hF => ?_)
                    refine x_iload (pc := 761) C 15 dL_goes_761 rfl ?_
                    refine x_icmp_ne (pc := 763) C 770 dL_goes_763 rfl hF (fun c65 hF => ?_) (fun c65 hF => ?_)
                    · exact none_ne hF
                    · refine x_iconst (pc := 766) C 1 dL_goes_766 ki_1 ?_
                      refine x_goto (pc := 767) C 771 dL_goes_767 rfl ?_
                      obtain ⟨rfl, rfl⟩ := ret_eq hF
                      refine xv_ret rfl (Nat.le_of_ble_eq_true rfl) (Nat.le_of_ble_eq_true rfl) ?_
                      exact x_zret (pc := 771) C rfl hr rfl (fun _ h => hdr _ _ h) dL_goes_771
                  · refine x_aload_n (pc := 536) C 1 dL_goes_536 rfl rfl ?_
                    refine x_iload (pc := 537) C 9 dL_goes_537 rfl ?_
                    refine cL1_2 (pc := 539) C hX hF (fun _ _ h => c_L_leave l _ b hl _ h) wq591 wq104 wq590 hd_L_leave wq589 rfl rfl ⟨Nat.le_of_ble_eq_true rfl, Nat.le_of_ble_eq_true rfl⟩ (Nat.le_of_ble_eq_true rfl) ⟨Nat.le_of_ble_eq_true rfl, Nat.le_of_ble_eq_true rfl⟩ dL_goes_539 (fun x66 w67 hF => ?_)
                    refine x_iload (pc := 542) C 11 dL_goes_542 rfl ?_
                    obtain ⟨o69, w68, hL, hF⟩ := bd_some hF
                    refine x_join (P1 := CW G b w68) (pcJ := 554) (lvJ := [(0, .ref (b)), (1, .int (a2)), (2, .int (a3)), (3, .ref (ra b 10 0)), (4, .ref (ra b 10 2)), (5, .ref (ra b 10 3)), (6, .ref (ra b 10 4)), (7, .ref (ra b 10 5)), (8, .int (x2)), (9, .int (x4)), (10, .int (o7)), (11, .int (o11))]) (stJ := [.int (o69), .int (x66)]) 1 6 ?_ (fun kJ554 => ?_)
                    · refine x_icmp_ne (pc := 554) C 561 dL_goes_554 rfl hF (fun c71 hF => ?_) (fun c71 hF => ?_)
                      · exact none_ne hF
                      · refine x_iconst (pc := 557) C 1 dL_goes_557 ki_1 ?_
                        refine x_goto (pc := 558) C 562 dL_goes_558 rfl ?_
                        obtain ⟨rfl, rfl⟩ := ret_eq hF
                        refine xv_ret rfl (Nat.le_of_ble_eq_true rfl) (Nat.le_of_ble_eq_true rfl) ?_
                        exact x_zret (pc := 562) C rfl hr rfl (fun _ h => h) dL_goes_562
                    · replace hF := hL
                      refine x_if_eq (pc := 544) C 552 dL_goes_544 rfl hF (fun c70 hF => ?_) (fun c70 hF => ?_)
                      · refine x_bipush (pc := 552) C (-31) dL_goes_552 kb_m31 ?_
                        obtain ⟨rfl, rfl⟩ := ret_eq hF
                        exact x_sub [1, 2, 3, 4, 5, 6, 7, 8, 9, 10, 11, 0] rfl kJ554
                      · refine x_bipush (pc := 547) C (-33) dL_goes_547 kb_m33 ?_
                        refine x_goto (pc := 549) C 554 dL_goes_549 rfl ?_
                        obtain ⟨rfl, rfl⟩ := ret_eq hF
                        exact x_sub [1, 2, 3, 4, 5, 6, 7, 8, 9, 10, 11, 0] rfl kJ554
              · refine x_iload_n (pc := 423) C 2 dL_goes_423 rfl rfl ?_
                refine x_iconst (pc := 424) C 5 dL_goes_424 ki_5 ?_
                refine x_ishr (pc := 425) C dL_goes_425 ?_
                refine x_iconst (pc := 426) C 2 dL_goes_426 ki_2 ?_
                refine cS1_2 (pc := 427) (val := Value.int) C hF (fun _ _ h => c_L_low l _ b _ _ h) sm_L_low wq485 rfl rfl ⟨Nat.le_of_ble_eq_true rfl, Nat.le_of_ble_eq_true rfl⟩ (Nat.le_of_ble_eq_true rfl) ⟨Nat.zero_le _, Nat.zero_le _⟩ dL_goes_427 (fun x75 w74 hF => ?_)
                refine x_istore (pc := 430) C [(12, .int (x75)), (11, .int (o11)), (0, .ref (b)), (1, .int (a2)), (2, .int (a3)), (3, .ref (ra b 10 0)), (4, .ref (ra b 10 2)), (5, .ref (ra b 10 3)), (6, .ref (ra b 10 4)), (7, .ref (ra b 10 5)), (8, .int (x2)), (9, .int (x4)), (10, .int (o7))] dL_goes_430 (by decide) rfl ?_
                refine x_aload_n (pc := 432) C 5 dL_goes_432 rfl rfl ?_
                refine x_bipush (pc := 433) C 7 dL_goes_433 kb_7 ?_
                refine x_iload (pc := 435) C 0 dL_goes_435 rfl ?_
                refine x_iadd (pc := 437) C dL_goes_437 ?_
                refine w_ald (pc := 438) C (vA_m 0 (by decide)) hF dL_goes_438 (fun x76 hF => ?_)
                refine x_istore (pc := 439) C [(13, .int (x76)), (12, .int (x75)), (11, .int (o11)), (0, .ref (b)), (1, .int (a2)), (2, .int (a3)), (3, .ref (ra b 10 0)), (4, .ref (ra b 10 2)), (5, .ref (ra b 10 3)), (6, .ref (ra b 10 4)), (7, .ref (ra b 10 5)), (8, .int (x2)), (9, .int (x4)), (10, .int (o7))] dL_goes_439 (by decide) rfl ?_
                refine x_aload_n (pc := 441) C 6 dL_goes_441 rfl rfl ?_
                refine x_bipush (pc := 442) C 7 dL_goes_442 kb_7 ?_
                refine x_iload (pc := 444) C 1 dL_goes_444 rfl ?_
                refine x_iadd (pc := 446) C dL_goes_446 ?_
                refine x_iload (pc := 447) C 1 dL_goes_447 rfl ?_
                obtain ⟨o78, w77, hL, hF⟩ := bd_some hF
                refine x_join (P1 := CW G b w77) (pcJ := 474) (lvJ := [(0, .ref (b)), (1, .int (a2)), (2, .int (a3)), (3, .ref (ra b 10 0)), (4, .ref (ra b 10 2)), (5, .ref (ra b 10 3)), (6, .ref (ra b 10 4)), (7, .ref (ra b 10 5)), (8, .int (x2)), (9, .int (x4)), (10, .int (o7)), (11, .int (o11)), (12, .int (x75)), (13, .int (x76))]) (stJ := [.int (o78), .int ((7 + x75)), .ref (ra b 10 0)]) 0 0 ?_ (fun kJ474 => ?_)
                · refine w_ast (pc := 474) C (vA_m 0 (by decide)) hF dL_goes_474 (fun w84 hF => ?_)
                  refine x_aload_n (pc := 475) C 0 dL_goes_475 rfl rfl ?_
                  refine x_iload (pc := 476) C 12 dL_goes_476 rfl ?_
                  refine x_aload_n (pc := 478) C 3 dL_goes_478 rfl rfl ?_
                  refine x_bipush (pc := 479) C 7 dL_goes_479 kb_7 ?_
                  refine x_iload (pc := 481) C 12 dL_goes_481 rfl ?_
                  refine x_iadd (pc := 483) C dL_goes_483 ?_
                  refine w_ald (pc := 484) C (vA_m 0 (by decide)) hF dL_goes_484 (fun x85 hF => ?_)
                  refine cL1_3 (pc := 485) C hX hF (fun _ _ h => c_L_set l _ b hl _ _ h) wq576 wq104 wq575 hd_L_set wq574 rfl rfl ⟨Nat.le_of_ble_eq_true rfl, Nat.le_of_ble_eq_true rfl⟩ (Nat.le_of_ble_eq_true rfl) ⟨Nat.le_of_ble_eq_true rfl, Nat.le_of_ble_eq_true rfl⟩ dL_goes_485 (fun x86 w87 hF => ?_)
                  refine x_iload (pc := 488) C 13 dL_goes_488 rfl ?_
                  refine x_icmp_ne (pc := 490) C 520 dL_goes_490 rfl hF (fun c94 hF => ?_) (fun c94 hF => ?_)
                  · exact none_ne hF
                  · refine x_aload_n (pc := 493) C 0 dL_goes_493 rfl rfl ?_
                    refine x_iconst (pc := 494) C 0 dL_goes_494 ki_0 ?_
                    refine x_bipush (pc := 495) C 21 dL_goes_495 kb_21 ?_
                    refine cL1_3 (pc := 497) C hX hF (fun _ _ h => c_L_set l _ b hl _ _ h) wq576 wq104 wq575 hd_L_set wq574 rfl rfl ⟨Nat.le_of_ble_eq_true rfl, Nat.le_of_ble_eq_true rfl⟩ (Nat.le_of_ble_eq_true rfl) ⟨Nat.le_of_ble_eq_true rfl, Nat.le_of_ble_eq_true rfl⟩ dL_goes_497 (fun x88 w89 hF => ?_)
                    refine x_bipush (pc := 500) C (-32) dL_goes_500 kb_m32 ?_
                    refine x_icmp_ne (pc := 502) C 520 dL_goes_502 rfl hF (fun c93 hF => ?_) (fun c93 hF => ?_)
                    · exact none_ne hF
                    · refine x_aload_n (pc := 505) C 0 dL_goes_505 rfl rfl ?_
                      refine x_iconst (pc := 506) C 2 dL_goes_506 ki_2 ?_
                      refine x_iconst (pc := 507) C 0 dL_goes_507 ki_0 ?_
                      refine cL1_3 (pc := 508) C hX hF (fun _ _ h => c_L_set l _ b hl _ _ h) wq576 wq104 wq575 hd_L_set wq574 rfl rfl ⟨Nat.le_of_ble_eq_true rfl, Nat.le_of_ble_eq_true rfl⟩ (Nat.le_of_ble_eq_true rfl) ⟨Nat.le_of_ble_eq_true rfl, Nat.le_of_ble_eq_true rfl⟩ dL_goes_508 (fun x90 w91 hF => ?_)
                      refine x_bipush (pc := 511) C (-31) dL_goes_511 kb_m31 ?_
                      refine x_icmp_ne (pc := 513) C 520 dL_goes_513 rfl hF (fun c92 hF => ?_) (fun c92 hF => ?_)
                      · exact none_ne hF
                      · refine x_iconst (pc := 516) C 1 dL_goes_516 ki_1 ?_
                        refine x_goto (pc := 517) C 521 dL_goes_517 rfl ?_
                        obtain ⟨rfl, rfl⟩ := ret_eq hF
                        refine xv_ret rfl (Nat.le_of_ble_eq_true rfl) (Nat.le_of_ble_eq_true rfl) ?_
                        exact x_zret (pc := 521) C rfl hr rfl (fun _ h => h) dL_goes_521
                · replace hF := hL
                  refine x_if_ne (pc := 449) C 466 dL_goes_449 rfl hF (fun c83 hF => ?_) (fun c83 hF => ?_)
                  · refine x_iload_n (pc := 466) C 4 dL_goes_466 rfl rfl ?_
                    refine x_bipush (pc := 467) C 6 dL_goes_467 kb_6 ?_
                    refine x_ishr (pc := 469) C dL_goes_469 ?_
                    refine x_iconst (pc := 470) C 2 dL_goes_470 ki_2 ?_
                    refine cS1_2 (pc := 471) (val := Value.int) C hF (fun _ _ h => c_L_low l _ b _ _ h) sm_L_low wq485 rfl rfl ⟨Nat.le_of_ble_eq_true rfl, Nat.le_of_ble_eq_true rfl⟩ (Nat.le_of_ble_eq_true rfl) ⟨Nat.zero_le _, Nat.zero_le _⟩ dL_goes_471 (fun x80 w79 hF => ?_)
                    obtain ⟨rfl, rfl⟩ := ret_eq hF
                    exact x_sub [3, 4, 5, 6, 7, 8, 9, 10, 11, 12, 13, 2, 1, 0] rfl kJ474
                  · refine x_iconst (pc := 452) C 1 dL_goes_452 ki_1 ?_
                    refine x_iload_n (pc := 453) C 4 dL_goes_453 rfl rfl ?_
                    refine x_bipush (pc := 454) C 6 dL_goes_454 kb_6 ?_
                    refine x_ishr (pc := 456) C dL_goes_456 ?_
                    refine x_bipush (pc := 457) C 6 dL_goes_457 kb_6 ?_
                    refine cS1_2 (pc := 459) (val := Value.int) C hF (fun _ _ h => c_L_low l _ b _ _ h) sm_L_low wq485 rfl rfl ⟨Nat.le_of_ble_eq_true rfl, Nat.le_of_ble_eq_true rfl⟩ (Nat.le_of_ble_eq_true rfl) ⟨Nat.zero_le _, Nat.zero_le _⟩ dL_goes_459 (fun x82 w81 hF => ?_)
                    refine x_iadd (pc := 462) C dL_goes_462 ?_
                    refine x_goto (pc := 463) C 474 dL_goes_463 rfl ?_
                    obtain ⟨rfl, rfl⟩ := ret_eq hF
                    exact x_sub [3, 4, 5, 6, 7, 8, 9, 10, 11, 12, 13, 2, 1, 0] rfl kJ474
            · refine x_iconst (pc := 307) C 0 dL_goes_307 ki_0 ?_
              refine x_istore (pc := 308) C [(12, .int (0)), (11, .int (o11)), (0, .ref (b)), (1, .int (a2)), (2, .int (a3)), (3, .ref (ra b 10 0)), (4, .ref (ra b 10 2)), (5, .ref (ra b 10 3)), (6, .ref (ra b 10 4)), (7, .ref (ra b 10 5)), (8, .int (x2)), (9, .int (x4)), (10, .int (o7))] dL_goes_308 (by decide) rfl ?_
              obtain ⟨o99, w100, hL, hF⟩ := bd_some hF
              refine x_sub [2, 3, 4, 5, 6, 7, 8, 9, 10, 11, 12, 1, 0] rfl (s_L_goes_310 C hl hX _ _ _ _ _ _ _ _ _ _ _ hL ?_)
              refine x_iload (pc := 334) C 12 dL_goes_334 rfl ?_
              refine x_iconst (pc := 336) C 5 dL_goes_336 ki_5 ?_
              refine x_icmp_ne (pc := 337) C 355 dL_goes_337 rfl hF (fun c113 hF => ?_) (fun c113 hF => ?_)
              · refine x_iconst (pc := 355) C 0 dL_goes_355 ki_0 ?_
                refine x_istore (pc := 356) C [(13, .int (0)), (0, .ref (b)), (1, .int (a2)), (2, .int (a3)), (3, .ref (ra b 10 0)), (4, .ref (ra b 10 2)), (5, .ref (ra b 10 3)), (6, .ref (ra b 10 4)), (7, .ref (ra b 10 5)), (8, .int (x2)), (9, .int (x4)), (10, .int (o7)), (11, .int (o11)), (12, .int (o99))] dL_goes_356 (by decide) rfl ?_
                obtain ⟨o103, w104, hL, hF⟩ := bd_some hF
                refine x_sub [1, 2, 3, 4, 5, 6, 7, 8, 9, 10, 11, 12, 13, 0] rfl (s_L_goes_358 C hl hX _ _ _ _ _ _ _ _ _ _ _ _ hL ?_)
                refine x_iload (pc := 383) C 12 dL_goes_383 rfl ?_
                refine x_aload (pc := 385) C 6 dL_goes_385 rfl ?_
                refine x_aload (pc := 387) C 7 dL_goes_387 rfl ?_
                refine cS0_3 (pc := 389) C hF (fun _ _ h => c_L_without l _ b _ h) sm_L_without wq102 rfl rfl ⟨Nat.le_of_ble_eq_true rfl, Nat.le_of_ble_eq_true rfl⟩ (Nat.le_of_ble_eq_true rfl) ⟨Nat.zero_le _, Nat.zero_le _⟩ dL_goes_389 (fun _ w105 hF => ?_)
                refine x_aload (pc := 392) C 6 dL_goes_392 rfl ?_
                refine x_bipush (pc := 394) C 6 dL_goes_394 kb_6 ?_
                refine x_iload (pc := 396) C 12 dL_goes_396 rfl ?_
                refine x_imul (pc := 398) C dL_goes_398 ?_
                refine x_iconst (pc := 399) C 1 dL_goes_399 ki_1 ?_
                refine w_ast (pc := 400) C (vA_m 4 (by decide)) hF dL_goes_400 (fun w106 hF => ?_)
                refine x_aload_n (pc := 401) C 0 dL_goes_401 rfl rfl ?_
                refine cL1_1 (pc := 402) C hX hF (fun _ _ h => c_L_come l _ b hl h) wq556 wq104 wq555 hd_L_come wq554 rfl rfl ⟨Nat.le_of_ble_eq_true rfl, Nat.le_of_ble_eq_true rfl⟩ (Nat.le_of_ble_eq_true rfl) ⟨Nat.le_of_ble_eq_true rfl, Nat.le_of_ble_eq_true rfl⟩ dL_goes_402 (fun x107 w108 hF => ?_)
                refine x_iload (pc := 405) C 12 dL_goes_405 rfl ?_
                refine x_icmp_ne (pc := 407) C 414 dL_goes_407 rfl hF (fun c109 hF => ?_) (fun c109 hF => ?_)
                · exact none_ne hF
                · refine x_iconst (pc := 410) C 1 dL_goes_410 ki_1 ?_
                  refine x_goto (pc := 411) C 415 dL_goes_411 rfl ?_
                  obtain ⟨rfl, rfl⟩ := ret_eq hF
                  refine xv_ret rfl (Nat.le_of_ble_eq_true rfl) (Nat.le_of_ble_eq_true rfl) ?_
                  exact x_zret (pc := 415) C rfl hr rfl (fun _ h => h) dL_goes_415
              · refine x_aload_n (pc := 340) C 0 dL_goes_340 rfl rfl ?_
                refine cL1_1 (pc := 341) C hX hF (fun _ _ h => c_L_come l _ b hl h) wq556 wq104 wq555 hd_L_come wq554 rfl rfl ⟨Nat.le_of_ble_eq_true rfl, Nat.le_of_ble_eq_true rfl⟩ (Nat.le_of_ble_eq_true rfl) ⟨Nat.le_of_ble_eq_true rfl, Nat.le_of_ble_eq_true rfl⟩ dL_goes_341 (fun x110 w111 hF => ?_)
                refine x_bipush (pc := 344) C (-33) dL_goes_344 kb_m33 ?_
                refine x_icmp_ne (pc := 346) C 353 dL_goes_346 rfl hF (fun c112 hF => ?_) (fun c112 hF => ?_)
                · exact none_ne hF
                · refine x_iconst (pc := 349) C 1 dL_goes_349 ki_1 ?_
                  refine x_goto (pc := 350) C 354 dL_goes_350 rfl ?_
                  obtain ⟨rfl, rfl⟩ := ret_eq hF
                  refine xv_ret rfl (Nat.le_of_ble_eq_true rfl) (Nat.le_of_ble_eq_true rfl) ?_
                  exact x_zret (pc := 354) C rfl hr rfl (fun _ h => h) dL_goes_354
          · refine x_aload_n (pc := 242) C 4 dL_goes_242 rfl rfl ?_
            refine x_aload (pc := 243) C 7 dL_goes_243 rfl ?_
            refine cS1_2 (pc := 245) (val := Value.int) C hF (fun _ _ h => c_L_late l _ b h) sm_L_late wq213 rfl rfl ⟨Nat.le_of_ble_eq_true rfl, Nat.le_of_ble_eq_true rfl⟩ (Nat.le_of_ble_eq_true rfl) ⟨Nat.zero_le _, Nat.zero_le _⟩ dL_goes_245 (fun x116 w115 hF => ?_)
            obtain ⟨o118, w117, hL, hF⟩ := bd_some hF
            refine x_join (P1 := CW G b w117) (pcJ := 256) (lvJ := [(0, .ref (b)), (1, .int (a2)), (2, .int (a3)), (3, .ref (ra b 10 0)), (4, .ref (ra b 10 2)), (5, .ref (ra b 10 3)), (6, .ref (ra b 10 4)), (7, .ref (ra b 10 5)), (8, .int (x2)), (9, .int (x4)), (10, .int (o7)), (11, .int (o11))]) (stJ := [.int (o118)]) 0 0 ?_ (fun kJ256 => ?_)
            · refine x_istore (pc := 256) C [(12, .int (o118)), (0, .ref (b)), (1, .int (a2)), (2, .int (a3)), (3, .ref (ra b 10 0)), (4, .ref (ra b 10 2)), (5, .ref (ra b 10 3)), (6, .ref (ra b 10 4)), (7, .ref (ra b 10 5)), (8, .int (x2)), (9, .int (x4)), (10, .int (o7)), (11, .int (o11))] dL_goes_256 (by decide) rfl ?_
              refine x_aload_n (pc := 258) C 4 dL_goes_258 rfl rfl ?_
              refine x_iconst (pc := 259) C 0 dL_goes_259 ki_0 ?_
              refine x_dup2 (pc := 260) C dL_goes_260 rfl rfl ?_
              refine w_ald (pc := 261) C (vA_m 0 (by decide)) hF dL_goes_261 (fun x120 hF => ?_)
              refine x_iload (pc := 262) C 0 dL_goes_262 rfl ?_
              obtain ⟨o122, w121, hL, hF⟩ := bd_some hF
              refine x_join (P1 := CW G b w121) (pcJ := 272) (lvJ := [(0, .ref (b)), (1, .int (a2)), (2, .int (a3)), (3, .ref (ra b 10 0)), (4, .ref (ra b 10 2)), (5, .ref (ra b 10 3)), (6, .ref (ra b 10 4)), (7, .ref (ra b 10 5)), (8, .int (x2)), (9, .int (x4)), (10, .int (o7)), (11, .int (o11)), (12, .int (o118))]) (stJ := [.int (o122), .int (x120), .int (0), .ref (ra b 10 0)]) 0 0 ?_ (fun kJ272 => ?_)
              · refine x_iadd (pc := 272) C dL_goes_272 ?_
                refine w_ast (pc := 273) C (vA_m 0 (by decide)) hF dL_goes_273 (fun w124 hF => ?_)
                refine x_aload_n (pc := 274) C 0 dL_goes_274 rfl rfl ?_
                refine cL1_1 (pc := 275) C hX hF (fun _ _ h => c_L_ring l _ b hl h) wq540 wq104 wq539 hd_L_ring wq538 rfl rfl ⟨Nat.le_of_ble_eq_true rfl, Nat.le_of_ble_eq_true rfl⟩ (Nat.le_of_ble_eq_true rfl) ⟨Nat.le_of_ble_eq_true rfl, Nat.le_of_ble_eq_true rfl⟩ dL_goes_275 (fun x125 w126 hF => ?_)
                refine x_iload (pc := 278) C 12 dL_goes_278 rfl ?_
                obtain ⟨o128, w127, hL, hF⟩ := bd_some hF
                refine x_join (P1 := CW G b w127) (pcJ := 291) (lvJ := [(0, .ref (b)), (1, .int (a2)), (2, .int (a3)), (3, .ref (ra b 10 0)), (4, .ref (ra b 10 2)), (5, .ref (ra b 10 3)), (6, .ref (ra b 10 4)), (7, .ref (ra b 10 5)), (8, .int (x2)), (9, .int (x4)), (10, .int (o7)), (11, .int (o11)), (12, .int (o118))]) (stJ := [.int (o128), .int (x125)]) 1 6 ?_ (fun kJ291 => ?_)
                · refine x_icmp_ne (pc := 291) C 298 dL_goes_291 rfl hF (fun c131 hF => ?_) (fun c131 hF => ?_)
                  · exact none_ne hF
                  · refine x_iconst (pc := 294) C 1 dL_goes_294 ki_1 ?_
                    refine x_goto (pc := 295) C 299 dL_goes_295 rfl ?_
                    obtain ⟨rfl, rfl⟩ := ret_eq hF
                    refine xv_ret rfl (Nat.le_of_ble_eq_true rfl) (Nat.le_of_ble_eq_true rfl) ?_
                    exact x_zret (pc := 299) C rfl hr rfl (fun _ h => h) dL_goes_299
                · replace hF := hL
                  refine x_if_eq (pc := 280) C 289 dL_goes_280 rfl hF (fun c130 hF => ?_) (fun c130 hF => ?_)
                  · refine x_bipush (pc := 289) C (-33) dL_goes_289 kb_m33 ?_
                    obtain ⟨rfl, rfl⟩ := ret_eq hF
                    exact x_sub [0, 1, 2, 3, 4, 5, 6, 7, 8, 9, 10, 11, 12] rfl kJ291
                  · refine x_aload_n (pc := 283) C 3 dL_goes_283 rfl rfl ?_
                    refine x_iconst (pc := 284) C 0 dL_goes_284 ki_0 ?_
                    refine w_ald (pc := 285) C (vA_m 0 (by decide)) hF dL_goes_285 (fun x129 hF => ?_)
                    refine x_goto (pc := 286) C 291 dL_goes_286 rfl ?_
                    obtain ⟨rfl, rfl⟩ := ret_eq hF
                    exact x_sub [0, 1, 2, 3, 4, 5, 6, 7, 8, 9, 10, 11, 12] rfl kJ291
              · replace hF := hL
                refine x_if_eq (pc := 264) C 271 dL_goes_264 rfl hF (fun c123 hF => ?_) (fun c123 hF => ?_)
                · refine x_iconst (pc := 271) C 0 dL_goes_271 ki_0 ?_
                  obtain ⟨rfl, rfl⟩ := ret_eq hF
                  exact x_sub [1, 2, 3, 4, 5, 6, 7, 8, 9, 10, 11, 12, 0] rfl kJ272
                · refine x_iconst (pc := 267) C 1 dL_goes_267 ki_1 ?_
                  refine x_goto (pc := 268) C 272 dL_goes_268 rfl ?_
                  obtain ⟨rfl, rfl⟩ := ret_eq hF
                  exact x_sub [1, 2, 3, 4, 5, 6, 7, 8, 9, 10, 11, 12, 0] rfl kJ272
            · replace hF := hL
              refine x_if_ne (pc := 248) C 255 dL_goes_248 rfl hF (fun c119 hF => ?_) (fun c119 hF => ?_)
              · refine x_iconst (pc := 255) C 0 dL_goes_255 ki_0 ?_
                obtain ⟨rfl, rfl⟩ := ret_eq hF
                exact x_sub [1, 2, 3, 4, 5, 6, 7, 8, 9, 10, 11, 0] rfl kJ256
              · refine x_iconst (pc := 251) C 1 dL_goes_251 ki_1 ?_
                refine x_goto (pc := 252) C 256 dL_goes_252 rfl ?_
                obtain ⟨rfl, rfl⟩ := ret_eq hF
                exact x_sub [1, 2, 3, 4, 5, 6, 7, 8, 9, 10, 11, 0] rfl kJ256
        · refine x_iconst (pc := 139) C 0 dL_goes_139 ki_0 ?_
          refine x_istore (pc := 140) C [(12, .int (0)), (11, .int (o11)), (0, .ref (b)), (1, .int (a2)), (2, .int (a3)), (3, .ref (ra b 10 0)), (4, .ref (ra b 10 2)), (5, .ref (ra b 10 3)), (6, .ref (ra b 10 4)), (7, .ref (ra b 10 5)), (8, .int (x2)), (9, .int (x4)), (10, .int (o7))] dL_goes_140 (by decide) rfl ?_
          refine x_iconst (pc := 142) C 0 dL_goes_142 ki_0 ?_
          refine x_istore (pc := 143) C [(13, .int (0)), (12, .int (0)), (11, .int (o11)), (0, .ref (b)), (1, .int (a2)), (2, .int (a3)), (3, .ref (ra b 10 0)), (4, .ref (ra b 10 2)), (5, .ref (ra b 10 3)), (6, .ref (ra b 10 4)), (7, .ref (ra b 10 5)), (8, .int (x2)), (9, .int (x4)), (10, .int (o7))] dL_goes_143 (by decide) rfl ?_
          obtain ⟨o138, w139, hL, hF⟩ := bd_some hF
          refine x_sub [3, 4, 5, 6, 7, 8, 9, 10, 11, 12, 13, 2, 1, 0] rfl (s_L_goes_145 C hl hX _ _ _ _ _ _ _ _ _ _ _ _ hL ?_)
          refine x_iload (pc := 184) C 11 dL_goes_184 rfl ?_
          obtain ⟨o141, w140, hL, hF⟩ := bd_some hF
          refine x_join (P1 := CW G b w140) (pcJ := 198) (lvJ := [(0, .ref (b)), (1, .int (a2)), (2, .int (a3)), (3, .ref (ra b 10 0)), (4, .ref (ra b 10 2)), (5, .ref (ra b 10 3)), (6, .ref (ra b 10 4)), (7, .ref (ra b 10 5)), (8, .int (x2)), (9, .int (x4)), (10, .int (o7)), (11, .int (o11)), (12, .int (o138.1)), (13, .int (o138.2))]) (stJ := []) 0 0 ?_ (fun kJ198 => ?_)
          · refine x_aload_n (pc := 198) C 0 dL_goes_198 rfl rfl ?_
            refine x_iload (pc := 199) C 8 dL_goes_199 rfl ?_
            refine cL1_2 (pc := 201) C hX hF (fun _ _ h => c_L_rest l _ b hl _ h) wq516 wq104 wq515 hd_L_rest wq514 rfl rfl ⟨Nat.le_of_ble_eq_true rfl, Nat.le_of_ble_eq_true rfl⟩ (Nat.le_of_ble_eq_true rfl) ⟨Nat.le_of_ble_eq_true rfl, Nat.le_of_ble_eq_true rfl⟩ dL_goes_201 (fun x144 w145 hF => ?_)
            refine x_iload (pc := 204) C 10 dL_goes_204 rfl ?_
            obtain ⟨o147, w146, hL, hF⟩ := bd_some hF
            refine x_join (P1 := CW G b w146) (pcJ := 226) (lvJ := [(0, .ref (b)), (1, .int (a2)), (2, .int (a3)), (3, .ref (ra b 10 0)), (4, .ref (ra b 10 2)), (5, .ref (ra b 10 3)), (6, .ref (ra b 10 4)), (7, .ref (ra b 10 5)), (8, .int (x2)), (9, .int (x4)), (10, .int (o7)), (11, .int (o11)), (12, .int (o138.1)), (13, .int (o138.2))]) (stJ := [.int (o147), .int (x144)]) 1 6 ?_ (fun kJ226 => ?_)
            · refine x_icmp_ne (pc := 226) C 233 dL_goes_226 rfl hF (fun c150 hF => ?_) (fun c150 hF => ?_)
              · exact none_ne hF
              · refine x_iconst (pc := 229) C 1 dL_goes_229 ki_1 ?_
                refine x_goto (pc := 230) C 234 dL_goes_230 rfl ?_
                obtain ⟨rfl, rfl⟩ := ret_eq hF
                refine xv_ret rfl (Nat.le_of_ble_eq_true rfl) (Nat.le_of_ble_eq_true rfl) ?_
                exact x_zret (pc := 234) C rfl hr rfl (fun _ h => h) dL_goes_234
            · replace hF := hL
              refine x_if_ne (pc := 206) C 214 dL_goes_206 rfl hF (fun c149 hF => ?_) (fun c149 hF => ?_)
              · refine x_iload (pc := 214) C 11 dL_goes_214 rfl ?_
                refine x_if_eq (pc := 216) C 224 dL_goes_216 rfl hF (fun c148 hF => ?_) (fun c148 hF => ?_)
                · refine x_bipush (pc := 224) C (-33) dL_goes_224 kb_m33 ?_
                  obtain ⟨rfl, rfl⟩ := ret_eq hF
                  exact x_sub [0, 1, 2, 3, 4, 5, 6, 7, 8, 9, 10, 11, 12, 13] rfl kJ226
                · refine x_iload (pc := 219) C 12 dL_goes_219 rfl ?_
                  refine x_goto (pc := 221) C 226 dL_goes_221 rfl ?_
                  obtain ⟨rfl, rfl⟩ := ret_eq hF
                  exact x_sub [0, 1, 2, 3, 4, 5, 6, 7, 8, 9, 10, 11, 12, 13] rfl kJ226
              · refine x_bipush (pc := 209) C (-31) dL_goes_209 kb_m31 ?_
                refine x_goto (pc := 211) C 226 dL_goes_211 rfl ?_
                obtain ⟨rfl, rfl⟩ := ret_eq hF
                exact x_sub [0, 1, 2, 3, 4, 5, 6, 7, 8, 9, 10, 11, 12, 13] rfl kJ226
          · replace hF := hL
            refine x_if_eq (pc := 186) C 198 dL_goes_186 rfl hF (fun c143 hF => ?_) (fun c143 hF => ?_)
            · obtain ⟨rfl, rfl⟩ := ret_eq hF
              exact x_sub [0, 1, 2, 3, 4, 5, 6, 7, 8, 9, 10, 11, 12, 13] rfl kJ198
            · refine x_iload (pc := 189) C 8 dL_goes_189 rfl ?_
              refine x_aload (pc := 191) C 6 dL_goes_191 rfl ?_
              refine x_aload (pc := 193) C 7 dL_goes_193 rfl ?_
              refine cS0_3 (pc := 195) C hF (fun _ _ h => c_L_without l _ b _ h) sm_L_without wq102 rfl rfl ⟨Nat.le_of_ble_eq_true rfl, Nat.le_of_ble_eq_true rfl⟩ (Nat.le_of_ble_eq_true rfl) ⟨Nat.zero_le _, Nat.zero_le _⟩ dL_goes_195 (fun _ w142 hF => ?_)
              obtain ⟨rfl, rfl⟩ := ret_eq hF
              exact x_sub [0, 1, 2, 3, 4, 5, 6, 7, 8, 9, 10, 11, 12, 13] rfl kJ198
      · refine x_iload (pc := 61) C 11 dL_goes_61 rfl ?_
        obtain ⟨o153, w152, hL, hF⟩ := bd_some hF
        refine x_join (P1 := CW G b w152) (pcJ := 95) (lvJ := [(0, .ref (b)), (1, .int (a2)), (2, .int (a3)), (3, .ref (ra b 10 0)), (4, .ref (ra b 10 2)), (5, .ref (ra b 10 3)), (6, .ref (ra b 10 4)), (7, .ref (ra b 10 5)), (8, .int (x2)), (9, .int (x4)), (10, .int (o7)), (11, .int (o11))]) (stJ := []) 0 0 ?_ (fun kJ95 => ?_)
        · refine x_aload_n (pc := 95) C 0 dL_goes_95 rfl rfl ?_
          refine x_iload (pc := 96) C 8 dL_goes_96 rfl ?_
          refine cL1_2 (pc := 98) C hX hF (fun _ _ h => c_L_enter l _ b hl _ h) wq494 wq104 wq493 hd_L_enter wq492 rfl rfl ⟨Nat.le_of_ble_eq_true rfl, Nat.le_of_ble_eq_true rfl⟩ (Nat.le_of_ble_eq_true rfl) ⟨Nat.le_of_ble_eq_true rfl, Nat.le_of_ble_eq_true rfl⟩ dL_goes_98 (fun x159 w160 hF => ?_)
          refine x_iload (pc := 101) C 10 dL_goes_101 rfl ?_
          obtain ⟨o162, w161, hL, hF⟩ := bd_some hF
          refine x_join (P1 := CW G b w161) (pcJ := 124) (lvJ := [(0, .ref (b)), (1, .int (a2)), (2, .int (a3)), (3, .ref (ra b 10 0)), (4, .ref (ra b 10 2)), (5, .ref (ra b 10 3)), (6, .ref (ra b 10 4)), (7, .ref (ra b 10 5)), (8, .int (x2)), (9, .int (x4)), (10, .int (o7)), (11, .int (o11))]) (stJ := [.int (o162), .int (x159)]) 1 6 ?_ (fun kJ124 => ?_)
          · refine x_icmp_ne (pc := 124) C 131 dL_goes_124 rfl hF (fun c166 hF => ?_) (fun c166 hF => ?_)
            · exact none_ne hF
            · refine x_iconst (pc := 127) C 1 dL_goes_127 ki_1 ?_
              refine x_goto (pc := 128) C 132 dL_goes_128 rfl ?_
              obtain ⟨rfl, rfl⟩ := ret_eq hF
              refine xv_ret rfl (Nat.le_of_ble_eq_true rfl) (Nat.le_of_ble_eq_true rfl) ?_
              exact x_zret (pc := 132) C rfl hr rfl (fun _ h => h) dL_goes_132
          · replace hF := hL
            refine x_if_ne (pc := 103) C 111 dL_goes_103 rfl hF (fun c165 hF => ?_) (fun c165 hF => ?_)
            · refine x_iload (pc := 111) C 11 dL_goes_111 rfl ?_
              refine x_if_eq (pc := 113) C 121 dL_goes_113 rfl hF (fun c164 hF => ?_) (fun c164 hF => ?_)
              · refine x_aload_n (pc := 121) C 3 dL_goes_121 rfl rfl ?_
                refine x_iconst (pc := 122) C 0 dL_goes_122 ki_0 ?_
                refine w_ald (pc := 123) C (vA_m 0 (by decide)) hF dL_goes_123 (fun x163 hF => ?_)
                obtain ⟨rfl, rfl⟩ := ret_eq hF
                exact x_sub [0, 1, 2, 3, 4, 5, 6, 7, 8, 9, 10, 11] rfl kJ124
              · refine x_bipush (pc := 116) C (-33) dL_goes_116 kb_m33 ?_
                refine x_goto (pc := 118) C 124 dL_goes_118 rfl ?_
                obtain ⟨rfl, rfl⟩ := ret_eq hF
                exact x_sub [0, 1, 2, 3, 4, 5, 6, 7, 8, 9, 10, 11] rfl kJ124
            · refine x_bipush (pc := 106) C (-31) dL_goes_106 kb_m31 ?_
              refine x_goto (pc := 108) C 124 dL_goes_108 rfl ?_
              obtain ⟨rfl, rfl⟩ := ret_eq hF
              exact x_sub [0, 1, 2, 3, 4, 5, 6, 7, 8, 9, 10, 11] rfl kJ124
        · replace hF := hL
          refine x_if_eq (pc := 63) C 95 dL_goes_63 rfl hF (fun c158 hF => ?_) (fun c158 hF => ?_)
          · obtain ⟨rfl, rfl⟩ := ret_eq hF
            exact x_sub [1, 2, 3, 4, 5, 6, 7, 8, 9, 10, 11, 0] rfl kJ95
          · refine x_iload (pc := 66) C 0 dL_goes_66 rfl ?_
            refine x_if_ne (pc := 68) C 95 dL_goes_68 rfl hF (fun c157 hF => ?_) (fun c157 hF => ?_)
            · obtain ⟨rfl, rfl⟩ := ret_eq hF
              exact x_sub [1, 2, 3, 4, 5, 6, 7, 8, 9, 10, 11, 0] rfl kJ95
            · refine x_aload (pc := 71) C 7 dL_goes_71 rfl ?_
              refine x_bipush (pc := 73) C 6 dL_goes_73 kb_6 ?_
              refine x_iload (pc := 75) C 9 dL_goes_75 rfl ?_
              refine x_imul (pc := 77) C dL_goes_77 ?_
              refine x_iconst (pc := 78) C 1 dL_goes_78 ki_1 ?_
              refine x_iadd (pc := 79) C dL_goes_79 ?_
              refine x_iconst (pc := 80) C 1 dL_goes_80 ki_1 ?_
              refine w_ast (pc := 81) C (vA_m 4 (by decide)) hF dL_goes_81 (fun w154 hF => ?_)
              refine x_aload (pc := 82) C 7 dL_goes_82 rfl ?_
              refine x_bipush (pc := 84) C 6 dL_goes_84 kb_6 ?_
              refine x_iload (pc := 86) C 9 dL_goes_86 rfl ?_
              refine x_imul (pc := 88) C dL_goes_88 ?_
              refine x_iconst (pc := 89) C 2 dL_goes_89 ki_2 ?_
              refine x_iadd (pc := 90) C dL_goes_90 ?_
              refine x_aload_n (pc := 91) C 4 dL_goes_91 rfl rfl ?_
              refine x_iconst (pc := 92) C 0 dL_goes_92 ki_0 ?_
              refine w_ald (pc := 93) C (vA_m 0 (by decide)) hF dL_goes_93 (fun x155 hF => ?_)
              refine w_ast (pc := 94) C (vA_m 4 (by decide)) hF dL_goes_94 (fun w156 hF => ?_)
              obtain ⟨rfl, rfl⟩ := ret_eq hF
              exact x_sub [1, 2, 3, 4, 5, 6, 7, 8, 9, 10, 11, 0] rfl kJ95
    · replace hF := hL
      refine x_icmp_ne (pc := 45) C 52 dL_goes_45 rfl hF (fun c12 hF => ?_) (fun c12 hF => ?_)
      · refine x_iconst (pc := 52) C 0 dL_goes_52 ki_0 ?_
        obtain ⟨rfl, rfl⟩ := ret_eq hF
        exact x_sub [1, 2, 3, 4, 5, 6, 7, 8, 9, 10, 0] rfl kJ53
      · refine x_iconst (pc := 48) C 1 dL_goes_48 ki_1 ?_
        refine x_goto (pc := 49) C 53 dL_goes_49 rfl ?_
        obtain ⟨rfl, rfl⟩ := ret_eq hF
        exact x_sub [1, 2, 3, 4, 5, 6, 7, 8, 9, 10, 0] rfl kJ53
  · replace hF := hL
    refine x_icmp_ne (pc := 24) C 31 dL_goes_24 rfl hF (fun c8 hF => ?_) (fun c8 hF => ?_)
    · refine x_iconst (pc := 31) C 0 dL_goes_31 ki_0 ?_
      obtain ⟨rfl, rfl⟩ := ret_eq hF
      exact x_sub [2, 3, 4, 5, 6, 7, 8, 9, 1, 0] rfl kJ32
    · refine x_iconst (pc := 27) C 1 dL_goes_27 ki_1 ?_
      refine x_goto (pc := 28) C 32 dL_goes_28 rfl ?_
      obtain ⟨rfl, rfl⟩ := ret_eq hF
      exact x_sub [2, 3, 4, 5, 6, 7, 8, 9, 1, 0] rfl kJ32
set_option maxRecDepth 4000 in
theorem c_L_hooks (l : Launch) (G : xG) (b : Nat) (hl : l.stackTraces = false) (a2 : Int32) (a3 : Int32) {w w' : xWt} {v : Int32} (hF : F_L_hooks a2 a3 w = some (v, w')) : xMetX l G b yL_hooks cL_hooks 17 (some .boolean) (xRX 10 4 58) [.ref (b), .int (a2), .int (a3), .ref (ra b 10 0), .ref (ra b 10 1), .ref (ra b 10 2), .ref (ra b 10 4), .ref (ra b 10 5)] (CW G b w) (.inl (some (.int v))) (CW G b w') 4 58 := by
  refine x_ofX (own := RL) rfl pn_L (Nat.le_of_ble_eq_true rfl) ?_
  intro p e s m args below meth c ha C hr hX hout
  unfold F_L_hooks at hF
  refine x_iload_n (pc := 0) C 2 dL_hooks_0 rfl rfl ?_
  refine x_iconst (pc := 1) C 5 dL_hooks_1 ki_5 ?_
  refine cS1_2 (pc := 2) (val := Value.int) C hF (fun _ _ h => c_L_low l _ b _ _ h) sm_L_low wq485 rfl rfl ⟨Nat.le_of_ble_eq_true rfl, Nat.le_of_ble_eq_true rfl⟩ (Nat.le_of_ble_eq_true rfl) ⟨Nat.zero_le _, Nat.zero_le _⟩ dL_hooks_2 (fun x2 w1 hF => ?_)
  refine x_istore (pc := 5) C [(8, .int (x2)), (0, .ref (b)), (1, .int (a2)), (2, .int (a3)), (3, .ref (ra b 10 0)), (4, .ref (ra b 10 1)), (5, .ref (ra b 10 2)), (6, .ref (ra b 10 4)), (7, .ref (ra b 10 5))] dL_hooks_5 (by decide) rfl ?_
  refine x_iload_n (pc := 7) C 3 dL_hooks_7 rfl rfl ?_
  refine x_iconst (pc := 8) C 4 dL_hooks_8 ki_4 ?_
  refine x_ishr (pc := 9) C dL_hooks_9 ?_
  refine x_iconst (pc := 10) C 4 dL_hooks_10 ki_4 ?_
  refine cS1_2 (pc := 11) (val := Value.int) C hF (fun _ _ h => c_L_low l _ b _ _ h) sm_L_low wq485 rfl rfl ⟨Nat.le_of_ble_eq_true rfl, Nat.le_of_ble_eq_true rfl⟩ (Nat.le_of_ble_eq_true rfl) ⟨Nat.zero_le _, Nat.zero_le _⟩ dL_hooks_11 (fun x4 w3 hF => ?_)
  refine x_istore (pc := 14) C [(9, .int (x4)), (8, .int (x2)), (0, .ref (b)), (1, .int (a2)), (2, .int (a3)), (3, .ref (ra b 10 0)), (4, .ref (ra b 10 1)), (5, .ref (ra b 10 2)), (6, .ref (ra b 10 4)), (7, .ref (ra b 10 5))] dL_hooks_14 (by decide) rfl ?_
  refine x_iload_n (pc := 16) C 4 dL_hooks_16 rfl rfl ?_
  refine x_bipush (pc := 17) C 7 dL_hooks_17 kb_7 ?_
  refine x_ishr (pc := 19) C dL_hooks_19 ?_
  refine x_iload_n (pc := 20) C 4 dL_hooks_20 rfl rfl ?_
  refine x_bipush (pc := 21) C 6 dL_hooks_21 kb_6 ?_
  refine x_ishr (pc := 23) C dL_hooks_23 ?_
  refine x_iconst (pc := 24) C 1 dL_hooks_24 ki_1 ?_
  refine x_iand (pc := 25) C dL_hooks_25 ?_
  obtain ⟨o6, w5, hL, hF⟩ := bd_some hF
  refine x_join (P1 := CW G b w5) (pcJ := 35) (lvJ := [(0, .ref (b)), (1, .int (a2)), (2, .int (a3)), (3, .ref (ra b 10 0)), (4, .ref (ra b 10 1)), (5, .ref (ra b 10 2)), (6, .ref (ra b 10 4)), (7, .ref (ra b 10 5)), (8, .int (x2)), (9, .int (x4))]) (stJ := [.int (o6), .int ((a3 >>> (7 &&& 31)))]) 0 0 ?_ (fun kJ35 => ?_)
  · refine cS1_2 (pc := 35) (val := Value.int) C hF (fun _ _ h => c_L_low l _ b _ _ h) sm_L_low wq485 rfl rfl ⟨Nat.le_of_ble_eq_true rfl, Nat.le_of_ble_eq_true rfl⟩ (Nat.le_of_ble_eq_true rfl) ⟨Nat.zero_le _, Nat.zero_le _⟩ dL_hooks_35 (fun x9 w8 hF => ?_)
    refine x_istore (pc := 38) C [(10, .int (x9)), (0, .ref (b)), (1, .int (a2)), (2, .int (a3)), (3, .ref (ra b 10 0)), (4, .ref (ra b 10 1)), (5, .ref (ra b 10 2)), (6, .ref (ra b 10 4)), (7, .ref (ra b 10 5)), (8, .int (x2)), (9, .int (x4))] dL_hooks_38 (by decide) rfl ?_
    refine x_iload_n (pc := 40) C 2 dL_hooks_40 rfl rfl ?_
    refine x_bipush (pc := 41) C 6 dL_hooks_41 kb_6 ?_
    refine cS1_2 (pc := 43) (val := Value.int) C hF (fun _ _ h => c_L_low l _ b _ _ h) sm_L_low wq485 rfl rfl ⟨Nat.le_of_ble_eq_true rfl, Nat.le_of_ble_eq_true rfl⟩ (Nat.le_of_ble_eq_true rfl) ⟨Nat.zero_le _, Nat.zero_le _⟩ dL_hooks_43 (fun x11 w10 hF => ?_)
    refine x_istore (pc := 46) C [(11, .int (x11)), (10, .int (x9)), (0, .ref (b)), (1, .int (a2)), (2, .int (a3)), (3, .ref (ra b 10 0)), (4, .ref (ra b 10 1)), (5, .ref (ra b 10 2)), (6, .ref (ra b 10 4)), (7, .ref (ra b 10 5)), (8, .int (x2)), (9, .int (x4))] dL_hooks_46 (by decide) rfl ?_
    refine x_iload (pc := 48) C 11 dL_hooks_48 rfl ?_
    refine x_iconst (pc := 50) C 3 dL_hooks_50 ki_3 ?_
    obtain ⟨o13, w12, hL, hF⟩ := bd_some hF
    refine x_join (P1 := CW G b w12) (pcJ := 71) (lvJ := [(0, .ref (b)), (1, .int (a2)), (2, .int (a3)), (3, .ref (ra b 10 0)), (4, .ref (ra b 10 1)), (5, .ref (ra b 10 2)), (6, .ref (ra b 10 4)), (7, .ref (ra b 10 5)), (8, .int (x2)), (9, .int (x4)), (10, .int (x9)), (11, .int (x11))]) (stJ := [.int (o13)]) 0 0 ?_ (fun kJ71 => ?_)
    · refine x_istore (pc := 71) C [(12, .int (o13)), (0, .ref (b)), (1, .int (a2)), (2, .int (a3)), (3, .ref (ra b 10 0)), (4, .ref (ra b 10 1)), (5, .ref (ra b 10 2)), (6, .ref (ra b 10 4)), (7, .ref (ra b 10 5)), (8, .int (x2)), (9, .int (x4)), (10, .int (x9)), (11, .int (x11))] dL_hooks_71 (by decide) rfl ?_
      refine x_bipush (pc := 73) C 6 dL_hooks_73 kb_6 ?_
      refine x_iload (pc := 75) C 9 dL_hooks_75 rfl ?_
      refine x_imul (pc := 77) C dL_hooks_77 ?_
      refine x_iconst (pc := 78) C 2 dL_hooks_78 ki_2 ?_
      refine x_iload (pc := 79) C 10 dL_hooks_79 rfl ?_
      refine x_imul (pc := 81) C dL_hooks_81 ?_
      refine x_iadd (pc := 82) C dL_hooks_82 ?_
      refine x_istore (pc := 83) C [(13, .int (((6 * x2) + (2 * x4)))), (12, .int (o13)), (0, .ref (b)), (1, .int (a2)), (2, .int (a3)), (3, .ref (ra b 10 0)), (4, .ref (ra b 10 1)), (5, .ref (ra b 10 2)), (6, .ref (ra b 10 4)), (7, .ref (ra b 10 5)), (8, .int (x2)), (9, .int (x4)), (10, .int (x9)), (11, .int (x11))] dL_hooks_83 (by decide) rfl ?_
      refine x_iload (pc := 85) C 1 dL_hooks_85 rfl ?_
      obtain ⟨o18, w17, hL, hF⟩ := bd_some hF
      refine x_join (P1 := CW G b w17) (pcJ := 99) (lvJ := [(0, .ref (b)), (1, .int (a2)), (2, .int (a3)), (3, .ref (ra b 10 0)), (4, .ref (ra b 10 1)), (5, .ref (ra b 10 2)), (6, .ref (ra b 10 4)), (7, .ref (ra b 10 5)), (8, .int (x2)), (9, .int (x4)), (10, .int (x9)), (11, .int (x11)), (12, .int (o13)), (13, .int (((6 * x2) + (2 * x4))))]) (stJ := [.int (o18)]) 0 0 ?_ (fun kJ99 => ?_)
      · refine x_istore (pc := 99) C [(14, .int (o18)), (0, .ref (b)), (1, .int (a2)), (2, .int (a3)), (3, .ref (ra b 10 0)), (4, .ref (ra b 10 1)), (5, .ref (ra b 10 2)), (6, .ref (ra b 10 4)), (7, .ref (ra b 10 5)), (8, .int (x2)), (9, .int (x4)), (10, .int (x9)), (11, .int (x11)), (12, .int (o13)), (13, .int (((6 * x2) + (2 * x4))))] dL_hooks_99 (by decide) rfl ?_
        refine x_iload (pc := 101) C 13 dL_hooks_101 rfl ?_
        obtain ⟨o22, w21, hL, hF⟩ := bd_some hF
        refine x_join (P1 := CW G b w21) (pcJ := 117) (lvJ := [(0, .ref (b)), (1, .int (a2)), (2, .int (a3)), (3, .ref (ra b 10 0)), (4, .ref (ra b 10 1)), (5, .ref (ra b 10 2)), (6, .ref (ra b 10 4)), (7, .ref (ra b 10 5)), (8, .int (x2)), (9, .int (x4)), (10, .int (x9)), (11, .int (x11)), (12, .int (o13)), (13, .int (((6 * x2) + (2 * x4)))), (14, .int (o18))]) (stJ := [.int (o22)]) 0 0 ?_ (fun kJ117 => ?_)
        · refine x_istore (pc := 117) C [(15, .int (o22)), (0, .ref (b)), (1, .int (a2)), (2, .int (a3)), (3, .ref (ra b 10 0)), (4, .ref (ra b 10 1)), (5, .ref (ra b 10 2)), (6, .ref (ra b 10 4)), (7, .ref (ra b 10 5)), (8, .int (x2)), (9, .int (x4)), (10, .int (x9)), (11, .int (x11)), (12, .int (o13)), (13, .int (((6 * x2) + (2 * x4)))), (14, .int (o18))] dL_hooks_117 (by decide) rfl ?_
          refine x_iload (pc := 119) C 12 dL_hooks_119 rfl ?_
          refine x_iconst (pc := 121) C 3 dL_hooks_121 ki_3 ?_
          refine x_icmp_ge (pc := 122) C 245 dL_hooks_122 rfl hF (fun c139 hF => ?_) (fun c139 hF => ?_)
          · refine x_iload (pc := 245) C 12 dL_hooks_245 rfl ?_
            refine x_iconst (pc := 247) C 3 dL_hooks_247 ki_3 ?_
            refine x_icmp_ne (pc := 248) C 385 dL_hooks_248 rfl hF (fun c114 hF => ?_) (fun c114 hF => ?_)
            · refine x_iload (pc := 385) C 13 dL_hooks_385 rfl ?_
              refine x_if_eq (pc := 387) C 395 dL_hooks_387 rfl hF (fun c75 hF => ?_) (fun c75 hF => ?_)
              · refine x_aload_n (pc := 395) C 1 dL_hooks_395 rfl rfl ?_
                refine x_iload (pc := 396) C 9 dL_hooks_396 rfl ?_
                refine x_iload (pc := 398) C 10 dL_hooks_398 rfl ?_
                refine cL1_3 (pc := 400) C hX hF (fun _ _ h => c_L_loosen l _ b hl _ _ h) wq667 wq104 wq666 hd_L_loosen wq665 rfl rfl ⟨Nat.le_of_ble_eq_true rfl, Nat.le_of_ble_eq_true rfl⟩ (Nat.le_of_ble_eq_true rfl) ⟨Nat.le_of_ble_eq_true rfl, Nat.le_of_ble_eq_true rfl⟩ dL_hooks_400 (fun x25 w26 hF => ?_)
                refine x_iload (pc := 403) C 13 dL_hooks_403 rfl ?_
                obtain ⟨o28, w27, hL, hF⟩ := bd_some hF
                refine x_join (P1 := CW G b w27) (pcJ := 415) (lvJ := [(0, .ref (b)), (1, .int (a2)), (2, .int (a3)), (3, .ref (ra b 10 0)), (4, .ref (ra b 10 1)), (5, .ref (ra b 10 2)), (6, .ref (ra b 10 4)), (7, .ref (ra b 10 5)), (8, .int (x2)), (9, .int (x4)), (10, .int (x9)), (11, .int (x11)), (12, .int (o13)), (13, .int (((6 * x2) + (2 * x4)))), (14, .int (o18)), (15, .int (o22))]) (stJ := [.int (o28), .int (x25)]) 1 6 ?_ (fun kJ415 => ?_)
                · refine x_icmp_ne (pc := 415) C 445 dL_hooks_415 rfl hF (fun c36 hF => ?_) (fun c36 hF => ?_)
                  · exact none_ne hF
                  · refine x_aload_n (pc := 418) C 0 dL_hooks_418 rfl rfl ?_
                    refine x_iload (pc := 419) C 8 dL_hooks_419 rfl ?_
                    refine x_iload (pc := 421) C 9 dL_hooks_421 rfl ?_
                    refine cL1_3 (pc := 423) C hX hF (fun _ _ h => c_L_look l _ b hl _ _ h) wq682 wq104 wq681 hd_L_look wq680 rfl rfl ⟨Nat.le_of_ble_eq_true rfl, Nat.le_of_ble_eq_true rfl⟩ (Nat.le_of_ble_eq_true rfl) ⟨Nat.le_of_ble_eq_true rfl, Nat.le_of_ble_eq_true rfl⟩ dL_hooks_423 (fun x30 w31 hF => ?_)
                    refine x_iload (pc := 426) C 12 dL_hooks_426 rfl ?_
                    obtain ⟨o33, w32, hL, hF⟩ := bd_some hF
                    refine x_join (P1 := CW G b w32) (pcJ := 438) (lvJ := [(0, .ref (b)), (1, .int (a2)), (2, .int (a3)), (3, .ref (ra b 10 0)), (4, .ref (ra b 10 1)), (5, .ref (ra b 10 2)), (6, .ref (ra b 10 4)), (7, .ref (ra b 10 5)), (8, .int (x2)), (9, .int (x4)), (10, .int (x9)), (11, .int (x11)), (12, .int (o13)), (13, .int (((6 * x2) + (2 * x4)))), (14, .int (o18)), (15, .int (o22))]) (stJ := [.int (o33), .int (x30)]) 2 12 ?_ (fun kJ438 => ?_)
                    · refine x_icmp_ne (pc := 438) C 445 dL_hooks_438 rfl hF (fun c35 hF => ?_) (fun c35 hF => ?_)
                      · exact none_ne hF
                      · refine x_iconst (pc := 441) C 1 dL_hooks_441 ki_1 ?_
                        refine x_goto (pc := 442) C 446 dL_hooks_442 rfl ?_
                        obtain ⟨rfl, rfl⟩ := ret_eq hF
                        refine xv_ret rfl (Nat.le_of_ble_eq_true rfl) (Nat.le_of_ble_eq_true rfl) ?_
                        exact x_zret (pc := 446) C rfl hr rfl (fun _ h => h) dL_hooks_446
                    · replace hF := hL
                      refine x_if_eq (pc := 428) C 436 dL_hooks_428 rfl hF (fun c34 hF => ?_) (fun c34 hF => ?_)
                      · refine x_bipush (pc := 436) C (-31) dL_hooks_436 kb_m31 ?_
                        obtain ⟨rfl, rfl⟩ := ret_eq hF
                        exact x_sub [0, 1, 2, 3, 4, 5, 6, 7, 8, 9, 10, 11, 12, 13, 14, 15] rfl kJ438
                      · refine x_bipush (pc := 431) C (-33) dL_hooks_431 kb_m33 ?_
                        refine x_goto (pc := 433) C 438 dL_hooks_433 rfl ?_
                        obtain ⟨rfl, rfl⟩ := ret_eq hF
                        exact x_sub [0, 1, 2, 3, 4, 5, 6, 7, 8, 9, 10, 11, 12, 13, 14, 15] rfl kJ438
                · replace hF := hL
                  refine x_if_eq (pc := 405) C 413 dL_hooks_405 rfl hF (fun c29 hF => ?_) (fun c29 hF => ?_)
                  · refine x_bipush (pc := 413) C (-31) dL_hooks_413 kb_m31 ?_
                    obtain ⟨rfl, rfl⟩ := ret_eq hF
                    exact x_sub [1, 2, 3, 4, 5, 6, 7, 8, 9, 10, 11, 12, 13, 14, 15, 0] rfl kJ415
                  · refine x_bipush (pc := 408) C (-33) dL_hooks_408 kb_m33 ?_
                    refine x_goto (pc := 410) C 415 dL_hooks_410 rfl ?_
                    obtain ⟨rfl, rfl⟩ := ret_eq hF
                    exact x_sub [1, 2, 3, 4, 5, 6, 7, 8, 9, 10, 11, 12, 13, 14, 15, 0] rfl kJ415
              · refine x_iload (pc := 390) C 15 dL_hooks_390 rfl ?_
                refine x_if_ne (pc := 392) C 447 dL_hooks_392 rfl hF (fun c74 hF => ?_) (fun c74 hF => ?_)
                · refine x_iload (pc := 447) C 12 dL_hooks_447 rfl ?_
                  refine x_iconst (pc := 449) C 4 dL_hooks_449 ki_4 ?_
                  refine x_icmp_ne (pc := 450) C 486 dL_hooks_450 rfl hF (fun c61 hF => ?_) (fun c61 hF => ?_)
                  · refine x_iload (pc := 486) C 15 dL_hooks_486 rfl ?_
                    refine x_iconst (pc := 488) C 1 dL_hooks_488 ki_1 ?_
                    obtain ⟨o38, w37, hL, hF⟩ := bd_some hF
                    refine x_join (P1 := CW G b w37) (pcJ := 509) (lvJ := [(0, .ref (b)), (1, .int (a2)), (2, .int (a3)), (3, .ref (ra b 10 0)), (4, .ref (ra b 10 1)), (5, .ref (ra b 10 2)), (6, .ref (ra b 10 4)), (7, .ref (ra b 10 5)), (8, .int (x2)), (9, .int (x4)), (10, .int (x9)), (11, .int (x11)), (12, .int (o13)), (13, .int (((6 * x2) + (2 * x4)))), (14, .int (o18)), (15, .int (o22))]) (stJ := [.int (o38)]) 0 0 ?_ (fun kJ509 => ?_)
                    · refine x_istore (pc := 509) C [(16, .int (o38)), (0, .ref (b)), (1, .int (a2)), (2, .int (a3)), (3, .ref (ra b 10 0)), (4, .ref (ra b 10 1)), (5, .ref (ra b 10 2)), (6, .ref (ra b 10 4)), (7, .ref (ra b 10 5)), (8, .int (x2)), (9, .int (x4)), (10, .int (x9)), (11, .int (x11)), (12, .int (o13)), (13, .int (((6 * x2) + (2 * x4)))), (14, .int (o18)), (15, .int (o22))] dL_hooks_509 (by decide) rfl ?_
                      refine x_aload_n (pc := 511) C 4 dL_hooks_511 rfl rfl ?_
                      refine x_iconst (pc := 512) C 5 dL_hooks_512 ki_5 ?_
                      refine x_dup2 (pc := 513) C dL_hooks_513 rfl rfl ?_
                      refine w_ald (pc := 514) C (vA_m 0 (by decide)) hF dL_hooks_514 (fun x43 hF => ?_)
                      refine x_iload (pc := 515) C 0 dL_hooks_515 rfl ?_
                      obtain ⟨o45, w44, hL, hF⟩ := bd_some hF
                      refine x_join (P1 := CW G b w44) (pcJ := 525) (lvJ := [(0, .ref (b)), (1, .int (a2)), (2, .int (a3)), (3, .ref (ra b 10 0)), (4, .ref (ra b 10 1)), (5, .ref (ra b 10 2)), (6, .ref (ra b 10 4)), (7, .ref (ra b 10 5)), (8, .int (x2)), (9, .int (x4)), (10, .int (x9)), (11, .int (x11)), (12, .int (o13)), (13, .int (((6 * x2) + (2 * x4)))), (14, .int (o18)), (15, .int (o22)), (16, .int (o38))]) (stJ := [.int (o45), .int (x43), .int (5), .ref (ra b 10 0)]) 0 0 ?_ (fun kJ525 => ?_)
                      · refine x_iadd (pc := 525) C dL_hooks_525 ?_
                        refine w_ast (pc := 526) C (vA_m 0 (by decide)) hF dL_hooks_526 (fun w47 hF => ?_)
                        refine x_aload_n (pc := 527) C 0 dL_hooks_527 rfl rfl ?_
                        refine x_iload (pc := 528) C 8 dL_hooks_528 rfl ?_
                        refine x_iload (pc := 530) C 9 dL_hooks_530 rfl ?_
                        refine cL1_3 (pc := 532) C hX hF (fun _ _ h => c_L_look l _ b hl _ _ h) wq682 wq104 wq681 hd_L_look wq680 rfl rfl ⟨Nat.le_of_ble_eq_true rfl, Nat.le_of_ble_eq_true rfl⟩ (Nat.le_of_ble_eq_true rfl) ⟨Nat.le_of_ble_eq_true rfl, Nat.le_of_ble_eq_true rfl⟩ dL_hooks_532 (fun x48 w49 hF => ?_)
                        refine x_iload (pc := 535) C 16 dL_hooks_535 rfl ?_
                        obtain ⟨o51, w50, hL, hF⟩ := bd_some hF
                        refine x_join (P1 := CW G b w50) (pcJ := 552) (lvJ := [(0, .ref (b)), (1, .int (a2)), (2, .int (a3)), (3, .ref (ra b 10 0)), (4, .ref (ra b 10 1)), (5, .ref (ra b 10 2)), (6, .ref (ra b 10 4)), (7, .ref (ra b 10 5)), (8, .int (x2)), (9, .int (x4)), (10, .int (x9)), (11, .int (x11)), (12, .int (o13)), (13, .int (((6 * x2) + (2 * x4)))), (14, .int (o18)), (15, .int (o22)), (16, .int (o38))]) (stJ := [.int (o51), .int (x48)]) 1 6 ?_ (fun kJ552 => ?_)
                        · refine x_icmp_ne (pc := 552) C 559 dL_hooks_552 rfl hF (fun c55 hF => ?_) (fun c55 hF => ?_)
                          · exact none_ne hF
                          · refine x_iconst (pc := 555) C 1 dL_hooks_555 ki_1 ?_
                            refine x_goto (pc := 556) C 560 dL_hooks_556 rfl ?_
                            obtain ⟨rfl, rfl⟩ := ret_eq hF
                            refine xv_ret rfl (Nat.le_of_ble_eq_true rfl) (Nat.le_of_ble_eq_true rfl) ?_
                            exact x_zret (pc := 560) C rfl hr rfl (fun _ h => h) dL_hooks_560
                        · replace hF := hL
                          refine x_if_eq (pc := 537) C 544 dL_hooks_537 rfl hF (fun c54 hF => ?_) (fun c54 hF => ?_)
                          · refine x_aload (pc := 544) C 5 dL_hooks_544 rfl ?_
                            refine x_iload (pc := 546) C 15 dL_hooks_546 rfl ?_
                            refine w_ald (pc := 548) C (vA_m 2 (by decide)) hF dL_hooks_548 (fun x52 hF => ?_)
                            refine x_bipush (pc := 549) C 10 dL_hooks_549 kb_10 ?_
                            refine y_irem (pc := 551) C dL_hooks_551 hF (fun x53 hF => ?_)
                            obtain ⟨rfl, rfl⟩ := ret_eq hF
                            exact x_sub [0, 1, 2, 3, 4, 5, 6, 7, 8, 9, 10, 11, 12, 13, 14, 15, 16] rfl kJ552
                          · refine x_iconst (pc := 540) C (-1) dL_hooks_540 ki_m1 ?_
                            refine x_goto (pc := 541) C 552 dL_hooks_541 rfl ?_
                            obtain ⟨rfl, rfl⟩ := ret_eq hF
                            exact x_sub [0, 1, 2, 3, 4, 5, 6, 7, 8, 9, 10, 11, 12, 13, 14, 15, 16] rfl kJ552
                      · replace hF := hL
                        refine x_if_eq (pc := 517) C 524 dL_hooks_517 rfl hF (fun c46 hF => ?_) (fun c46 hF => ?_)
                        · refine x_iconst (pc := 524) C 0 dL_hooks_524 ki_0 ?_
                          obtain ⟨rfl, rfl⟩ := ret_eq hF
                          exact x_sub [1, 2, 3, 4, 5, 6, 7, 8, 9, 10, 11, 12, 13, 14, 15, 16, 0] rfl kJ525
                        · refine x_iconst (pc := 520) C 1 dL_hooks_520 ki_1 ?_
                          refine x_goto (pc := 521) C 525 dL_hooks_521 rfl ?_
                          obtain ⟨rfl, rfl⟩ := ret_eq hF
                          exact x_sub [1, 2, 3, 4, 5, 6, 7, 8, 9, 10, 11, 12, 13, 14, 15, 16, 0] rfl kJ525
                    · replace hF := hL
                      refine x_icmp_ne (pc := 489) C 508 dL_hooks_489 rfl hF (fun c42 hF => ?_) (fun c42 hF => ?_)
                      · refine x_iconst (pc := 508) C 0 dL_hooks_508 ki_0 ?_
                        obtain ⟨rfl, rfl⟩ := ret_eq hF
                        exact x_sub [1, 2, 3, 4, 5, 6, 7, 8, 9, 10, 11, 12, 13, 14, 15, 0] rfl kJ509
                      · refine x_iload (pc := 492) C 0 dL_hooks_492 rfl ?_
                        refine x_aload (pc := 494) C 6 dL_hooks_494 rfl ?_
                        refine cS1_2 (pc := 496) (val := Value.int) C hF (fun _ _ h => c_L_where l _ b _ h) sm_L_where wq112 rfl rfl ⟨Nat.le_of_ble_eq_true rfl, Nat.le_of_ble_eq_true rfl⟩ (Nat.le_of_ble_eq_true rfl) ⟨Nat.zero_le _, Nat.zero_le _⟩ dL_hooks_496 (fun x40 w39 hF => ?_)
                        refine x_bipush (pc := 499) C (-2) dL_hooks_499 kb_m2 ?_
                        refine x_icmp_ne (pc := 501) C 508 dL_hooks_501 rfl hF (fun c41 hF => ?_) (fun c41 hF => ?_)
                        · refine x_iconst (pc := 508) C 0 dL_hooks_508 ki_0 ?_
                          obtain ⟨rfl, rfl⟩ := ret_eq hF
                          exact x_sub [1, 2, 3, 4, 5, 6, 7, 8, 9, 10, 11, 12, 13, 14, 15, 0] rfl kJ509
                        · refine x_iconst (pc := 504) C 1 dL_hooks_504 ki_1 ?_
                          refine x_goto (pc := 505) C 509 dL_hooks_505 rfl ?_
                          obtain ⟨rfl, rfl⟩ := ret_eq hF
                          exact x_sub [1, 2, 3, 4, 5, 6, 7, 8, 9, 10, 11, 12, 13, 14, 15, 0] rfl kJ509
                  · refine x_aload (pc := 453) C 8 dL_hooks_453 rfl ?_
                    refine x_iload (pc := 455) C 14 dL_hooks_455 rfl ?_
                    refine x_iconst (pc := 457) C 0 dL_hooks_457 ki_0 ?_
                    refine w_ast (pc := 458) C (vA_m 5 (by decide)) hF dL_hooks_458 (fun w56 hF => ?_)
                    refine x_aload (pc := 459) C 8 dL_hooks_459 rfl ?_
                    refine x_iload (pc := 461) C 14 dL_hooks_461 rfl ?_
                    refine x_iconst (pc := 463) C 1 dL_hooks_463 ki_1 ?_
                    refine x_iadd (pc := 464) C dL_hooks_464 ?_
                    refine x_iconst (pc := 465) C (-1) dL_hooks_465 ki_m1 ?_
                    refine w_ast (pc := 466) C (vA_m 5 (by decide)) hF dL_hooks_466 (fun w57 hF => ?_)
                    refine x_aload_n (pc := 467) C 1 dL_hooks_467 rfl rfl ?_
                    refine x_iload (pc := 468) C 9 dL_hooks_468 rfl ?_
                    refine x_iload (pc := 470) C 10 dL_hooks_470 rfl ?_
                    refine cL1_3 (pc := 472) C hX hF (fun _ _ h => c_L_loosen l _ b hl _ _ h) wq667 wq104 wq666 hd_L_loosen wq665 rfl rfl ⟨Nat.le_of_ble_eq_true rfl, Nat.le_of_ble_eq_true rfl⟩ (Nat.le_of_ble_eq_true rfl) ⟨Nat.le_of_ble_eq_true rfl, Nat.le_of_ble_eq_true rfl⟩ dL_hooks_472 (fun x58 w59 hF => ?_)
                    refine x_iload (pc := 475) C 0 dL_hooks_475 rfl ?_
                    refine x_icmp_ne (pc := 477) C 484 dL_hooks_477 rfl hF (fun c60 hF => ?_) (fun c60 hF => ?_)
                    · exact none_ne hF
                    · refine x_iconst (pc := 480) C 1 dL_hooks_480 ki_1 ?_
                      refine x_goto (pc := 481) C 485 dL_hooks_481 rfl ?_
                      obtain ⟨rfl, rfl⟩ := ret_eq hF
                      refine xv_ret rfl (Nat.le_of_ble_eq_true rfl) (Nat.le_of_ble_eq_true rfl) ?_
                      exact x_zret (pc := 485) C rfl hr rfl (fun _ h => h) dL_hooks_485
                · refine x_aload_n (pc := 395) C 1 dL_hooks_395 rfl rfl ?_
                  refine x_iload (pc := 396) C 9 dL_hooks_396 rfl ?_
                  refine x_iload (pc := 398) C 10 dL_hooks_398 rfl ?_
                  refine cL1_3 (pc := 400) C hX hF (fun _ _ h => c_L_loosen l _ b hl _ _ h) wq667 wq104 wq666 hd_L_loosen wq665 rfl rfl ⟨Nat.le_of_ble_eq_true rfl, Nat.le_of_ble_eq_true rfl⟩ (Nat.le_of_ble_eq_true rfl) ⟨Nat.le_of_ble_eq_true rfl, Nat.le_of_ble_eq_true rfl⟩ dL_hooks_400 (fun x62 w63 hF => ?_)
                  refine x_iload (pc := 403) C 13 dL_hooks_403 rfl ?_
                  obtain ⟨o65, w64, hL, hF⟩ := bd_some hF
                  refine x_join (P1 := CW G b w64) (pcJ := 415) (lvJ := [(0, .ref (b)), (1, .int (a2)), (2, .int (a3)), (3, .ref (ra b 10 0)), (4, .ref (ra b 10 1)), (5, .ref (ra b 10 2)), (6, .ref (ra b 10 4)), (7, .ref (ra b 10 5)), (8, .int (x2)), (9, .int (x4)), (10, .int (x9)), (11, .int (x11)), (12, .int (o13)), (13, .int (((6 * x2) + (2 * x4)))), (14, .int (o18)), (15, .int (o22))]) (stJ := [.int (o65), .int (x62)]) 1 6 ?_ (fun kJ415 => ?_)
                  · refine x_icmp_ne (pc := 415) C 445 dL_hooks_415 rfl hF (fun c73 hF => ?_) (fun c73 hF => ?_)
                    · exact none_ne hF
                    · refine x_aload_n (pc := 418) C 0 dL_hooks_418 rfl rfl ?_
                      refine x_iload (pc := 419) C 8 dL_hooks_419 rfl ?_
                      refine x_iload (pc := 421) C 9 dL_hooks_421 rfl ?_
                      refine cL1_3 (pc := 423) C hX hF (fun _ _ h => c_L_look l _ b hl _ _ h) wq682 wq104 wq681 hd_L_look wq680 rfl rfl ⟨Nat.le_of_ble_eq_true rfl, Nat.le_of_ble_eq_true rfl⟩ (Nat.le_of_ble_eq_true rfl) ⟨Nat.le_of_ble_eq_true rfl, Nat.le_of_ble_eq_true rfl⟩ dL_hooks_423 (fun x67 w68 hF => ?_)
                      refine x_iload (pc := 426) C 12 dL_hooks_426 rfl ?_
                      obtain ⟨o70, w69, hL, hF⟩ := bd_some hF
                      refine x_join (P1 := CW G b w69) (pcJ := 438) (lvJ := [(0, .ref (b)), (1, .int (a2)), (2, .int (a3)), (3, .ref (ra b 10 0)), (4, .ref (ra b 10 1)), (5, .ref (ra b 10 2)), (6, .ref (ra b 10 4)), (7, .ref (ra b 10 5)), (8, .int (x2)), (9, .int (x4)), (10, .int (x9)), (11, .int (x11)), (12, .int (o13)), (13, .int (((6 * x2) + (2 * x4)))), (14, .int (o18)), (15, .int (o22))]) (stJ := [.int (o70), .int (x67)]) 2 12 ?_ (fun kJ438 => ?_)
                      · refine x_icmp_ne (pc := 438) C 445 dL_hooks_438 rfl hF (fun c72 hF => ?_) (fun c72 hF => ?_)
                        · exact none_ne hF
                        · refine x_iconst (pc := 441) C 1 dL_hooks_441 ki_1 ?_
                          refine x_goto (pc := 442) C 446 dL_hooks_442 rfl ?_
                          obtain ⟨rfl, rfl⟩ := ret_eq hF
                          refine xv_ret rfl (Nat.le_of_ble_eq_true rfl) (Nat.le_of_ble_eq_true rfl) ?_
                          exact x_zret (pc := 446) C rfl hr rfl (fun _ h => h) dL_hooks_446
                      · replace hF := hL
                        refine x_if_eq (pc := 428) C 436 dL_hooks_428 rfl hF (fun c71 hF => ?_) (fun c71 hF => ?_)
                        · refine x_bipush (pc := 436) C (-31) dL_hooks_436 kb_m31 ?_
                          obtain ⟨rfl, rfl⟩ := ret_eq hF
                          exact x_sub [0, 1, 2, 3, 4, 5, 6, 7, 8, 9, 10, 11, 12, 13, 14, 15] rfl kJ438
                        · refine x_bipush (pc := 431) C (-33) dL_hooks_431 kb_m33 ?_
                          refine x_goto (pc := 433) C 438 dL_hooks_433 rfl ?_
                          obtain ⟨rfl, rfl⟩ := ret_eq hF
                          exact x_sub [0, 1, 2, 3, 4, 5, 6, 7, 8, 9, 10, 11, 12, 13, 14, 15] rfl kJ438
                  · replace hF := hL
                    refine x_if_eq (pc := 405) C 413 dL_hooks_405 rfl hF (fun c66 hF => ?_) (fun c66 hF => ?_)
                    · refine x_bipush (pc := 413) C (-31) dL_hooks_413 kb_m31 ?_
                      obtain ⟨rfl, rfl⟩ := ret_eq hF
                      exact x_sub [1, 2, 3, 4, 5, 6, 7, 8, 9, 10, 11, 12, 13, 14, 15, 0] rfl kJ415
                    · refine x_bipush (pc := 408) C (-33) dL_hooks_408 kb_m33 ?_
                      refine x_goto (pc := 410) C 415 dL_hooks_410 rfl ?_
                      obtain ⟨rfl, rfl⟩ := ret_eq hF
                      exact x_sub [1, 2, 3, 4, 5, 6, 7, 8, 9, 10, 11, 12, 13, 14, 15, 0] rfl kJ415
            · refine x_iload (pc := 251) C 13 dL_hooks_251 rfl ?_
              refine x_if_eq (pc := 253) C 262 dL_hooks_253 rfl hF (fun c113 hF => ?_) (fun c113 hF => ?_)
              · refine x_aload_n (pc := 262) C 1 dL_hooks_262 rfl rfl ?_
                refine x_iload (pc := 263) C 9 dL_hooks_263 rfl ?_
                refine x_iload (pc := 265) C 10 dL_hooks_265 rfl ?_
                refine cL1_3 (pc := 267) C hX hF (fun _ _ h => c_L_pin l _ b hl _ _ h) wq646 wq104 wq645 hd_L_pin wq644 rfl rfl ⟨Nat.le_of_ble_eq_true rfl, Nat.le_of_ble_eq_true rfl⟩ (Nat.le_of_ble_eq_true rfl) ⟨Nat.le_of_ble_eq_true rfl, Nat.le_of_ble_eq_true rfl⟩ dL_hooks_267 (fun x76 w77 hF => ?_)
                refine x_iload (pc := 270) C 13 dL_hooks_270 rfl ?_
                obtain ⟨o79, w78, hL, hF⟩ := bd_some hF
                refine x_join (P1 := CW G b w78) (pcJ := 282) (lvJ := [(0, .ref (b)), (1, .int (a2)), (2, .int (a3)), (3, .ref (ra b 10 0)), (4, .ref (ra b 10 1)), (5, .ref (ra b 10 2)), (6, .ref (ra b 10 4)), (7, .ref (ra b 10 5)), (8, .int (x2)), (9, .int (x4)), (10, .int (x9)), (11, .int (x11)), (12, .int (o13)), (13, .int (((6 * x2) + (2 * x4)))), (14, .int (o18)), (15, .int (o22))]) (stJ := [.int (o79), .int (x76)]) 1 6 ?_ (fun kJ282 => ?_)
                · refine x_icmp_ne (pc := 282) C 289 dL_hooks_282 rfl hF (fun c81 hF => ?_) (fun c81 hF => ?_)
                  · exact none_ne hF
                  · refine x_iconst (pc := 285) C 1 dL_hooks_285 ki_1 ?_
                    refine x_goto (pc := 286) C 290 dL_hooks_286 rfl ?_
                    obtain ⟨rfl, rfl⟩ := ret_eq hF
                    refine xv_ret rfl (Nat.le_of_ble_eq_true rfl) (Nat.le_of_ble_eq_true rfl) ?_
                    exact x_zret (pc := 290) C rfl hr rfl (fun _ h => h) dL_hooks_290
                · replace hF := hL
                  refine x_if_eq (pc := 272) C 280 dL_hooks_272 rfl hF (fun c80 hF => ?_) (fun c80 hF => ?_)
                  · refine x_bipush (pc := 280) C (-31) dL_hooks_280 kb_m31 ?_
                    obtain ⟨rfl, rfl⟩ := ret_eq hF
                    exact x_sub [1, 2, 3, 4, 5, 6, 7, 8, 9, 10, 11, 12, 13, 14, 15, 0] rfl kJ282
                  · refine x_bipush (pc := 275) C (-33) dL_hooks_275 kb_m33 ?_
                    refine x_goto (pc := 277) C 282 dL_hooks_277 rfl ?_
                    obtain ⟨rfl, rfl⟩ := ret_eq hF
                    exact x_sub [1, 2, 3, 4, 5, 6, 7, 8, 9, 10, 11, 12, 13, 14, 15, 0] rfl kJ282
              · refine x_iload (pc := 256) C 15 dL_hooks_256 rfl ?_
                refine x_iconst (pc := 258) C 1 dL_hooks_258 ki_1 ?_
                refine x_icmp_eq (pc := 259) C 291 dL_hooks_259 rfl hF (fun c112 hF => ?_) (fun c112 hF => ?_)
                · refine x_iload (pc := 291) C 0 dL_hooks_291 rfl ?_
                  refine x_aload (pc := 293) C 6 dL_hooks_293 rfl ?_
                  refine cS1_2 (pc := 295) (val := Value.int) C hF (fun _ _ h => c_L_where l _ b _ h) sm_L_where wq112 rfl rfl ⟨Nat.le_of_ble_eq_true rfl, Nat.le_of_ble_eq_true rfl⟩ (Nat.le_of_ble_eq_true rfl) ⟨Nat.zero_le _, Nat.zero_le _⟩ dL_hooks_295 (fun x83 w82 hF => ?_)
                  refine x_iconst (pc := 298) C (-1) dL_hooks_298 ki_m1 ?_
                  obtain ⟨o85, w84, hL, hF⟩ := bd_some hF
                  refine x_join (P1 := CW G b w84) (pcJ := 307) (lvJ := [(0, .ref (b)), (1, .int (a2)), (2, .int (a3)), (3, .ref (ra b 10 0)), (4, .ref (ra b 10 1)), (5, .ref (ra b 10 2)), (6, .ref (ra b 10 4)), (7, .ref (ra b 10 5)), (8, .int (x2)), (9, .int (x4)), (10, .int (x9)), (11, .int (x11)), (12, .int (o13)), (13, .int (((6 * x2) + (2 * x4)))), (14, .int (o18)), (15, .int (o22))]) (stJ := [.int (o85)]) 0 0 ?_ (fun kJ307 => ?_)
                  · refine x_istore (pc := 307) C [(16, .int (o85)), (0, .ref (b)), (1, .int (a2)), (2, .int (a3)), (3, .ref (ra b 10 0)), (4, .ref (ra b 10 1)), (5, .ref (ra b 10 2)), (6, .ref (ra b 10 4)), (7, .ref (ra b 10 5)), (8, .int (x2)), (9, .int (x4)), (10, .int (x9)), (11, .int (x11)), (12, .int (o13)), (13, .int (((6 * x2) + (2 * x4)))), (14, .int (o18)), (15, .int (o22))] dL_hooks_307 (by decide) rfl ?_
                    refine x_aload (pc := 309) C 8 dL_hooks_309 rfl ?_
                    refine x_iload (pc := 311) C 14 dL_hooks_311 rfl ?_
                    refine x_iload (pc := 313) C 0 dL_hooks_313 rfl ?_
                    obtain ⟨o88, w87, hL, hF⟩ := bd_some hF
                    refine x_join (P1 := CW G b w87) (pcJ := 323) (lvJ := [(0, .ref (b)), (1, .int (a2)), (2, .int (a3)), (3, .ref (ra b 10 0)), (4, .ref (ra b 10 1)), (5, .ref (ra b 10 2)), (6, .ref (ra b 10 4)), (7, .ref (ra b 10 5)), (8, .int (x2)), (9, .int (x4)), (10, .int (x9)), (11, .int (x11)), (12, .int (o13)), (13, .int (((6 * x2) + (2 * x4)))), (14, .int (o18)), (15, .int (o22)), (16, .int (o85))]) (stJ := [.int (o88), .int (((6 * x2) + (2 * x4))), .ref (ra b 10 5)]) 0 0 ?_ (fun kJ323 => ?_)
                    · refine w_ast (pc := 323) C (vA_m 5 (by decide)) hF dL_hooks_323 (fun w90 hF => ?_)
                      refine x_aload (pc := 324) C 7 dL_hooks_324 rfl ?_
                      refine x_iload (pc := 326) C 13 dL_hooks_326 rfl ?_
                      refine x_iconst (pc := 328) C 1 dL_hooks_328 ki_1 ?_
                      refine x_iadd (pc := 329) C dL_hooks_329 ?_
                      refine x_iload (pc := 330) C 16 dL_hooks_330 rfl ?_
                      obtain ⟨o92, w91, hL, hF⟩ := bd_some hF
                      refine x_join (P1 := CW G b w91) (pcJ := 341) (lvJ := [(0, .ref (b)), (1, .int (a2)), (2, .int (a3)), (3, .ref (ra b 10 0)), (4, .ref (ra b 10 1)), (5, .ref (ra b 10 2)), (6, .ref (ra b 10 4)), (7, .ref (ra b 10 5)), (8, .int (x2)), (9, .int (x4)), (10, .int (x9)), (11, .int (x11)), (12, .int (o13)), (13, .int (((6 * x2) + (2 * x4)))), (14, .int (o18)), (15, .int (o22)), (16, .int (o85))]) (stJ := [.int (o92), .int ((((6 * x2) + (2 * x4)) + 1)), .ref (ra b 10 5)]) 0 0 ?_ (fun kJ341 => ?_)
                      · refine w_ast (pc := 341) C (vA_m 5 (by decide)) hF dL_hooks_341 (fun w94 hF => ?_)
                        refine x_aload_n (pc := 342) C 3 dL_hooks_342 rfl rfl ?_
                        refine x_iconst (pc := 343) C 4 dL_hooks_343 ki_4 ?_
                        refine x_dup2 (pc := 344) C dL_hooks_344 rfl rfl ?_
                        refine w_ald (pc := 345) C (vA_m 0 (by decide)) hF dL_hooks_345 (fun x95 hF => ?_)
                        refine x_iload (pc := 346) C 16 dL_hooks_346 rfl ?_
                        obtain ⟨o97, w96, hL, hF⟩ := bd_some hF
                        refine x_join (P1 := CW G b w96) (pcJ := 356) (lvJ := [(0, .ref (b)), (1, .int (a2)), (2, .int (a3)), (3, .ref (ra b 10 0)), (4, .ref (ra b 10 1)), (5, .ref (ra b 10 2)), (6, .ref (ra b 10 4)), (7, .ref (ra b 10 5)), (8, .int (x2)), (9, .int (x4)), (10, .int (x9)), (11, .int (x11)), (12, .int (o13)), (13, .int (((6 * x2) + (2 * x4)))), (14, .int (o18)), (15, .int (o22)), (16, .int (o85))]) (stJ := [.int (o97), .int (x95), .int (4), .ref (ra b 10 0)]) 0 0 ?_ (fun kJ356 => ?_)
                        · refine x_iadd (pc := 356) C dL_hooks_356 ?_
                          refine w_ast (pc := 357) C (vA_m 0 (by decide)) hF dL_hooks_357 (fun w99 hF => ?_)
                          refine x_aload_n (pc := 358) C 0 dL_hooks_358 rfl rfl ?_
                          refine x_iload (pc := 359) C 8 dL_hooks_359 rfl ?_
                          refine x_iload (pc := 361) C 9 dL_hooks_361 rfl ?_
                          refine cL1_3 (pc := 363) C hX hF (fun _ _ h => c_L_pin l _ b hl _ _ h) wq646 wq104 wq645 hd_L_pin wq644 rfl rfl ⟨Nat.le_of_ble_eq_true rfl, Nat.le_of_ble_eq_true rfl⟩ (Nat.le_of_ble_eq_true rfl) ⟨Nat.le_of_ble_eq_true rfl, Nat.le_of_ble_eq_true rfl⟩ dL_hooks_363 (fun x100 w101 hF => ?_)
                          refine x_iload (pc := 366) C 16 dL_hooks_366 rfl ?_
                          obtain ⟨o103, w102, hL, hF⟩ := bd_some hF
                          refine x_join (P1 := CW G b w102) (pcJ := 376) (lvJ := [(0, .ref (b)), (1, .int (a2)), (2, .int (a3)), (3, .ref (ra b 10 0)), (4, .ref (ra b 10 1)), (5, .ref (ra b 10 2)), (6, .ref (ra b 10 4)), (7, .ref (ra b 10 5)), (8, .int (x2)), (9, .int (x4)), (10, .int (x9)), (11, .int (x11)), (12, .int (o13)), (13, .int (((6 * x2) + (2 * x4)))), (14, .int (o18)), (15, .int (o22)), (16, .int (o85))]) (stJ := [.int (o103), .int (x100)]) 1 6 ?_ (fun kJ376 => ?_)
                          · refine x_icmp_ne (pc := 376) C 383 dL_hooks_376 rfl hF (fun c105 hF => ?_) (fun c105 hF => ?_)
                            · exact none_ne hF
                            · refine x_iconst (pc := 379) C 1 dL_hooks_379 ki_1 ?_
                              refine x_goto (pc := 380) C 384 dL_hooks_380 rfl ?_
                              obtain ⟨rfl, rfl⟩ := ret_eq hF
                              refine xv_ret rfl (Nat.le_of_ble_eq_true rfl) (Nat.le_of_ble_eq_true rfl) ?_
                              exact x_zret (pc := 384) C rfl hr rfl (fun _ h => h) dL_hooks_384
                          · replace hF := hL
                            refine x_if_eq (pc := 368) C 375 dL_hooks_368 rfl hF (fun c104 hF => ?_) (fun c104 hF => ?_)
                            · refine x_iconst (pc := 375) C 0 dL_hooks_375 ki_0 ?_
                              obtain ⟨rfl, rfl⟩ := ret_eq hF
                              exact x_sub [0, 1, 2, 3, 4, 5, 6, 7, 8, 9, 10, 11, 12, 13, 14, 15, 16] rfl kJ376
                            · refine x_iconst (pc := 371) C 1 dL_hooks_371 ki_1 ?_
                              refine x_goto (pc := 372) C 376 dL_hooks_372 rfl ?_
                              obtain ⟨rfl, rfl⟩ := ret_eq hF
                              exact x_sub [0, 1, 2, 3, 4, 5, 6, 7, 8, 9, 10, 11, 12, 13, 14, 15, 16] rfl kJ376
                        · replace hF := hL
                          refine x_if_eq (pc := 348) C 355 dL_hooks_348 rfl hF (fun c98 hF => ?_) (fun c98 hF => ?_)
                          · refine x_iconst (pc := 355) C 1 dL_hooks_355 ki_1 ?_
                            obtain ⟨rfl, rfl⟩ := ret_eq hF
                            exact x_sub [0, 1, 2, 3, 4, 5, 6, 7, 8, 9, 10, 11, 12, 13, 14, 15, 16] rfl kJ356
                          · refine x_iconst (pc := 351) C 0 dL_hooks_351 ki_0 ?_
                            refine x_goto (pc := 352) C 356 dL_hooks_352 rfl ?_
                            obtain ⟨rfl, rfl⟩ := ret_eq hF
                            exact x_sub [0, 1, 2, 3, 4, 5, 6, 7, 8, 9, 10, 11, 12, 13, 14, 15, 16] rfl kJ356
                      · replace hF := hL
                        refine x_if_eq (pc := 332) C 340 dL_hooks_332 rfl hF (fun c93 hF => ?_) (fun c93 hF => ?_)
                        · refine x_iconst (pc := 340) C (-1) dL_hooks_340 ki_m1 ?_
                          obtain ⟨rfl, rfl⟩ := ret_eq hF
                          exact x_sub [0, 1, 2, 3, 4, 5, 6, 7, 8, 9, 10, 11, 12, 13, 14, 15, 16] rfl kJ341
                        · refine x_iload (pc := 335) C 15 dL_hooks_335 rfl ?_
                          refine x_goto (pc := 337) C 341 dL_hooks_337 rfl ?_
                          obtain ⟨rfl, rfl⟩ := ret_eq hF
                          exact x_sub [0, 1, 2, 3, 4, 5, 6, 7, 8, 9, 10, 11, 12, 13, 14, 15, 16] rfl kJ341
                    · replace hF := hL
                      refine x_if_eq (pc := 315) C 322 dL_hooks_315 rfl hF (fun c89 hF => ?_) (fun c89 hF => ?_)
                      · refine x_iconst (pc := 322) C 0 dL_hooks_322 ki_0 ?_
                        obtain ⟨rfl, rfl⟩ := ret_eq hF
                        exact x_sub [1, 2, 3, 4, 5, 6, 7, 8, 9, 10, 11, 12, 13, 14, 15, 16, 0] rfl kJ323
                      · refine x_iconst (pc := 318) C 2 dL_hooks_318 ki_2 ?_
                        refine x_goto (pc := 319) C 323 dL_hooks_319 rfl ?_
                        obtain ⟨rfl, rfl⟩ := ret_eq hF
                        exact x_sub [1, 2, 3, 4, 5, 6, 7, 8, 9, 10, 11, 12, 13, 14, 15, 16, 0] rfl kJ323
                  · replace hF := hL
                    refine x_icmp_ne (pc := 299) C 306 dL_hooks_299 rfl hF (fun c86 hF => ?_) (fun c86 hF => ?_)
                    · refine x_iconst (pc := 306) C 0 dL_hooks_306 ki_0 ?_
                      obtain ⟨rfl, rfl⟩ := ret_eq hF
                      exact x_sub [1, 2, 3, 4, 5, 6, 7, 8, 9, 10, 11, 12, 13, 14, 15, 0] rfl kJ307
                    · refine x_iconst (pc := 302) C 1 dL_hooks_302 ki_1 ?_
                      refine x_goto (pc := 303) C 307 dL_hooks_303 rfl ?_
                      obtain ⟨rfl, rfl⟩ := ret_eq hF
                      exact x_sub [1, 2, 3, 4, 5, 6, 7, 8, 9, 10, 11, 12, 13, 14, 15, 0] rfl kJ307
                · refine x_aload_n (pc := 262) C 1 dL_hooks_262 rfl rfl ?_
                  refine x_iload (pc := 263) C 9 dL_hooks_263 rfl ?_
                  refine x_iload (pc := 265) C 10 dL_hooks_265 rfl ?_
                  refine cL1_3 (pc := 267) C hX hF (fun _ _ h => c_L_pin l _ b hl _ _ h) wq646 wq104 wq645 hd_L_pin wq644 rfl rfl ⟨Nat.le_of_ble_eq_true rfl, Nat.le_of_ble_eq_true rfl⟩ (Nat.le_of_ble_eq_true rfl) ⟨Nat.le_of_ble_eq_true rfl, Nat.le_of_ble_eq_true rfl⟩ dL_hooks_267 (fun x106 w107 hF => ?_)
                  refine x_iload (pc := 270) C 13 dL_hooks_270 rfl ?_
                  obtain ⟨o109, w108, hL, hF⟩ := bd_some hF
                  refine x_join (P1 := CW G b w108) (pcJ := 282) (lvJ := [(0, .ref (b)), (1, .int (a2)), (2, .int (a3)), (3, .ref (ra b 10 0)), (4, .ref (ra b 10 1)), (5, .ref (ra b 10 2)), (6, .ref (ra b 10 4)), (7, .ref (ra b 10 5)), (8, .int (x2)), (9, .int (x4)), (10, .int (x9)), (11, .int (x11)), (12, .int (o13)), (13, .int (((6 * x2) + (2 * x4)))), (14, .int (o18)), (15, .int (o22))]) (stJ := [.int (o109), .int (x106)]) 1 6 ?_ (fun kJ282 => ?_)
                  · refine x_icmp_ne (pc := 282) C 289 dL_hooks_282 rfl hF (fun c111 hF => ?_) (fun c111 hF => ?_)
                    · exact none_ne hF
                    · refine x_iconst (pc := 285) C 1 dL_hooks_285 ki_1 ?_
                      refine x_goto (pc := 286) C 290 dL_hooks_286 rfl ?_
                      obtain ⟨rfl, rfl⟩ := ret_eq hF
                      refine xv_ret rfl (Nat.le_of_ble_eq_true rfl) (Nat.le_of_ble_eq_true rfl) ?_
                      exact x_zret (pc := 290) C rfl hr rfl (fun _ h => h) dL_hooks_290
                  · replace hF := hL
                    refine x_if_eq (pc := 272) C 280 dL_hooks_272 rfl hF (fun c110 hF => ?_) (fun c110 hF => ?_)
                    · refine x_bipush (pc := 280) C (-31) dL_hooks_280 kb_m31 ?_
                      obtain ⟨rfl, rfl⟩ := ret_eq hF
                      exact x_sub [1, 2, 3, 4, 5, 6, 7, 8, 9, 10, 11, 12, 13, 14, 15, 0] rfl kJ282
                    · refine x_bipush (pc := 275) C (-33) dL_hooks_275 kb_m33 ?_
                      refine x_goto (pc := 277) C 282 dL_hooks_277 rfl ?_
                      obtain ⟨rfl, rfl⟩ := ret_eq hF
                      exact x_sub [1, 2, 3, 4, 5, 6, 7, 8, 9, 10, 11, 12, 13, 14, 15, 0] rfl kJ282
          · refine x_iload (pc := 125) C 13 dL_hooks_125 rfl ?_
            obtain ⟨o116, w115, hL, hF⟩ := bd_some hF
            refine x_join (P1 := CW G b w115) (pcJ := 169) (lvJ := [(0, .ref (b)), (1, .int (a2)), (2, .int (a3)), (3, .ref (ra b 10 0)), (4, .ref (ra b 10 1)), (5, .ref (ra b 10 2)), (6, .ref (ra b 10 4)), (7, .ref (ra b 10 5)), (8, .int (x2)), (9, .int (x4)), (10, .int (x9)), (11, .int (x11)), (12, .int (o13)), (13, .int (((6 * x2) + (2 * x4)))), (14, .int (o18)), (15, .int (o22))]) (stJ := [.int (o116)]) 0 0 ?_ (fun kJ169 => ?_)
            · refine x_istore (pc := 169) C [(16, .int (o116)), (0, .ref (b)), (1, .int (a2)), (2, .int (a3)), (3, .ref (ra b 10 0)), (4, .ref (ra b 10 1)), (5, .ref (ra b 10 2)), (6, .ref (ra b 10 4)), (7, .ref (ra b 10 5)), (8, .int (x2)), (9, .int (x4)), (10, .int (x9)), (11, .int (x11)), (12, .int (o13)), (13, .int (((6 * x2) + (2 * x4)))), (14, .int (o18)), (15, .int (o22))] dL_hooks_169 (by decide) rfl ?_
              refine x_iload (pc := 171) C 0 dL_hooks_171 rfl ?_
              obtain ⟨o125, w124, hL, hF⟩ := bd_some hF
              refine x_join (P1 := CW G b w124) (pcJ := 194) (lvJ := [(0, .ref (b)), (1, .int (a2)), (2, .int (a3)), (3, .ref (ra b 10 0)), (4, .ref (ra b 10 1)), (5, .ref (ra b 10 2)), (6, .ref (ra b 10 4)), (7, .ref (ra b 10 5)), (8, .int (x2)), (9, .int (x4)), (10, .int (x9)), (11, .int (x11)), (12, .int (o13)), (13, .int (((6 * x2) + (2 * x4)))), (14, .int (o18)), (15, .int (o22)), (16, .int (o116))]) (stJ := []) 0 0 ?_ (fun kJ194 => ?_)
              · refine x_aload_n (pc := 194) C 0 dL_hooks_194 rfl rfl ?_
                refine x_iload (pc := 195) C 8 dL_hooks_195 rfl ?_
                refine x_iload (pc := 197) C 9 dL_hooks_197 rfl ?_
                refine x_iload (pc := 199) C 10 dL_hooks_199 rfl ?_
                refine cL1_4 (pc := 201) C hX hF (fun _ _ h => c_L_note l _ b hl _ _ _ h) wq626 wq104 wq625 hd_L_note wq624 rfl rfl ⟨Nat.le_of_ble_eq_true rfl, Nat.le_of_ble_eq_true rfl⟩ (Nat.le_of_ble_eq_true rfl) ⟨Nat.le_of_ble_eq_true rfl, Nat.le_of_ble_eq_true rfl⟩ dL_hooks_201 (fun x130 w131 hF => ?_)
                refine x_iload (pc := 204) C 12 dL_hooks_204 rfl ?_
                obtain ⟨o133, w132, hL, hF⟩ := bd_some hF
                refine x_join (P1 := CW G b w132) (pcJ := 236) (lvJ := [(0, .ref (b)), (1, .int (a2)), (2, .int (a3)), (3, .ref (ra b 10 0)), (4, .ref (ra b 10 1)), (5, .ref (ra b 10 2)), (6, .ref (ra b 10 4)), (7, .ref (ra b 10 5)), (8, .int (x2)), (9, .int (x4)), (10, .int (x9)), (11, .int (x11)), (12, .int (o13)), (13, .int (((6 * x2) + (2 * x4)))), (14, .int (o18)), (15, .int (o22)), (16, .int (o116))]) (stJ := [.int (o133), .int (x130)]) 1 6 ?_ (fun kJ236 => ?_)
                · refine x_icmp_ne (pc := 236) C 243 dL_hooks_236 rfl hF (fun c138 hF => ?_) (fun c138 hF => ?_)
                  · exact none_ne hF
                  · refine x_iconst (pc := 239) C 1 dL_hooks_239 ki_1 ?_
                    refine x_goto (pc := 240) C 244 dL_hooks_240 rfl ?_
                    obtain ⟨rfl, rfl⟩ := ret_eq hF
                    refine xv_ret rfl (Nat.le_of_ble_eq_true rfl) (Nat.le_of_ble_eq_true rfl) ?_
                    exact x_zret (pc := 244) C rfl hr rfl (fun _ h => h) dL_hooks_244
                · replace hF := hL
                  refine x_if_eq (pc := 206) C 216 dL_hooks_206 rfl hF (fun c137 hF => ?_) (fun c137 hF => ?_)
                  · refine x_bipush (pc := 216) C (-31) dL_hooks_216 kb_m31 ?_
                    refine x_goto (pc := 218) C 236 dL_hooks_218 rfl ?_
                    obtain ⟨rfl, rfl⟩ := ret_eq hF
                    exact x_sub [0, 1, 2, 3, 4, 5, 6, 7, 8, 9, 10, 11, 12, 13, 14, 15, 16] rfl kJ236
                  · refine x_iload (pc := 209) C 10 dL_hooks_209 rfl ?_
                    refine x_bipush (pc := 211) C 12 dL_hooks_211 kb_12 ?_
                    refine x_icmp_ne (pc := 213) C 221 dL_hooks_213 rfl hF (fun c136 hF => ?_) (fun c136 hF => ?_)
                    · refine x_iload (pc := 221) C 16 dL_hooks_221 rfl ?_
                      refine x_if_eq (pc := 223) C 234 dL_hooks_223 rfl hF (fun c135 hF => ?_) (fun c135 hF => ?_)
                      · refine x_bipush (pc := 234) C (-33) dL_hooks_234 kb_m33 ?_
                        obtain ⟨rfl, rfl⟩ := ret_eq hF
                        exact x_sub [0, 1, 2, 3, 4, 5, 6, 7, 8, 9, 10, 11, 12, 13, 14, 15, 16] rfl kJ236
                      · refine x_aload (pc := 226) C 4 dL_hooks_226 rfl ?_
                        refine x_iload (pc := 228) C 10 dL_hooks_228 rfl ?_
                        refine w_ald (pc := 230) C (vA_m 1 (by decide)) hF dL_hooks_230 (fun x134 hF => ?_)
                        refine x_goto (pc := 231) C 236 dL_hooks_231 rfl ?_
                        obtain ⟨rfl, rfl⟩ := ret_eq hF
                        exact x_sub [0, 1, 2, 3, 4, 5, 6, 7, 8, 9, 10, 11, 12, 13, 14, 15, 16] rfl kJ236
                    · refine x_bipush (pc := 216) C (-31) dL_hooks_216 kb_m31 ?_
                      refine x_goto (pc := 218) C 236 dL_hooks_218 rfl ?_
                      obtain ⟨rfl, rfl⟩ := ret_eq hF
                      exact x_sub [0, 1, 2, 3, 4, 5, 6, 7, 8, 9, 10, 11, 12, 13, 14, 15, 16] rfl kJ236
              · replace hF := hL
                refine x_if_eq (pc := 173) C 194 dL_hooks_173 rfl hF (fun c129 hF => ?_) (fun c129 hF => ?_)
                · obtain ⟨rfl, rfl⟩ := ret_eq hF
                  exact x_sub [1, 2, 3, 4, 5, 6, 7, 8, 9, 10, 11, 12, 13, 14, 15, 16, 0] rfl kJ194
                · refine x_aload (pc := 176) C 8 dL_hooks_176 rfl ?_
                  refine x_iload (pc := 178) C 14 dL_hooks_178 rfl ?_
                  refine x_iconst (pc := 180) C 1 dL_hooks_180 ki_1 ?_
                  refine w_ast (pc := 181) C (vA_m 5 (by decide)) hF dL_hooks_181 (fun w126 hF => ?_)
                  refine x_aload (pc := 182) C 8 dL_hooks_182 rfl ?_
                  refine x_iload (pc := 184) C 14 dL_hooks_184 rfl ?_
                  refine x_iconst (pc := 186) C 1 dL_hooks_186 ki_1 ?_
                  refine x_iadd (pc := 187) C dL_hooks_187 ?_
                  refine x_aload (pc := 188) C 5 dL_hooks_188 rfl ?_
                  refine x_iload (pc := 190) C 11 dL_hooks_190 rfl ?_
                  refine w_ald (pc := 192) C (vA_m 1 (by decide)) hF dL_hooks_192 (fun x127 hF => ?_)
                  refine w_ast (pc := 193) C (vA_m 5 (by decide)) hF dL_hooks_193 (fun w128 hF => ?_)
                  obtain ⟨rfl, rfl⟩ := ret_eq hF
                  exact x_sub [1, 2, 3, 4, 5, 6, 7, 8, 9, 10, 11, 12, 13, 14, 15, 16, 0] rfl kJ194
            · replace hF := hL
              refine x_if_eq (pc := 127) C 168 dL_hooks_127 rfl hF (fun c123 hF => ?_) (fun c123 hF => ?_)
              · refine x_iconst (pc := 168) C 0 dL_hooks_168 ki_0 ?_
                obtain ⟨rfl, rfl⟩ := ret_eq hF
                exact x_sub [1, 2, 3, 4, 5, 6, 7, 8, 9, 10, 11, 12, 13, 14, 15, 0] rfl kJ169
              · refine x_iload (pc := 130) C 11 dL_hooks_130 rfl ?_
                refine x_bipush (pc := 132) C 12 dL_hooks_132 kb_12 ?_
                refine x_icmp_ge (pc := 134) C 168 dL_hooks_134 rfl hF (fun c122 hF => ?_) (fun c122 hF => ?_)
                · refine x_iconst (pc := 168) C 0 dL_hooks_168 ki_0 ?_
                  obtain ⟨rfl, rfl⟩ := ret_eq hF
                  exact x_sub [1, 2, 3, 4, 5, 6, 7, 8, 9, 10, 11, 12, 13, 14, 15, 0] rfl kJ169
                · refine x_aload (pc := 137) C 7 dL_hooks_137 rfl ?_
                  refine x_bipush (pc := 139) C 6 dL_hooks_139 kb_6 ?_
                  refine x_iload (pc := 141) C 9 dL_hooks_141 rfl ?_
                  refine x_imul (pc := 143) C dL_hooks_143 ?_
                  refine x_iconst (pc := 144) C 1 dL_hooks_144 ki_1 ?_
                  refine x_iadd (pc := 145) C dL_hooks_145 ?_
                  refine w_ald (pc := 146) C (vA_m 4 (by decide)) hF dL_hooks_146 (fun x117 hF => ?_)
                  refine x_iconst (pc := 147) C 1 dL_hooks_147 ki_1 ?_
                  refine x_icmp_ne (pc := 148) C 168 dL_hooks_148 rfl hF (fun c121 hF => ?_) (fun c121 hF => ?_)
                  · refine x_iconst (pc := 168) C 0 dL_hooks_168 ki_0 ?_
                    obtain ⟨rfl, rfl⟩ := ret_eq hF
                    exact x_sub [1, 2, 3, 4, 5, 6, 7, 8, 9, 10, 11, 12, 13, 14, 15, 0] rfl kJ169
                  · refine x_iload (pc := 151) C 15 dL_hooks_151 rfl ?_
                    refine x_if_ne (pc := 153) C 168 dL_hooks_153 rfl hF (fun c120 hF => ?_) (fun c120 hF => ?_)
                    · refine x_iconst (pc := 168) C 0 dL_hooks_168 ki_0 ?_
                      obtain ⟨rfl, rfl⟩ := ret_eq hF
                      exact x_sub [1, 2, 3, 4, 5, 6, 7, 8, 9, 10, 11, 12, 13, 14, 15, 0] rfl kJ169
                    · refine x_aload (pc := 156) C 5 dL_hooks_156 rfl ?_
                      refine x_iload (pc := 158) C 11 dL_hooks_158 rfl ?_
                      refine w_ald (pc := 160) C (vA_m 1 (by decide)) hF dL_hooks_160 (fun x118 hF => ?_)
                      refine x_if_lt (pc := 161) C 168 dL_hooks_161 rfl hF (fun c119 hF => ?_) (fun c119 hF => ?_)
                      · refine x_iconst (pc := 168) C 0 dL_hooks_168 ki_0 ?_
                        obtain ⟨rfl, rfl⟩ := ret_eq hF
                        exact x_sub [1, 2, 3, 4, 5, 6, 7, 8, 9, 10, 11, 12, 13, 14, 15, 0] rfl kJ169
                      · refine x_iconst (pc := 164) C 1 dL_hooks_164 ki_1 ?_
                        refine x_goto (pc := 165) C 169 dL_hooks_165 rfl ?_
                        obtain ⟨rfl, rfl⟩ := ret_eq hF
                        exact x_sub [1, 2, 3, 4, 5, 6, 7, 8, 9, 10, 11, 12, 13, 14, 15, 0] rfl kJ169
        · replace hF := hL
          refine x_if_eq (pc := 103) C 116 dL_hooks_103 rfl hF (fun c24 hF => ?_) (fun c24 hF => ?_)
          · refine x_iconst (pc := 116) C (-1) dL_hooks_116 ki_m1 ?_
            obtain ⟨rfl, rfl⟩ := ret_eq hF
            exact x_sub [1, 2, 3, 4, 5, 6, 7, 8, 9, 10, 11, 12, 13, 14, 0] rfl kJ117
          · refine x_aload (pc := 106) C 8 dL_hooks_106 rfl ?_
            refine x_iload (pc := 108) C 14 dL_hooks_108 rfl ?_
            refine x_iconst (pc := 110) C 1 dL_hooks_110 ki_1 ?_
            refine x_iadd (pc := 111) C dL_hooks_111 ?_
            refine w_ald (pc := 112) C (vA_m 5 (by decide)) hF dL_hooks_112 (fun x23 hF => ?_)
            refine x_goto (pc := 113) C 117 dL_hooks_113 rfl ?_
            obtain ⟨rfl, rfl⟩ := ret_eq hF
            exact x_sub [1, 2, 3, 4, 5, 6, 7, 8, 9, 10, 11, 12, 13, 14, 0] rfl kJ117
      · replace hF := hL
        refine x_if_eq (pc := 87) C 98 dL_hooks_87 rfl hF (fun c20 hF => ?_) (fun c20 hF => ?_)
        · refine x_iconst (pc := 98) C 0 dL_hooks_98 ki_0 ?_
          obtain ⟨rfl, rfl⟩ := ret_eq hF
          exact x_sub [2, 3, 4, 5, 6, 7, 8, 9, 10, 11, 12, 13, 1, 0] rfl kJ99
        · refine x_aload (pc := 90) C 9 dL_hooks_90 rfl ?_
          refine x_iload (pc := 92) C 0 dL_hooks_92 rfl ?_
          refine w_ald (pc := 94) C (vA_m 5 (by decide)) hF dL_hooks_94 (fun x19 hF => ?_)
          refine x_goto (pc := 95) C 99 dL_hooks_95 rfl ?_
          obtain ⟨rfl, rfl⟩ := ret_eq hF
          exact x_sub [2, 3, 4, 5, 6, 7, 8, 9, 10, 11, 12, 13, 1, 0] rfl kJ99
    · replace hF := hL
      refine x_icmp_ge (pc := 51) C 70 dL_hooks_51 rfl hF (fun c16 hF => ?_) (fun c16 hF => ?_)
      · refine x_iconst (pc := 70) C 0 dL_hooks_70 ki_0 ?_
        obtain ⟨rfl, rfl⟩ := ret_eq hF
        exact x_sub [2, 3, 4, 5, 6, 7, 8, 9, 10, 11, 1, 0] rfl kJ71
      · refine x_aload (pc := 54) C 8 dL_hooks_54 rfl ?_
        refine x_bipush (pc := 56) C 6 dL_hooks_56 kb_6 ?_
        refine x_iload (pc := 58) C 10 dL_hooks_58 rfl ?_
        refine x_imul (pc := 60) C dL_hooks_60 ?_
        refine w_ald (pc := 61) C (vA_m 4 (by decide)) hF dL_hooks_61 (fun x14 hF => ?_)
        refine x_iconst (pc := 62) C 1 dL_hooks_62 ki_1 ?_
        refine x_icmp_ne (pc := 63) C 70 dL_hooks_63 rfl hF (fun c15 hF => ?_) (fun c15 hF => ?_)
        · refine x_iconst (pc := 70) C 0 dL_hooks_70 ki_0 ?_
          obtain ⟨rfl, rfl⟩ := ret_eq hF
          exact x_sub [2, 3, 4, 5, 6, 7, 8, 9, 10, 11, 1, 0] rfl kJ71
        · refine x_iconst (pc := 66) C 1 dL_hooks_66 ki_1 ?_
          refine x_goto (pc := 67) C 71 dL_hooks_67 rfl ?_
          obtain ⟨rfl, rfl⟩ := ret_eq hF
          exact x_sub [2, 3, 4, 5, 6, 7, 8, 9, 10, 11, 1, 0] rfl kJ71
  · replace hF := hL
    refine x_if_ne (pc := 26) C 33 dL_hooks_26 rfl hF (fun c7 hF => ?_) (fun c7 hF => ?_)
    · refine x_bipush (pc := 33) C 13 dL_hooks_33 kb_13 ?_
      obtain ⟨rfl, rfl⟩ := ret_eq hF
      exact x_sub [2, 3, 4, 5, 6, 7, 8, 9, 1, 0] rfl kJ35
    · refine x_iconst (pc := 29) C 4 dL_hooks_29 ki_4 ?_
      refine x_goto (pc := 30) C 35 dL_hooks_30 rfl ?_
      obtain ⟨rfl, rfl⟩ := ret_eq hF
      exact x_sub [2, 3, 4, 5, 6, 7, 8, 9, 1, 0] rfl kJ35
set_option maxRecDepth 4000 in
theorem s_L_isSo_27 (C : xC p m c s args meth G b cL_isSo 17 RL) (hl : l.stackTraces = false) (hX : xF b s) : ∀ (n9 : Nat) (l7 : Int32) (l8 : Int32) (l9 : Int32) (l10 : Int32) (l11 : Int32) (l12 : Int32) (l13 : Int32) (l14 : Int32) (l15 : Int32) (w : xWt) (o : (Int32 × Int32 × Int32 × Int32 × Int32 × Int32 × Int32)) (w' : xWt), L_L_isSo_27 n9 l7 l8 l9 l10 l11 l12 l13 l14 l15 w = some (o, w') → xW p l e (xRX 11 6 36) s m args below meth c Q b 17 (CW G b w') 0 0 146 [(0, .ref (b)), (1, .ref (ra b 10 0)), (2, .ref (ra b 10 1)), (3, .ref (ra b 10 2)), (4, .ref (ra b 10 3)), (5, .ref (ra b 10 4)), (6, .ref (ra b 10 5)), (7, .int (o.1)), (8, .int (o.2.1)), (9, .int (o.2.2.1)), (10, .int (o.2.2.2.1)), (11, .int (o.2.2.2.2.1)), (12, .int (o.2.2.2.2.2.1)), (13, .int (l13)), (14, .int (l14)), (15, .int (o.2.2.2.2.2.2))] [] → xW p l e (xRX 11 6 36) s m args below meth c Q b 17 (CW G b w) 0 0 27 [(0, .ref (b)), (1, .ref (ra b 10 0)), (2, .ref (ra b 10 1)), (3, .ref (ra b 10 2)), (4, .ref (ra b 10 3)), (5, .ref (ra b 10 4)), (6, .ref (ra b 10 5)), (7, .int (l7)), (8, .int (l8)), (9, .int (l9)), (10, .int (l10)), (11, .int (l11)), (12, .int (l12)), (13, .int (l13)), (14, .int (l14)), (15, .int (l15))] [] := by
  intro n9
  induction n9 with
  | zero => intro l7 l8 l9 l10 l11 l12 l13 l14 l15 w o w' hF; exact none_ne (show none = some _ from hF)
  | succ n9 ih =>
    intro l7 l8 l9 l10 l11 l12 l13 l14 l15 w o w' hF kx
    replace hF : B_L_isSo_27 (L_L_isSo_27 n9) l7 l8 l9 l10 l11 l12 l13 l14 l15 w = some (o, w') := hF
    unfold B_L_isSo_27 at hF
    refine x_iload (pc := 27) C 15 dL_isSo_27 rfl ?_
    refine x_aload_n (pc := 29) C 1 dL_isSo_29 rfl rfl ?_
    refine x_iconst (pc := 30) C 1 dL_isSo_30 ki_1 ?_
    refine w_ald (pc := 31) C (vA_m 0 (by decide)) hF dL_isSo_31 (fun x1 hF => ?_)
    refine x_icmp_ge (pc := 32) C 146 dL_isSo_32 rfl hF (fun c22 hF => ?_) (fun c22 hF => ?_)
    · obtain ⟨rfl, rfl⟩ := ret_eq hF
      exact x_sub [0, 1, 2, 3, 4, 5, 6, 7, 8, 9, 10, 11, 12, 13, 14, 15] rfl kx
    · refine x_iload (pc := 35) C 15 dL_isSo_35 rfl ?_
      refine x_iconst (pc := 37) C 2 dL_isSo_37 ki_2 ?_
      refine x_iconst (pc := 38) C (-1) dL_isSo_38 ki_m1 ?_
      refine x_aload (pc := 39) C 6 dL_isSo_39 rfl ?_
      refine cS1_4 (pc := 41) (val := Value.int) C hF (fun _ _ h => c_L_pins l _ b _ _ _ h) sm_L_pins wq109 rfl rfl ⟨Nat.le_of_ble_eq_true rfl, Nat.le_of_ble_eq_true rfl⟩ (Nat.le_of_ble_eq_true rfl) ⟨Nat.zero_le _, Nat.zero_le _⟩ dL_isSo_41 (fun x3 w2 hF => ?_)
      refine x_istore (pc := 44) C [(16, .int (x3)), (0, .ref (b)), (1, .ref (ra b 10 0)), (2, .ref (ra b 10 1)), (3, .ref (ra b 10 2)), (4, .ref (ra b 10 3)), (5, .ref (ra b 10 4)), (6, .ref (ra b 10 5)), (7, .int (l7)), (8, .int (l8)), (9, .int (l9)), (10, .int (l10)), (11, .int (l11)), (12, .int (l12)), (13, .int (l13)), (14, .int (l14)), (15, .int (l15))] dL_isSo_44 (by decide) rfl ?_
      refine x_iload (pc := 46) C 8 dL_isSo_46 rfl ?_
      refine x_iload (pc := 48) C 16 dL_isSo_48 rfl ?_
      refine x_aload_n (pc := 50) C 4 dL_isSo_50 rfl rfl ?_
      refine cS1_2 (pc := 51) (val := Value.int) C hF (fun _ _ h => c_L_where l _ b _ h) sm_L_where wq112 rfl rfl ⟨Nat.le_of_ble_eq_true rfl, Nat.le_of_ble_eq_true rfl⟩ (Nat.le_of_ble_eq_true rfl) ⟨Nat.zero_le _, Nat.zero_le _⟩ dL_isSo_51 (fun x5 w4 hF => ?_)
      refine x_bipush (pc := 54) C (-2) dL_isSo_54 kb_m2 ?_
      obtain ⟨o7, w6, hL, hF⟩ := bd_some hF
      refine x_join (P1 := CW G b w6) (pcJ := 64) (lvJ := [(0, .ref (b)), (1, .ref (ra b 10 0)), (2, .ref (ra b 10 1)), (3, .ref (ra b 10 2)), (4, .ref (ra b 10 3)), (5, .ref (ra b 10 4)), (6, .ref (ra b 10 5)), (7, .int (l7)), (8, .int (l8)), (9, .int (l9)), (10, .int (l10)), (11, .int (l11)), (12, .int (l12)), (13, .int (l13)), (14, .int (l14)), (15, .int (l15)), (16, .int (x3))]) (stJ := [.int (o7), .int (l7)]) 0 0 ?_ (fun kJ64 => ?_)
      · refine x_iadd (pc := 64) C dL_isSo_64 ?_
        refine x_istore (pc := 65) C [(7, .int ((l7 + o7))), (0, .ref (b)), (1, .ref (ra b 10 0)), (2, .ref (ra b 10 1)), (3, .ref (ra b 10 2)), (4, .ref (ra b 10 3)), (5, .ref (ra b 10 4)), (6, .ref (ra b 10 5)), (8, .int (l8)), (9, .int (l9)), (10, .int (l10)), (11, .int (l11)), (12, .int (l12)), (13, .int (l13)), (14, .int (l14)), (15, .int (l15)), (16, .int (x3))] dL_isSo_65 (by decide) rfl ?_
        refine x_iload (pc := 67) C 8 dL_isSo_67 rfl ?_
        refine x_iload (pc := 69) C 15 dL_isSo_69 rfl ?_
        refine x_aload_n (pc := 71) C 4 dL_isSo_71 rfl rfl ?_
        refine cS1_2 (pc := 72) (val := Value.int) C hF (fun _ _ h => c_L_where l _ b _ h) sm_L_where wq112 rfl rfl ⟨Nat.le_of_ble_eq_true rfl, Nat.le_of_ble_eq_true rfl⟩ (Nat.le_of_ble_eq_true rfl) ⟨Nat.zero_le _, Nat.zero_le _⟩ dL_isSo_72 (fun x10 w9 hF => ?_)
        refine x_iconst (pc := 75) C (-1) dL_isSo_75 ki_m1 ?_
        obtain ⟨o12, w11, hL, hF⟩ := bd_some hF
        refine x_join (P1 := CW G b w11) (pcJ := 84) (lvJ := [(0, .ref (b)), (1, .ref (ra b 10 0)), (2, .ref (ra b 10 1)), (3, .ref (ra b 10 2)), (4, .ref (ra b 10 3)), (5, .ref (ra b 10 4)), (6, .ref (ra b 10 5)), (7, .int ((l7 + o7))), (8, .int (l8)), (9, .int (l9)), (10, .int (l10)), (11, .int (l11)), (12, .int (l12)), (13, .int (l13)), (14, .int (l14)), (15, .int (l15)), (16, .int (x3))]) (stJ := [.int (o12), .int (l8)]) 0 0 ?_ (fun kJ84 => ?_)
        · refine x_iadd (pc := 84) C dL_isSo_84 ?_
          refine x_istore (pc := 85) C [(8, .int ((l8 + o12))), (0, .ref (b)), (1, .ref (ra b 10 0)), (2, .ref (ra b 10 1)), (3, .ref (ra b 10 2)), (4, .ref (ra b 10 3)), (5, .ref (ra b 10 4)), (6, .ref (ra b 10 5)), (7, .int ((l7 + o7))), (9, .int (l9)), (10, .int (l10)), (11, .int (l11)), (12, .int (l12)), (13, .int (l13)), (14, .int (l14)), (15, .int (l15)), (16, .int (x3))] dL_isSo_85 (by decide) rfl ?_
          refine x_iload (pc := 87) C 11 dL_isSo_87 rfl ?_
          refine x_iload (pc := 89) C 16 dL_isSo_89 rfl ?_
          refine x_iadd (pc := 91) C dL_isSo_91 ?_
          refine x_istore (pc := 92) C [(11, .int ((l11 + x3))), (8, .int ((l8 + o12))), (0, .ref (b)), (1, .ref (ra b 10 0)), (2, .ref (ra b 10 1)), (3, .ref (ra b 10 2)), (4, .ref (ra b 10 3)), (5, .ref (ra b 10 4)), (6, .ref (ra b 10 5)), (7, .int ((l7 + o7))), (9, .int (l9)), (10, .int (l10)), (12, .int (l12)), (13, .int (l13)), (14, .int (l14)), (15, .int (l15)), (16, .int (x3))] dL_isSo_92 (by decide) rfl ?_
          refine x_iload (pc := 94) C 12 dL_isSo_94 rfl ?_
          refine x_iload (pc := 96) C 15 dL_isSo_96 rfl ?_
          refine x_iconst (pc := 98) C 1 dL_isSo_98 ki_1 ?_
          refine x_iconst (pc := 99) C (-1) dL_isSo_99 ki_m1 ?_
          refine x_aload (pc := 100) C 8 dL_isSo_100 rfl ?_
          refine cS1_4 (pc := 102) (val := Value.int) C hF (fun _ _ h => c_L_pins l _ b _ _ _ h) sm_L_pins wq109 rfl rfl ⟨Nat.le_of_ble_eq_true rfl, Nat.le_of_ble_eq_true rfl⟩ (Nat.le_of_ble_eq_true rfl) ⟨Nat.zero_le _, Nat.zero_le _⟩ dL_isSo_102 (fun x15 w14 hF => ?_)
          refine x_iadd (pc := 105) C dL_isSo_105 ?_
          refine x_istore (pc := 106) C [(12, .int ((l12 + x15))), (11, .int ((l11 + x3))), (8, .int ((l8 + o12))), (0, .ref (b)), (1, .ref (ra b 10 0)), (2, .ref (ra b 10 1)), (3, .ref (ra b 10 2)), (4, .ref (ra b 10 3)), (5, .ref (ra b 10 4)), (6, .ref (ra b 10 5)), (7, .int ((l7 + o7))), (9, .int (l9)), (10, .int (l10)), (13, .int (l13)), (14, .int (l14)), (15, .int (l15)), (16, .int (x3))] dL_isSo_106 (by decide) rfl ?_
          refine x_iload (pc := 108) C 16 dL_isSo_108 rfl ?_
          refine x_iload (pc := 110) C 12 dL_isSo_110 rfl ?_
          obtain ⟨o17, w16, hL, hF⟩ := bd_some hF
          refine x_join (P1 := CW G b w16) (pcJ := 122) (lvJ := [(0, .ref (b)), (1, .ref (ra b 10 0)), (2, .ref (ra b 10 1)), (3, .ref (ra b 10 2)), (4, .ref (ra b 10 3)), (5, .ref (ra b 10 4)), (6, .ref (ra b 10 5)), (7, .int ((l7 + o7))), (8, .int ((l8 + o12))), (9, .int (l9)), (10, .int (l10)), (11, .int ((l11 + x3))), (12, .int ((l12 + x15))), (13, .int (l13)), (14, .int (l14)), (15, .int (l15)), (16, .int (x3))]) (stJ := [.int (o17)]) 0 0 ?_ (fun kJ122 => ?_)
          · refine x_istore (pc := 122) C [(9, .int (o17)), (0, .ref (b)), (1, .ref (ra b 10 0)), (2, .ref (ra b 10 1)), (3, .ref (ra b 10 2)), (4, .ref (ra b 10 3)), (5, .ref (ra b 10 4)), (6, .ref (ra b 10 5)), (7, .int ((l7 + o7))), (8, .int ((l8 + o12))), (10, .int (l10)), (11, .int ((l11 + x3))), (12, .int ((l12 + x15))), (13, .int (l13)), (14, .int (l14)), (15, .int (l15)), (16, .int (x3))] dL_isSo_122 (by decide) rfl ?_
            refine x_iload (pc := 124) C 16 dL_isSo_124 rfl ?_
            refine x_iload (pc := 126) C 10 dL_isSo_126 rfl ?_
            obtain ⟨o20, w19, hL, hF⟩ := bd_some hF
            refine x_join (P1 := CW G b w19) (pcJ := 138) (lvJ := [(0, .ref (b)), (1, .ref (ra b 10 0)), (2, .ref (ra b 10 1)), (3, .ref (ra b 10 2)), (4, .ref (ra b 10 3)), (5, .ref (ra b 10 4)), (6, .ref (ra b 10 5)), (7, .int ((l7 + o7))), (8, .int ((l8 + o12))), (9, .int (o17)), (10, .int (l10)), (11, .int ((l11 + x3))), (12, .int ((l12 + x15))), (13, .int (l13)), (14, .int (l14)), (15, .int (l15)), (16, .int (x3))]) (stJ := [.int (o20)]) 0 0 ?_ (fun kJ138 => ?_)
            · refine x_istore (pc := 138) C [(10, .int (o20)), (0, .ref (b)), (1, .ref (ra b 10 0)), (2, .ref (ra b 10 1)), (3, .ref (ra b 10 2)), (4, .ref (ra b 10 3)), (5, .ref (ra b 10 4)), (6, .ref (ra b 10 5)), (7, .int ((l7 + o7))), (8, .int ((l8 + o12))), (9, .int (o17)), (11, .int ((l11 + x3))), (12, .int ((l12 + x15))), (13, .int (l13)), (14, .int (l14)), (15, .int (l15)), (16, .int (x3))] dL_isSo_138 (by decide) rfl ?_
              refine x_iinc (pc := 140) C 15 [(15, .int ((l15 + 1))), (10, .int (o20)), (0, .ref (b)), (1, .ref (ra b 10 0)), (2, .ref (ra b 10 1)), (3, .ref (ra b 10 2)), (4, .ref (ra b 10 3)), (5, .ref (ra b 10 4)), (6, .ref (ra b 10 5)), (7, .int ((l7 + o7))), (8, .int ((l8 + o12))), (9, .int (o17)), (11, .int ((l11 + x3))), (12, .int ((l12 + x15))), (13, .int (l13)), (14, .int (l14)), (16, .int (x3))] dL_isSo_140 rfl rfl (by decide) rfl ?_
              refine x_goto (pc := 143) C 27 dL_isSo_143 rfl ?_
              exact x_sub [2, 3, 4, 5, 6, 7, 8, 9, 10, 11, 1, 12, 13, 14, 15, 0] rfl (ih _ _ _ _ _ _ _ _ _ _ _ _ hF kx)
            · replace hF := hL
              refine x_icmp_le (pc := 128) C 136 dL_isSo_128 rfl hF (fun c21 hF => ?_) (fun c21 hF => ?_)
              · refine x_iload (pc := 136) C 10 dL_isSo_136 rfl ?_
                obtain ⟨rfl, rfl⟩ := ret_eq hF
                exact x_sub [1, 2, 3, 4, 5, 6, 7, 8, 9, 0, 10, 11, 12, 13, 14, 15, 16] rfl kJ138
              · refine x_iload (pc := 131) C 16 dL_isSo_131 rfl ?_
                refine x_goto (pc := 133) C 138 dL_isSo_133 rfl ?_
                obtain ⟨rfl, rfl⟩ := ret_eq hF
                exact x_sub [1, 2, 3, 4, 5, 6, 7, 8, 9, 0, 10, 11, 12, 13, 14, 15, 16] rfl kJ138
          · replace hF := hL
            refine x_icmp_le (pc := 112) C 120 dL_isSo_112 rfl hF (fun c18 hF => ?_) (fun c18 hF => ?_)
            · refine x_iload (pc := 120) C 11 dL_isSo_120 rfl ?_
              obtain ⟨rfl, rfl⟩ := ret_eq hF
              exact x_sub [3, 4, 5, 6, 7, 8, 9, 10, 2, 11, 12, 1, 0, 13, 14, 15, 16] rfl kJ122
            · refine x_iload (pc := 115) C 15 dL_isSo_115 rfl ?_
              refine x_goto (pc := 117) C 122 dL_isSo_117 rfl ?_
              obtain ⟨rfl, rfl⟩ := ret_eq hF
              exact x_sub [3, 4, 5, 6, 7, 8, 9, 10, 2, 11, 12, 1, 0, 13, 14, 15, 16] rfl kJ122
        · replace hF := hL
          refine x_icmp_ne (pc := 76) C 83 dL_isSo_76 rfl hF (fun c13 hF => ?_) (fun c13 hF => ?_)
          · refine x_iconst (pc := 83) C 0 dL_isSo_83 ki_0 ?_
            obtain ⟨rfl, rfl⟩ := ret_eq hF
            exact x_sub [1, 2, 3, 4, 5, 6, 7, 0, 8, 9, 10, 11, 12, 13, 14, 15, 16] rfl kJ84
          · refine x_iconst (pc := 79) C 1 dL_isSo_79 ki_1 ?_
            refine x_goto (pc := 80) C 84 dL_isSo_80 rfl ?_
            obtain ⟨rfl, rfl⟩ := ret_eq hF
            exact x_sub [1, 2, 3, 4, 5, 6, 7, 0, 8, 9, 10, 11, 12, 13, 14, 15, 16] rfl kJ84
      · replace hF := hL
        refine x_icmp_ne (pc := 56) C 63 dL_isSo_56 rfl hF (fun c8 hF => ?_) (fun c8 hF => ?_)
        · refine x_iconst (pc := 63) C 0 dL_isSo_63 ki_0 ?_
          obtain ⟨rfl, rfl⟩ := ret_eq hF
          exact x_sub [1, 2, 3, 4, 5, 6, 7, 8, 9, 10, 11, 12, 13, 14, 15, 16, 0] rfl kJ64
        · refine x_iconst (pc := 59) C 1 dL_isSo_59 ki_1 ?_
          refine x_goto (pc := 60) C 64 dL_isSo_60 rfl ?_
          obtain ⟨rfl, rfl⟩ := ret_eq hF
          exact x_sub [1, 2, 3, 4, 5, 6, 7, 8, 9, 10, 11, 12, 13, 14, 15, 16, 0] rfl kJ64
set_option maxRecDepth 4000 in
theorem s_L_isSo_149 (C : xC p m c s args meth G b cL_isSo 17 RL) (hl : l.stackTraces = false) (hX : xF b s) : ∀ (n9 : Nat) (l7 : Int32) (l8 : Int32) (l9 : Int32) (l10 : Int32) (l11 : Int32) (l12 : Int32) (l13 : Int32) (l14 : Int32) (l15 : Int32) (w : xWt) (o : (Int32 × Int32 × Int32)) (w' : xWt), L_L_isSo_149 n9 l7 l8 l9 l10 l11 l12 l13 l14 l15 w = some (o, w') → xW p l e (xRX 11 6 36) s m args below meth c Q b 17 (CW G b w') 0 0 192 [(0, .ref (b)), (1, .ref (ra b 10 0)), (2, .ref (ra b 10 1)), (3, .ref (ra b 10 2)), (4, .ref (ra b 10 3)), (5, .ref (ra b 10 4)), (6, .ref (ra b 10 5)), (7, .int (l7)), (8, .int (l8)), (9, .int (l9)), (10, .int (l10)), (11, .int (l11)), (12, .int (l12)), (13, .int (o.1)), (14, .int (o.2.1)), (15, .int (o.2.2))] [] → xW p l e (xRX 11 6 36) s m args below meth c Q b 17 (CW G b w) 0 0 149 [(0, .ref (b)), (1, .ref (ra b 10 0)), (2, .ref (ra b 10 1)), (3, .ref (ra b 10 2)), (4, .ref (ra b 10 3)), (5, .ref (ra b 10 4)), (6, .ref (ra b 10 5)), (7, .int (l7)), (8, .int (l8)), (9, .int (l9)), (10, .int (l10)), (11, .int (l11)), (12, .int (l12)), (13, .int (l13)), (14, .int (l14)), (15, .int (l15))] [] := by
  intro n9
  induction n9 with
  | zero => intro l7 l8 l9 l10 l11 l12 l13 l14 l15 w o w' hF; exact none_ne (show none = some _ from hF)
  | succ n9 ih =>
    intro l7 l8 l9 l10 l11 l12 l13 l14 l15 w o w' hF kx
    replace hF : B_L_isSo_149 (L_L_isSo_149 n9) l7 l8 l9 l10 l11 l12 l13 l14 l15 w = some (o, w') := hF
    unfold B_L_isSo_149 at hF
    refine x_iload (pc := 149) C 15 dL_isSo_149 rfl ?_
    refine x_iconst (pc := 151) C 5 dL_isSo_151 ki_5 ?_
    refine x_icmp_ge (pc := 152) C 192 dL_isSo_152 rfl hF (fun c27 hF => ?_) (fun c27 hF => ?_)
    · obtain ⟨rfl, rfl⟩ := ret_eq hF
      exact x_sub [0, 1, 2, 3, 4, 5, 6, 7, 8, 9, 10, 11, 12, 13, 14, 15] rfl kx
    · refine x_iload (pc := 155) C 13 dL_isSo_155 rfl ?_
      refine x_aload (pc := 157) C 5 dL_isSo_157 rfl ?_
      refine x_bipush (pc := 159) C 6 dL_isSo_159 kb_6 ?_
      refine x_iload (pc := 161) C 15 dL_isSo_161 rfl ?_
      refine x_imul (pc := 163) C dL_isSo_163 ?_
      refine w_ald (pc := 164) C (vA_m 4 (by decide)) hF dL_isSo_164 (fun x25 hF => ?_)
      refine x_iload (pc := 165) C 15 dL_isSo_165 rfl ?_
      refine x_ishl (pc := 167) C dL_isSo_167 ?_
      refine x_ior (pc := 168) C dL_isSo_168 ?_
      refine x_istore (pc := 169) C [(13, .int ((l13 ||| (x25 <<< (l15 &&& 31))))), (0, .ref (b)), (1, .ref (ra b 10 0)), (2, .ref (ra b 10 1)), (3, .ref (ra b 10 2)), (4, .ref (ra b 10 3)), (5, .ref (ra b 10 4)), (6, .ref (ra b 10 5)), (7, .int (l7)), (8, .int (l8)), (9, .int (l9)), (10, .int (l10)), (11, .int (l11)), (12, .int (l12)), (14, .int (l14)), (15, .int (l15))] dL_isSo_169 (by decide) rfl ?_
      refine x_iload (pc := 171) C 14 dL_isSo_171 rfl ?_
      refine x_aload (pc := 173) C 6 dL_isSo_173 rfl ?_
      refine x_bipush (pc := 175) C 6 dL_isSo_175 kb_6 ?_
      refine x_iload (pc := 177) C 15 dL_isSo_177 rfl ?_
      refine x_imul (pc := 179) C dL_isSo_179 ?_
      refine x_iconst (pc := 180) C 1 dL_isSo_180 ki_1 ?_
      refine x_iadd (pc := 181) C dL_isSo_181 ?_
      refine w_ald (pc := 182) C (vA_m 4 (by decide)) hF dL_isSo_182 (fun x26 hF => ?_)
      refine x_iadd (pc := 183) C dL_isSo_183 ?_
      refine x_istore (pc := 184) C [(14, .int ((l14 + x26))), (13, .int ((l13 ||| (x25 <<< (l15 &&& 31))))), (0, .ref (b)), (1, .ref (ra b 10 0)), (2, .ref (ra b 10 1)), (3, .ref (ra b 10 2)), (4, .ref (ra b 10 3)), (5, .ref (ra b 10 4)), (6, .ref (ra b 10 5)), (7, .int (l7)), (8, .int (l8)), (9, .int (l9)), (10, .int (l10)), (11, .int (l11)), (12, .int (l12)), (15, .int (l15))] dL_isSo_184 (by decide) rfl ?_
      refine x_iinc (pc := 186) C 15 [(15, .int ((l15 + 1))), (14, .int ((l14 + x26))), (13, .int ((l13 ||| (x25 <<< (l15 &&& 31))))), (0, .ref (b)), (1, .ref (ra b 10 0)), (2, .ref (ra b 10 1)), (3, .ref (ra b 10 2)), (4, .ref (ra b 10 3)), (5, .ref (ra b 10 4)), (6, .ref (ra b 10 5)), (7, .int (l7)), (8, .int (l8)), (9, .int (l9)), (10, .int (l10)), (11, .int (l11)), (12, .int (l12))] dL_isSo_186 rfl rfl (by decide) rfl ?_
      refine x_goto (pc := 189) C 149 dL_isSo_189 rfl ?_
      exact x_sub [3, 4, 5, 6, 7, 8, 9, 10, 11, 12, 13, 14, 15, 2, 1, 0] rfl (ih _ _ _ _ _ _ _ _ _ _ _ _ hF kx)
set_option maxRecDepth 4000 in
theorem c_L_isSo (l : Launch) (G : xG) (b : Nat) (hl : l.stackTraces = false)  {w w' : xWt} {v : Int32} (hF : F_L_isSo w = some (v, w')) : xMetX l G b yL_isSo cL_isSo 17 (some .boolean) (xRX 11 6 36) [.ref (b), .ref (ra b 10 0), .ref (ra b 10 1), .ref (ra b 10 2), .ref (ra b 10 3), .ref (ra b 10 4), .ref (ra b 10 5)] (CW G b w) (.inl (some (.int v))) (CW G b w') 6 36 := by
  refine x_ofX (own := RL) rfl pn_L (Nat.le_of_ble_eq_true rfl) ?_
  intro p e s m args below meth c ha C hr hX hout
  unfold F_L_isSo at hF
  refine x_iconst (pc := 0) C 0 dL_isSo_0 ki_0 ?_
  refine x_istore (pc := 1) C [(7, .int (0)), (0, .ref (b)), (1, .ref (ra b 10 0)), (2, .ref (ra b 10 1)), (3, .ref (ra b 10 2)), (4, .ref (ra b 10 3)), (5, .ref (ra b 10 4)), (6, .ref (ra b 10 5))] dL_isSo_1 (by decide) rfl ?_
  refine x_iconst (pc := 3) C 0 dL_isSo_3 ki_0 ?_
  refine x_istore (pc := 4) C [(8, .int (0)), (7, .int (0)), (0, .ref (b)), (1, .ref (ra b 10 0)), (2, .ref (ra b 10 1)), (3, .ref (ra b 10 2)), (4, .ref (ra b 10 3)), (5, .ref (ra b 10 4)), (6, .ref (ra b 10 5))] dL_isSo_4 (by decide) rfl ?_
  refine x_iconst (pc := 6) C (-1) dL_isSo_6 ki_m1 ?_
  refine x_istore (pc := 7) C [(9, .int ((-1))), (8, .int (0)), (7, .int (0)), (0, .ref (b)), (1, .ref (ra b 10 0)), (2, .ref (ra b 10 1)), (3, .ref (ra b 10 2)), (4, .ref (ra b 10 3)), (5, .ref (ra b 10 4)), (6, .ref (ra b 10 5))] dL_isSo_7 (by decide) rfl ?_
  refine x_iconst (pc := 9) C 0 dL_isSo_9 ki_0 ?_
  refine x_istore (pc := 10) C [(10, .int (0)), (9, .int ((-1))), (8, .int (0)), (7, .int (0)), (0, .ref (b)), (1, .ref (ra b 10 0)), (2, .ref (ra b 10 1)), (3, .ref (ra b 10 2)), (4, .ref (ra b 10 3)), (5, .ref (ra b 10 4)), (6, .ref (ra b 10 5))] dL_isSo_10 (by decide) rfl ?_
  refine x_iconst (pc := 12) C 0 dL_isSo_12 ki_0 ?_
  refine x_istore (pc := 13) C [(11, .int (0)), (10, .int (0)), (9, .int ((-1))), (8, .int (0)), (7, .int (0)), (0, .ref (b)), (1, .ref (ra b 10 0)), (2, .ref (ra b 10 1)), (3, .ref (ra b 10 2)), (4, .ref (ra b 10 3)), (5, .ref (ra b 10 4)), (6, .ref (ra b 10 5))] dL_isSo_13 (by decide) rfl ?_
  refine x_iconst (pc := 15) C 0 dL_isSo_15 ki_0 ?_
  refine x_istore (pc := 16) C [(12, .int (0)), (11, .int (0)), (10, .int (0)), (9, .int ((-1))), (8, .int (0)), (7, .int (0)), (0, .ref (b)), (1, .ref (ra b 10 0)), (2, .ref (ra b 10 1)), (3, .ref (ra b 10 2)), (4, .ref (ra b 10 3)), (5, .ref (ra b 10 4)), (6, .ref (ra b 10 5))] dL_isSo_16 (by decide) rfl ?_
  refine x_iconst (pc := 18) C 0 dL_isSo_18 ki_0 ?_
  refine x_istore (pc := 19) C [(13, .int (0)), (12, .int (0)), (11, .int (0)), (10, .int (0)), (9, .int ((-1))), (8, .int (0)), (7, .int (0)), (0, .ref (b)), (1, .ref (ra b 10 0)), (2, .ref (ra b 10 1)), (3, .ref (ra b 10 2)), (4, .ref (ra b 10 3)), (5, .ref (ra b 10 4)), (6, .ref (ra b 10 5))] dL_isSo_19 (by decide) rfl ?_
  refine x_iconst (pc := 21) C 0 dL_isSo_21 ki_0 ?_
  refine x_istore (pc := 22) C [(14, .int (0)), (13, .int (0)), (12, .int (0)), (11, .int (0)), (10, .int (0)), (9, .int ((-1))), (8, .int (0)), (7, .int (0)), (0, .ref (b)), (1, .ref (ra b 10 0)), (2, .ref (ra b 10 1)), (3, .ref (ra b 10 2)), (4, .ref (ra b 10 3)), (5, .ref (ra b 10 4)), (6, .ref (ra b 10 5))] dL_isSo_22 (by decide) rfl ?_
  refine x_iconst (pc := 24) C 0 dL_isSo_24 ki_0 ?_
  refine x_istore (pc := 25) C [(15, .int (0)), (14, .int (0)), (13, .int (0)), (12, .int (0)), (11, .int (0)), (10, .int (0)), (9, .int ((-1))), (8, .int (0)), (7, .int (0)), (0, .ref (b)), (1, .ref (ra b 10 0)), (2, .ref (ra b 10 1)), (3, .ref (ra b 10 2)), (4, .ref (ra b 10 3)), (5, .ref (ra b 10 4)), (6, .ref (ra b 10 5))] dL_isSo_25 (by decide) rfl ?_
  obtain ⟨o23, w24, hL, hF⟩ := bd_some hF
  refine x_sub [9, 10, 11, 12, 13, 14, 15, 8, 7, 6, 5, 4, 3, 2, 1, 0] rfl (s_L_isSo_27 C hl hX _ _ _ _ _ _ _ _ _ _ _ _ _ hL ?_)
  refine x_iconst (pc := 146) C 0 dL_isSo_146 ki_0 ?_
  refine x_istore (pc := 147) C [(15, .int (0)), (0, .ref (b)), (1, .ref (ra b 10 0)), (2, .ref (ra b 10 1)), (3, .ref (ra b 10 2)), (4, .ref (ra b 10 3)), (5, .ref (ra b 10 4)), (6, .ref (ra b 10 5)), (7, .int (o23.1)), (8, .int (o23.2.1)), (9, .int (o23.2.2.1)), (10, .int (o23.2.2.2.1)), (11, .int (o23.2.2.2.2.1)), (12, .int (o23.2.2.2.2.2.1)), (13, .int (0)), (14, .int (0))] dL_isSo_147 (by decide) rfl ?_
  obtain ⟨o28, w29, hL, hF⟩ := bd_some hF
  refine x_sub [1, 2, 3, 4, 5, 6, 7, 8, 9, 10, 11, 12, 13, 14, 15, 0] rfl (s_L_isSo_149 C hl hX _ _ _ _ _ _ _ _ _ _ _ _ _ hL ?_)
  refine x_aload_n (pc := 192) C 0 dL_isSo_192 rfl rfl ?_
  refine x_iconst (pc := 193) C 0 dL_isSo_193 ki_0 ?_
  refine cF1_1 (pc := 194) (val := Value.int) C hX hF (fun _ _ h => c_X7_count l _ b hl _ h) vm_X7_count wq115 ⟨Nat.le_of_ble_eq_true rfl, Nat.le_of_ble_eq_true rfl⟩ rfl rfl (fun _ h => CW.pl h) (Nat.le_of_ble_eq_true rfl) ⟨Nat.zero_le _, Nat.zero_le _⟩ dL_isSo_194 (fun x30 w31 hF => ?_)
  refine x_iload (pc := 197) C 13 dL_isSo_197 rfl ?_
  refine x_icmp_ne (pc := 199) C 368 dL_isSo_199 rfl hF (fun c128 hF => ?_) (fun c128 hF => ?_)
  · exact none_ne hF
  · refine x_aload_n (pc := 202) C 0 dL_isSo_202 rfl rfl ?_
    refine x_iconst (pc := 203) C 1 dL_isSo_203 ki_1 ?_
    refine cF1_1 (pc := 204) (val := Value.int) C hX hF (fun _ _ h => c_X7_count l _ b hl _ h) vm_X7_count wq115 ⟨Nat.le_of_ble_eq_true rfl, Nat.le_of_ble_eq_true rfl⟩ rfl rfl (fun _ h => CW.pl h) (Nat.le_of_ble_eq_true rfl) ⟨Nat.zero_le _, Nat.zero_le _⟩ dL_isSo_204 (fun x32 w33 hF => ?_)
    refine x_aload (pc := 207) C 5 dL_isSo_207 rfl ?_
    refine cS1_1 (pc := 209) (val := Value.int) C hF (fun _ _ h => c_L_children l _ b h) sm_L_children wq183 rfl rfl ⟨Nat.le_of_ble_eq_true rfl, Nat.le_of_ble_eq_true rfl⟩ (Nat.le_of_ble_eq_true rfl) ⟨Nat.zero_le _, Nat.zero_le _⟩ dL_isSo_209 (fun x35 w34 hF => ?_)
    refine x_icmp_ne (pc := 212) C 368 dL_isSo_212 rfl hF (fun c127 hF => ?_) (fun c127 hF => ?_)
    · exact none_ne hF
    · refine x_aload_n (pc := 215) C 0 dL_isSo_215 rfl rfl ?_
      refine x_iconst (pc := 216) C 2 dL_isSo_216 ki_2 ?_
      refine cF1_1 (pc := 217) (val := Value.int) C hX hF (fun _ _ h => c_X7_count l _ b hl _ h) vm_X7_count wq115 ⟨Nat.le_of_ble_eq_true rfl, Nat.le_of_ble_eq_true rfl⟩ rfl rfl (fun _ h => CW.pl h) (Nat.le_of_ble_eq_true rfl) ⟨Nat.zero_le _, Nat.zero_le _⟩ dL_isSo_217 (fun x36 w37 hF => ?_)
      refine x_iload (pc := 220) C 14 dL_isSo_220 rfl ?_
      refine x_icmp_ne (pc := 222) C 368 dL_isSo_222 rfl hF (fun c126 hF => ?_) (fun c126 hF => ?_)
      · exact none_ne hF
      · refine x_aload_n (pc := 225) C 0 dL_isSo_225 rfl rfl ?_
        refine x_iconst (pc := 226) C 3 dL_isSo_226 ki_3 ?_
        refine cF1_1 (pc := 227) (val := Value.int) C hX hF (fun _ _ h => c_X7_count l _ b hl _ h) vm_X7_count wq115 ⟨Nat.le_of_ble_eq_true rfl, Nat.le_of_ble_eq_true rfl⟩ rfl rfl (fun _ h => CW.pl h) (Nat.le_of_ble_eq_true rfl) ⟨Nat.zero_le _, Nat.zero_le _⟩ dL_isSo_227 (fun x38 w39 hF => ?_)
        refine x_aload_n (pc := 230) C 1 dL_isSo_230 rfl rfl ?_
        refine x_iconst (pc := 231) C 0 dL_isSo_231 ki_0 ?_
        refine w_ald (pc := 232) C (vA_m 0 (by decide)) hF dL_isSo_232 (fun x40 hF => ?_)
        refine x_icmp_ne (pc := 233) C 368 dL_isSo_233 rfl hF (fun c125 hF => ?_) (fun c125 hF => ?_)
        · exact none_ne hF
        · refine x_aload_n (pc := 236) C 0 dL_isSo_236 rfl rfl ?_
          refine x_iconst (pc := 237) C 4 dL_isSo_237 ki_4 ?_
          refine cF1_1 (pc := 238) (val := Value.int) C hX hF (fun _ _ h => c_X7_count l _ b hl _ h) vm_X7_count wq115 ⟨Nat.le_of_ble_eq_true rfl, Nat.le_of_ble_eq_true rfl⟩ rfl rfl (fun _ h => CW.pl h) (Nat.le_of_ble_eq_true rfl) ⟨Nat.zero_le _, Nat.zero_le _⟩ dL_isSo_238 (fun x41 w42 hF => ?_)
          refine x_aload_n (pc := 241) C 1 dL_isSo_241 rfl rfl ?_
          refine x_iconst (pc := 242) C 1 dL_isSo_242 ki_1 ?_
          refine w_ald (pc := 243) C (vA_m 0 (by decide)) hF dL_isSo_243 (fun x43 hF => ?_)
          refine x_icmp_ne (pc := 244) C 368 dL_isSo_244 rfl hF (fun c124 hF => ?_) (fun c124 hF => ?_)
          · exact none_ne hF
          · refine x_aload_n (pc := 247) C 0 dL_isSo_247 rfl rfl ?_
            refine x_iconst (pc := 248) C 5 dL_isSo_248 ki_5 ?_
            refine cF1_1 (pc := 249) (val := Value.int) C hX hF (fun _ _ h => c_X7_count l _ b hl _ h) vm_X7_count wq115 ⟨Nat.le_of_ble_eq_true rfl, Nat.le_of_ble_eq_true rfl⟩ rfl rfl (fun _ h => CW.pl h) (Nat.le_of_ble_eq_true rfl) ⟨Nat.zero_le _, Nat.zero_le _⟩ dL_isSo_249 (fun x44 w45 hF => ?_)
            refine x_iload (pc := 252) C 8 dL_isSo_252 rfl ?_
            refine x_icmp_ne (pc := 254) C 368 dL_isSo_254 rfl hF (fun c123 hF => ?_) (fun c123 hF => ?_)
            · exact none_ne hF
            · refine x_aload_n (pc := 257) C 0 dL_isSo_257 rfl rfl ?_
              refine x_bipush (pc := 258) C 6 dL_isSo_258 kb_6 ?_
              refine cF1_1 (pc := 260) (val := Value.int) C hX hF (fun _ _ h => c_X7_count l _ b hl _ h) vm_X7_count wq115 ⟨Nat.le_of_ble_eq_true rfl, Nat.le_of_ble_eq_true rfl⟩ rfl rfl (fun _ h => CW.pl h) (Nat.le_of_ble_eq_true rfl) ⟨Nat.zero_le _, Nat.zero_le _⟩ dL_isSo_260 (fun x46 w47 hF => ?_)
              refine x_aload_n (pc := 263) C 1 dL_isSo_263 rfl rfl ?_
              refine x_bipush (pc := 264) C 9 dL_isSo_264 kb_9 ?_
              refine w_ald (pc := 266) C (vA_m 0 (by decide)) hF dL_isSo_266 (fun x48 hF => ?_)
              refine x_icmp_ne (pc := 267) C 368 dL_isSo_267 rfl hF (fun c122 hF => ?_) (fun c122 hF => ?_)
              · exact none_ne hF
              · refine x_aload_n (pc := 270) C 0 dL_isSo_270 rfl rfl ?_
                refine x_bipush (pc := 271) C 7 dL_isSo_271 kb_7 ?_
                refine cF1_1 (pc := 273) (val := Value.int) C hX hF (fun _ _ h => c_X7_count l _ b hl _ h) vm_X7_count wq115 ⟨Nat.le_of_ble_eq_true rfl, Nat.le_of_ble_eq_true rfl⟩ rfl rfl (fun _ h => CW.pl h) (Nat.le_of_ble_eq_true rfl) ⟨Nat.zero_le _, Nat.zero_le _⟩ dL_isSo_273 (fun x49 w50 hF => ?_)
                refine x_iload (pc := 276) C 7 dL_isSo_276 rfl ?_
                refine x_icmp_ne (pc := 278) C 368 dL_isSo_278 rfl hF (fun c121 hF => ?_) (fun c121 hF => ?_)
                · exact none_ne hF
                · refine x_aload_n (pc := 281) C 0 dL_isSo_281 rfl rfl ?_
                  refine x_bipush (pc := 282) C 8 dL_isSo_282 kb_8 ?_
                  refine cF1_1 (pc := 284) (val := Value.int) C hX hF (fun _ _ h => c_X7_count l _ b hl _ h) vm_X7_count wq115 ⟨Nat.le_of_ble_eq_true rfl, Nat.le_of_ble_eq_true rfl⟩ rfl rfl (fun _ h => CW.pl h) (Nat.le_of_ble_eq_true rfl) ⟨Nat.zero_le _, Nat.zero_le _⟩ dL_isSo_284 (fun x51 w52 hF => ?_)
                  refine x_iload (pc := 287) C 11 dL_isSo_287 rfl ?_
                  refine x_icmp_ne (pc := 289) C 368 dL_isSo_289 rfl hF (fun c120 hF => ?_) (fun c120 hF => ?_)
                  · exact none_ne hF
                  · refine x_aload_n (pc := 292) C 0 dL_isSo_292 rfl rfl ?_
                    refine x_bipush (pc := 293) C 9 dL_isSo_293 kb_9 ?_
                    refine cF1_1 (pc := 295) (val := Value.int) C hX hF (fun _ _ h => c_X7_count l _ b hl _ h) vm_X7_count wq115 ⟨Nat.le_of_ble_eq_true rfl, Nat.le_of_ble_eq_true rfl⟩ rfl rfl (fun _ h => CW.pl h) (Nat.le_of_ble_eq_true rfl) ⟨Nat.zero_le _, Nat.zero_le _⟩ dL_isSo_295 (fun x53 w54 hF => ?_)
                    refine x_iload (pc := 298) C 12 dL_isSo_298 rfl ?_
                    refine x_icmp_ne (pc := 300) C 368 dL_isSo_300 rfl hF (fun c119 hF => ?_) (fun c119 hF => ?_)
                    · exact none_ne hF
                    · refine x_aload_n (pc := 303) C 0 dL_isSo_303 rfl rfl ?_
                      refine x_bipush (pc := 304) C 10 dL_isSo_304 kb_10 ?_
                      refine cF1_1 (pc := 306) (val := Value.int) C hX hF (fun _ _ h => c_X7_count l _ b hl _ h) vm_X7_count wq115 ⟨Nat.le_of_ble_eq_true rfl, Nat.le_of_ble_eq_true rfl⟩ rfl rfl (fun _ h => CW.pl h) (Nat.le_of_ble_eq_true rfl) ⟨Nat.zero_le _, Nat.zero_le _⟩ dL_isSo_306 (fun x55 w56 hF => ?_)
                      refine x_aload_n (pc := 309) C 1 dL_isSo_309 rfl rfl ?_
                      refine x_iconst (pc := 310) C 2 dL_isSo_310 ki_2 ?_
                      refine w_ald (pc := 311) C (vA_m 0 (by decide)) hF dL_isSo_311 (fun x57 hF => ?_)
                      refine x_icmp_ne (pc := 312) C 368 dL_isSo_312 rfl hF (fun c118 hF => ?_) (fun c118 hF => ?_)
                      · exact none_ne hF
                      · refine x_aload_n (pc := 315) C 0 dL_isSo_315 rfl rfl ?_
                        refine x_bipush (pc := 316) C 11 dL_isSo_316 kb_11 ?_
                        refine cF1_1 (pc := 318) (val := Value.int) C hX hF (fun _ _ h => c_X7_count l _ b hl _ h) vm_X7_count wq115 ⟨Nat.le_of_ble_eq_true rfl, Nat.le_of_ble_eq_true rfl⟩ rfl rfl (fun _ h => CW.pl h) (Nat.le_of_ble_eq_true rfl) ⟨Nat.zero_le _, Nat.zero_le _⟩ dL_isSo_318 (fun x58 w59 hF => ?_)
                        refine x_aload_n (pc := 321) C 1 dL_isSo_321 rfl rfl ?_
                        refine x_iconst (pc := 322) C 3 dL_isSo_322 ki_3 ?_
                        refine w_ald (pc := 323) C (vA_m 0 (by decide)) hF dL_isSo_323 (fun x60 hF => ?_)
                        refine x_icmp_ne (pc := 324) C 368 dL_isSo_324 rfl hF (fun c117 hF => ?_) (fun c117 hF => ?_)
                        · exact none_ne hF
                        · refine x_aload_n (pc := 327) C 0 dL_isSo_327 rfl rfl ?_
                          refine x_bipush (pc := 328) C 12 dL_isSo_328 kb_12 ?_
                          refine cF1_1 (pc := 330) (val := Value.int) C hX hF (fun _ _ h => c_X7_count l _ b hl _ h) vm_X7_count wq115 ⟨Nat.le_of_ble_eq_true rfl, Nat.le_of_ble_eq_true rfl⟩ rfl rfl (fun _ h => CW.pl h) (Nat.le_of_ble_eq_true rfl) ⟨Nat.zero_le _, Nat.zero_le _⟩ dL_isSo_330 (fun x61 w62 hF => ?_)
                          refine x_aload_n (pc := 333) C 1 dL_isSo_333 rfl rfl ?_
                          refine x_iconst (pc := 334) C 4 dL_isSo_334 ki_4 ?_
                          refine w_ald (pc := 335) C (vA_m 0 (by decide)) hF dL_isSo_335 (fun x63 hF => ?_)
                          refine x_icmp_ne (pc := 336) C 368 dL_isSo_336 rfl hF (fun c116 hF => ?_) (fun c116 hF => ?_)
                          · exact none_ne hF
                          · refine x_aload_n (pc := 339) C 0 dL_isSo_339 rfl rfl ?_
                            refine x_bipush (pc := 340) C 13 dL_isSo_340 kb_13 ?_
                            refine cF1_1 (pc := 342) (val := Value.int) C hX hF (fun _ _ h => c_X7_count l _ b hl _ h) vm_X7_count wq115 ⟨Nat.le_of_ble_eq_true rfl, Nat.le_of_ble_eq_true rfl⟩ rfl rfl (fun _ h => CW.pl h) (Nat.le_of_ble_eq_true rfl) ⟨Nat.zero_le _, Nat.zero_le _⟩ dL_isSo_342 (fun x64 w65 hF => ?_)
                            refine x_aload_n (pc := 345) C 1 dL_isSo_345 rfl rfl ?_
                            refine x_iconst (pc := 346) C 5 dL_isSo_346 ki_5 ?_
                            refine w_ald (pc := 347) C (vA_m 0 (by decide)) hF dL_isSo_347 (fun x66 hF => ?_)
                            refine x_icmp_ne (pc := 348) C 368 dL_isSo_348 rfl hF (fun c115 hF => ?_) (fun c115 hF => ?_)
                            · exact none_ne hF
                            · refine x_aload_n (pc := 351) C 0 dL_isSo_351 rfl rfl ?_
                              refine x_bipush (pc := 352) C 14 dL_isSo_352 kb_14 ?_
                              refine cF1_1 (pc := 354) (val := Value.int) C hX hF (fun _ _ h => c_X7_count l _ b hl _ h) vm_X7_count wq115 ⟨Nat.le_of_ble_eq_true rfl, Nat.le_of_ble_eq_true rfl⟩ rfl rfl (fun _ h => CW.pl h) (Nat.le_of_ble_eq_true rfl) ⟨Nat.zero_le _, Nat.zero_le _⟩ dL_isSo_354 (fun x67 w68 hF => ?_)
                              refine x_aload_n (pc := 357) C 1 dL_isSo_357 rfl rfl ?_
                              refine x_bipush (pc := 358) C 6 dL_isSo_358 kb_6 ?_
                              refine w_ald (pc := 360) C (vA_m 0 (by decide)) hF dL_isSo_360 (fun x69 hF => ?_)
                              refine x_icmp_ne (pc := 361) C 368 dL_isSo_361 rfl hF (fun c114 hF => ?_) (fun c114 hF => ?_)
                              · exact none_ne hF
                              · refine x_iconst (pc := 364) C 1 dL_isSo_364 ki_1 ?_
                                refine x_goto (pc := 365) C 369 dL_isSo_365 rfl ?_
                                refine x_istore (pc := 369) C [(15, .int (1)), (0, .ref (b)), (1, .ref (ra b 10 0)), (2, .ref (ra b 10 1)), (3, .ref (ra b 10 2)), (4, .ref (ra b 10 3)), (5, .ref (ra b 10 4)), (6, .ref (ra b 10 5)), (7, .int (o23.1)), (8, .int (o23.2.1)), (9, .int (o23.2.2.1)), (10, .int (o23.2.2.2.1)), (11, .int (o23.2.2.2.2.1)), (12, .int (o23.2.2.2.2.2.1)), (13, .int (o28.1)), (14, .int (o28.2.1))] dL_isSo_369 (by decide) rfl ?_
                                refine x_iload (pc := 371) C 0 dL_isSo_371 rfl ?_
                                refine x_if_eq (pc := 373) C 523 dL_isSo_373 rfl (cst_f (c9 := (1 : Int32) = 0) (by decide) hF) (fun c113 _ => absurd c113 (by decide)) (fun c113 hF => ?_)
                                refine x_aload_n (pc := 376) C 1 dL_isSo_376 rfl rfl ?_
                                refine x_iconst (pc := 377) C 0 dL_isSo_377 ki_0 ?_
                                refine cF1_1 (pc := 378) (val := Value.int) C hX hF (fun _ _ h => c_X7_setting l _ b hl _ h) vm_X7_setting wq186 ⟨Nat.le_of_ble_eq_true rfl, Nat.le_of_ble_eq_true rfl⟩ rfl rfl (fun _ h => CW.pl h) (Nat.le_of_ble_eq_true rfl) ⟨Nat.zero_le _, Nat.zero_le _⟩ dL_isSo_378 (fun x70 w71 hF => ?_)
                                refine x_aload_n (pc := 381) C 2 dL_isSo_381 rfl rfl ?_
                                refine x_bipush (pc := 382) C 7 dL_isSo_382 kb_7 ?_
                                refine w_ald (pc := 384) C (vA_m 0 (by decide)) hF dL_isSo_384 (fun x72 hF => ?_)
                                refine x_icmp_ne (pc := 385) C 523 dL_isSo_385 rfl hF (fun c112 hF => ?_) (fun c112 hF => ?_)
                                · exact none_ne hF
                                · refine x_aload_n (pc := 388) C 1 dL_isSo_388 rfl rfl ?_
                                  refine x_iconst (pc := 389) C 1 dL_isSo_389 ki_1 ?_
                                  refine cF1_1 (pc := 390) (val := Value.int) C hX hF (fun _ _ h => c_X7_setting l _ b hl _ h) vm_X7_setting wq186 ⟨Nat.le_of_ble_eq_true rfl, Nat.le_of_ble_eq_true rfl⟩ rfl rfl (fun _ h => CW.pl h) (Nat.le_of_ble_eq_true rfl) ⟨Nat.zero_le _, Nat.zero_le _⟩ dL_isSo_390 (fun x73 w74 hF => ?_)
                                  refine x_aload_n (pc := 393) C 2 dL_isSo_393 rfl rfl ?_
                                  refine x_bipush (pc := 394) C 8 dL_isSo_394 kb_8 ?_
                                  refine w_ald (pc := 396) C (vA_m 0 (by decide)) hF dL_isSo_396 (fun x75 hF => ?_)
                                  refine x_icmp_ne (pc := 397) C 523 dL_isSo_397 rfl hF (fun c111 hF => ?_) (fun c111 hF => ?_)
                                  · exact none_ne hF
                                  · refine x_aload_n (pc := 400) C 1 dL_isSo_400 rfl rfl ?_
                                    refine cV1_0 (pc := 401) (val := Value.int) C hF (fun _ _ h => c_X7_late l _ b h) vm_X7_late wq199 rfl rfl ⟨Nat.le_of_ble_eq_true rfl, Nat.le_of_ble_eq_true rfl⟩ rfl rfl (fun _ h => CW.pl h) (Nat.le_of_ble_eq_true rfl) ⟨Nat.zero_le _, Nat.zero_le _⟩ dL_isSo_401 (fun x76 w77 hF => ?_)
                                    refine x_aload_n (pc := 404) C 2 dL_isSo_404 rfl rfl ?_
                                    refine x_aload (pc := 405) C 6 dL_isSo_405 rfl ?_
                                    refine cS1_2 (pc := 407) (val := Value.int) C hF (fun _ _ h => c_L_late l _ b h) sm_L_late wq213 rfl rfl ⟨Nat.le_of_ble_eq_true rfl, Nat.le_of_ble_eq_true rfl⟩ (Nat.le_of_ble_eq_true rfl) ⟨Nat.zero_le _, Nat.zero_le _⟩ dL_isSo_407 (fun x79 w78 hF => ?_)
                                    refine x_icmp_ne (pc := 410) C 523 dL_isSo_410 rfl hF (fun c110 hF => ?_) (fun c110 hF => ?_)
                                    · exact none_ne hF
                                    · refine x_aload_n (pc := 413) C 1 dL_isSo_413 rfl rfl ?_
                                      refine cV1_0 (pc := 414) (val := Value.int) C hF (fun _ _ h => c_X7_ifAllRested l _ b h) vm_X7_ifAllRested wq216 rfl rfl ⟨Nat.le_of_ble_eq_true rfl, Nat.le_of_ble_eq_true rfl⟩ rfl rfl (fun _ h => CW.pl h) (Nat.le_of_ble_eq_true rfl) ⟨Nat.zero_le _, Nat.zero_le _⟩ dL_isSo_414 (fun x80 w81 hF => ?_)
                                      refine x_aload_n (pc := 417) C 2 dL_isSo_417 rfl rfl ?_
                                      refine x_bipush (pc := 418) C 9 dL_isSo_418 kb_9 ?_
                                      refine w_ald (pc := 420) C (vA_m 0 (by decide)) hF dL_isSo_420 (fun x82 hF => ?_)
                                      refine x_icmp_ne (pc := 421) C 523 dL_isSo_421 rfl hF (fun c109 hF => ?_) (fun c109 hF => ?_)
                                      · exact none_ne hF
                                      · refine x_aload_n (pc := 424) C 1 dL_isSo_424 rfl rfl ?_
                                        refine cV1_0 (pc := 425) (val := Value.int) C hF (fun _ _ h => c_X7_mostHeld l _ b h) vm_X7_mostHeld wq227 rfl rfl ⟨Nat.le_of_ble_eq_true rfl, Nat.le_of_ble_eq_true rfl⟩ rfl rfl (fun _ h => CW.pl h) (Nat.le_of_ble_eq_true rfl) ⟨Nat.zero_le _, Nat.zero_le _⟩ dL_isSo_425 (fun x83 w84 hF => ?_)
                                        refine x_iload (pc := 428) C 10 dL_isSo_428 rfl ?_
                                        refine x_icmp_ne (pc := 430) C 523 dL_isSo_430 rfl hF (fun c108 hF => ?_) (fun c108 hF => ?_)
                                        · exact none_ne hF
                                        · refine x_aload_n (pc := 433) C 1 dL_isSo_433 rfl rfl ?_
                                          refine cV1_0 (pc := 434) (val := Value.double) C hF (fun _ _ h => c_X7_burntShare l _ b h) vm_X7_burntShare wq239 rfl rfl ⟨Nat.le_of_ble_eq_true rfl, Nat.le_of_ble_eq_true rfl⟩ rfl rfl (fun _ h => CW.pl h) (Nat.le_of_ble_eq_true rfl) ⟨Nat.zero_le _, Nat.zero_le _⟩ dL_isSo_434 (fun x85 w86 hF => ?_)
                                          refine x_iload (pc := 437) C 8 dL_isSo_437 rfl ?_
                                          refine x_aload_n (pc := 439) C 2 dL_isSo_439 rfl rfl ?_
                                          refine x_bipush (pc := 440) C 9 dL_isSo_440 kb_9 ?_
                                          refine w_ald (pc := 442) C (vA_m 0 (by decide)) hF dL_isSo_442 (fun x87 hF => ?_)
                                          refine x_iadd (pc := 443) C dL_isSo_443 ?_
                                          obtain ⟨o89, w88, hL, hF⟩ := bd_some hF
                                          refine x_join (P1 := CW G b w88) (pcJ := 463) (lvJ := [(0, .ref (b)), (1, .ref (ra b 10 0)), (2, .ref (ra b 10 1)), (3, .ref (ra b 10 2)), (4, .ref (ra b 10 3)), (5, .ref (ra b 10 4)), (6, .ref (ra b 10 5)), (7, .int (o23.1)), (8, .int (o23.2.1)), (9, .int (o23.2.2.1)), (10, .int (o23.2.2.2.1)), (11, .int (o23.2.2.2.2.1)), (12, .int (o23.2.2.2.2.2.1)), (13, .int (o28.1)), (14, .int (o28.2.1)), (15, .int (1))]) (stJ := [.double (o89), .double (x85)]) 0 0 ?_ (fun kJ463 => ?_)
                                          · refine x_dcmp (pc := 463) C dL_isSo_463 ?_
                                            refine x_if_ne (pc := 464) C 523 dL_isSo_464 rfl hF (fun c107 hF => ?_) (fun c107 hF => ?_)
                                            · exact none_ne hF
                                            · refine x_aload_n (pc := 467) C 0 dL_isSo_467 rfl rfl ?_
                                              refine cV1_0 (pc := 468) (val := Value.float) C hF (fun _ _ h => c_X7_fullness l _ b h) vm_X7_fullness wq245 rfl rfl ⟨Nat.le_of_ble_eq_true rfl, Nat.le_of_ble_eq_true rfl⟩ rfl rfl (fun _ h => CW.pl h) (Nat.le_of_ble_eq_true rfl) ⟨Nat.zero_le _, Nat.zero_le _⟩ dL_isSo_468 (fun x93 w94 hF => ?_)
                                              refine x_aload_n (pc := 471) C 1 dL_isSo_471 rfl rfl ?_
                                              refine x_bipush (pc := 472) C 9 dL_isSo_472 kb_9 ?_
                                              refine w_ald (pc := 474) C (vA_m 0 (by decide)) hF dL_isSo_474 (fun x95 hF => ?_)
                                              refine x_i2f (pc := 475) C dL_isSo_475 ?_
                                              refine x_aload_n (pc := 476) C 1 dL_isSo_476 rfl rfl ?_
                                              refine x_bipush (pc := 477) C 7 dL_isSo_477 kb_7 ?_
                                              refine w_ald (pc := 479) C (vA_m 0 (by decide)) hF dL_isSo_479 (fun x96 hF => ?_)
                                              refine x_aload (pc := 480) C 5 dL_isSo_480 rfl ?_
                                              refine cS1_1 (pc := 482) (val := Value.int) C hF (fun _ _ h => c_L_children l _ b h) sm_L_children wq183 rfl rfl ⟨Nat.le_of_ble_eq_true rfl, Nat.le_of_ble_eq_true rfl⟩ (Nat.le_of_ble_eq_true rfl) ⟨Nat.zero_le _, Nat.zero_le _⟩ dL_isSo_482 (fun x98 w97 hF => ?_)
                                              refine x_imul (pc := 485) C dL_isSo_485 ?_
                                              refine x_i2f (pc := 486) C dL_isSo_486 ?_
                                              refine y_fdiv (pc := 487) C dL_isSo_487 hF (fun x99 hF => ?_)
                                              refine x_fcmp (pc := 488) C dL_isSo_488 ?_
                                              refine x_if_ne (pc := 489) C 523 dL_isSo_489 rfl hF (fun c106 hF => ?_) (fun c106 hF => ?_)
                                              · exact none_ne hF
                                              · refine x_aload_n (pc := 492) C 0 dL_isSo_492 rfl rfl ?_
                                                refine x_aload_n (pc := 493) C 1 dL_isSo_493 rfl rfl ?_
                                                refine x_aload_n (pc := 494) C 2 dL_isSo_494 rfl rfl ?_
                                                refine x_aload_n (pc := 495) C 3 dL_isSo_495 rfl rfl ?_
                                                refine x_aload (pc := 496) C 6 dL_isSo_496 rfl ?_
                                                refine cX1_5 (pc := 498) C hX hF (fun _ _ h => c_L_areLeaves l _ b hl h) sm_L_areLeaves wq251 rfl rfl ⟨Nat.le_of_ble_eq_true rfl, Nat.le_of_ble_eq_true rfl⟩ (Nat.le_of_ble_eq_true rfl) ⟨Nat.le_of_ble_eq_true rfl, Nat.le_of_ble_eq_true rfl⟩ dL_isSo_498 (fun x101 w100 hF => ?_)
                                                refine x_if_eq (pc := 501) C 523 dL_isSo_501 rfl hF (fun c105 hF => ?_) (fun c105 hF => ?_)
                                                · exact none_ne hF
                                                · refine x_aload_n (pc := 504) C 0 dL_isSo_504 rfl rfl ?_
                                                  refine x_aload_n (pc := 505) C 1 dL_isSo_505 rfl rfl ?_
                                                  refine x_aload_n (pc := 506) C 3 dL_isSo_506 rfl rfl ?_
                                                  refine x_aload (pc := 507) C 4 dL_isSo_507 rfl ?_
                                                  refine x_aload (pc := 509) C 5 dL_isSo_509 rfl ?_
                                                  refine x_aload (pc := 511) C 6 dL_isSo_511 rfl ?_
                                                  refine cX1_6 (pc := 513) C hX hF (fun _ _ h => c_L_areChildren l _ b hl h) sm_L_areChildren wq318 rfl rfl ⟨Nat.le_of_ble_eq_true rfl, Nat.le_of_ble_eq_true rfl⟩ (Nat.le_of_ble_eq_true rfl) ⟨Nat.le_of_ble_eq_true rfl, Nat.le_of_ble_eq_true rfl⟩ dL_isSo_513 (fun x103 w102 hF => ?_)
                                                  refine x_if_eq (pc := 516) C 523 dL_isSo_516 rfl hF (fun c104 hF => ?_) (fun c104 hF => ?_)
                                                  · exact none_ne hF
                                                  · refine x_iconst (pc := 519) C 1 dL_isSo_519 ki_1 ?_
                                                    refine x_goto (pc := 520) C 524 dL_isSo_520 rfl ?_
                                                    obtain ⟨rfl, rfl⟩ := ret_eq hF
                                                    refine xv_ret rfl (Nat.le_of_ble_eq_true rfl) (Nat.le_of_ble_eq_true rfl) ?_
                                                    exact x_zret (pc := 524) C rfl hr rfl (fun _ h => h) dL_isSo_524
                                          · replace hF := hL
                                            refine x_if_ne (pc := 444) C 451 dL_isSo_444 rfl hF (fun c92 hF => ?_) (fun c92 hF => ?_)
                                            · refine x_iload (pc := 451) C 8 dL_isSo_451 rfl ?_
                                              refine x_i2d (pc := 453) C dL_isSo_453 ?_
                                              refine x_iload (pc := 454) C 8 dL_isSo_454 rfl ?_
                                              refine x_aload_n (pc := 456) C 2 dL_isSo_456 rfl rfl ?_
                                              refine x_bipush (pc := 457) C 9 dL_isSo_457 kb_9 ?_
                                              refine w_ald (pc := 459) C (vA_m 0 (by decide)) hF dL_isSo_459 (fun x90 hF => ?_)
                                              refine x_iadd (pc := 460) C dL_isSo_460 ?_
                                              refine x_i2d (pc := 461) C dL_isSo_461 ?_
                                              refine y_ddiv (pc := 462) C dL_isSo_462 hF (fun x91 hF => ?_)
                                              obtain ⟨rfl, rfl⟩ := ret_eq hF
                                              exact x_sub [1, 2, 3, 4, 5, 6, 7, 8, 9, 10, 11, 12, 13, 14, 15, 0] rfl kJ463
                                            · refine x_dconst1 (pc := 447) C dL_isSo_447 ?_
                                              refine x_goto (pc := 448) C 463 dL_isSo_448 rfl ?_
                                              obtain ⟨rfl, rfl⟩ := ret_eq hF
                                              exact x_sub [1, 2, 3, 4, 5, 6, 7, 8, 9, 10, 11, 12, 13, 14, 15, 0] rfl kJ463
set_option maxRecDepth 4000 in
theorem c_L_leaves (l : Launch) (G : xG) (b : Nat) (hl : l.stackTraces = false) (a2 : Int32) (a3 : Int32) {w w' : xWt} {v : Int32} (hF : F_L_leaves a2 a3 w = some (v, w')) : xMetX l G b yL_leaves cL_leaves 17 (some .boolean) (xRX 9 4 58) [.ref (b), .int (a2), .int (a3), .ref (ra b 10 0), .ref (ra b 10 1), .ref (ra b 10 2), .ref (ra b 10 3), .ref (ra b 10 4), .ref (ra b 10 5)] (CW G b w) (.inl (some (.int v))) (CW G b w') 4 58 := by
  refine x_ofX (own := RL) rfl pn_L (Nat.le_of_ble_eq_true rfl) ?_
  intro p e s m args below meth c ha C hr hX hout
  unfold F_L_leaves at hF
  refine x_iload_n (pc := 0) C 2 dL_leaves_0 rfl rfl ?_
  refine x_iconst (pc := 1) C 5 dL_leaves_1 ki_5 ?_
  refine cS1_2 (pc := 2) (val := Value.int) C hF (fun _ _ h => c_L_low l _ b _ _ h) sm_L_low wq485 rfl rfl ⟨Nat.le_of_ble_eq_true rfl, Nat.le_of_ble_eq_true rfl⟩ (Nat.le_of_ble_eq_true rfl) ⟨Nat.zero_le _, Nat.zero_le _⟩ dL_leaves_2 (fun x2 w1 hF => ?_)
  refine x_istore (pc := 5) C [(9, .int (x2)), (0, .ref (b)), (1, .int (a2)), (2, .int (a3)), (3, .ref (ra b 10 0)), (4, .ref (ra b 10 1)), (5, .ref (ra b 10 2)), (6, .ref (ra b 10 3)), (7, .ref (ra b 10 4)), (8, .ref (ra b 10 5))] dL_leaves_5 (by decide) rfl ?_
  refine x_iload_n (pc := 7) C 3 dL_leaves_7 rfl rfl ?_
  refine x_iconst (pc := 8) C 4 dL_leaves_8 ki_4 ?_
  refine x_ishr (pc := 9) C dL_leaves_9 ?_
  refine x_iload_n (pc := 10) C 3 dL_leaves_10 rfl rfl ?_
  refine x_iconst (pc := 11) C 3 dL_leaves_11 ki_3 ?_
  refine x_ishr (pc := 12) C dL_leaves_12 ?_
  refine x_iconst (pc := 13) C 1 dL_leaves_13 ki_1 ?_
  refine x_iand (pc := 14) C dL_leaves_14 ?_
  obtain ⟨o4, w3, hL, hF⟩ := bd_some hF
  refine x_join (P1 := CW G b w3) (pcJ := 24) (lvJ := [(0, .ref (b)), (1, .int (a2)), (2, .int (a3)), (3, .ref (ra b 10 0)), (4, .ref (ra b 10 1)), (5, .ref (ra b 10 2)), (6, .ref (ra b 10 3)), (7, .ref (ra b 10 4)), (8, .ref (ra b 10 5)), (9, .int (x2))]) (stJ := [.int (o4), .int ((a3 >>> (4 &&& 31)))]) 0 0 ?_ (fun kJ24 => ?_)
  · refine cS1_2 (pc := 24) (val := Value.int) C hF (fun _ _ h => c_L_low l _ b _ _ h) sm_L_low wq485 rfl rfl ⟨Nat.le_of_ble_eq_true rfl, Nat.le_of_ble_eq_true rfl⟩ (Nat.le_of_ble_eq_true rfl) ⟨Nat.zero_le _, Nat.zero_le _⟩ dL_leaves_24 (fun x7 w6 hF => ?_)
    refine x_istore (pc := 27) C [(10, .int (x7)), (0, .ref (b)), (1, .int (a2)), (2, .int (a3)), (3, .ref (ra b 10 0)), (4, .ref (ra b 10 1)), (5, .ref (ra b 10 2)), (6, .ref (ra b 10 3)), (7, .ref (ra b 10 4)), (8, .ref (ra b 10 5)), (9, .int (x2))] dL_leaves_27 (by decide) rfl ?_
    refine x_iload_n (pc := 29) C 3 dL_leaves_29 rfl rfl ?_
    refine x_bipush (pc := 30) C 9 dL_leaves_30 kb_9 ?_
    refine x_ishr (pc := 32) C dL_leaves_32 ?_
    refine x_bipush (pc := 33) C 10 dL_leaves_33 kb_10 ?_
    refine cS1_2 (pc := 35) (val := Value.int) C hF (fun _ _ h => c_L_low l _ b _ _ h) sm_L_low wq485 rfl rfl ⟨Nat.le_of_ble_eq_true rfl, Nat.le_of_ble_eq_true rfl⟩ (Nat.le_of_ble_eq_true rfl) ⟨Nat.zero_le _, Nat.zero_le _⟩ dL_leaves_35 (fun x9 w8 hF => ?_)
    refine x_istore (pc := 38) C [(11, .int (x9)), (10, .int (x7)), (0, .ref (b)), (1, .int (a2)), (2, .int (a3)), (3, .ref (ra b 10 0)), (4, .ref (ra b 10 1)), (5, .ref (ra b 10 2)), (6, .ref (ra b 10 3)), (7, .ref (ra b 10 4)), (8, .ref (ra b 10 5)), (9, .int (x2))] dL_leaves_38 (by decide) rfl ?_
    refine x_iload_n (pc := 40) C 3 dL_leaves_40 rfl rfl ?_
    refine x_bipush (pc := 41) C 7 dL_leaves_41 kb_7 ?_
    refine cS1_2 (pc := 43) (val := Value.int) C hF (fun _ _ h => c_L_low l _ b _ _ h) sm_L_low wq485 rfl rfl ⟨Nat.le_of_ble_eq_true rfl, Nat.le_of_ble_eq_true rfl⟩ (Nat.le_of_ble_eq_true rfl) ⟨Nat.zero_le _, Nat.zero_le _⟩ dL_leaves_43 (fun x11 w10 hF => ?_)
    refine x_istore (pc := 46) C [(12, .int (x11)), (11, .int (x9)), (10, .int (x7)), (0, .ref (b)), (1, .int (a2)), (2, .int (a3)), (3, .ref (ra b 10 0)), (4, .ref (ra b 10 1)), (5, .ref (ra b 10 2)), (6, .ref (ra b 10 3)), (7, .ref (ra b 10 4)), (8, .ref (ra b 10 5)), (9, .int (x2))] dL_leaves_46 (by decide) rfl ?_
    refine x_aload (pc := 48) C 10 dL_leaves_48 rfl ?_
    refine x_bipush (pc := 50) C 6 dL_leaves_50 kb_6 ?_
    refine x_iload (pc := 52) C 12 dL_leaves_52 rfl ?_
    refine x_imul (pc := 54) C dL_leaves_54 ?_
    refine w_ald (pc := 55) C (vA_m 4 (by decide)) hF dL_leaves_55 (fun x12 hF => ?_)
    refine x_iconst (pc := 56) C 1 dL_leaves_56 ki_1 ?_
    obtain ⟨o14, w13, hL, hF⟩ := bd_some hF
    refine x_join (P1 := CW G b w13) (pcJ := 65) (lvJ := [(0, .ref (b)), (1, .int (a2)), (2, .int (a3)), (3, .ref (ra b 10 0)), (4, .ref (ra b 10 1)), (5, .ref (ra b 10 2)), (6, .ref (ra b 10 3)), (7, .ref (ra b 10 4)), (8, .ref (ra b 10 5)), (9, .int (x2)), (10, .int (x7)), (11, .int (x9)), (12, .int (x11))]) (stJ := [.int (o14)]) 0 0 ?_ (fun kJ65 => ?_)
    · refine x_istore (pc := 65) C [(13, .int (o14)), (0, .ref (b)), (1, .int (a2)), (2, .int (a3)), (3, .ref (ra b 10 0)), (4, .ref (ra b 10 1)), (5, .ref (ra b 10 2)), (6, .ref (ra b 10 3)), (7, .ref (ra b 10 4)), (8, .ref (ra b 10 5)), (9, .int (x2)), (10, .int (x7)), (11, .int (x9)), (12, .int (x11))] dL_leaves_65 (by decide) rfl ?_
      refine x_iload (pc := 67) C 0 dL_leaves_67 rfl ?_
      obtain ⟨o17, w16, hL, hF⟩ := bd_some hF
      refine x_join (P1 := CW G b w16) (pcJ := 99) (lvJ := [(0, .ref (b)), (1, .int (a2)), (2, .int (a3)), (3, .ref (ra b 10 0)), (4, .ref (ra b 10 1)), (5, .ref (ra b 10 2)), (6, .ref (ra b 10 3)), (7, .ref (ra b 10 4)), (8, .ref (ra b 10 5)), (9, .int (x2)), (10, .int (x7)), (11, .int (x9)), (12, .int (x11)), (13, .int (o14))]) (stJ := [.int (o17)]) 0 0 ?_ (fun kJ99 => ?_)
      · refine x_istore (pc := 99) C [(14, .int (o17)), (0, .ref (b)), (1, .int (a2)), (2, .int (a3)), (3, .ref (ra b 10 0)), (4, .ref (ra b 10 1)), (5, .ref (ra b 10 2)), (6, .ref (ra b 10 3)), (7, .ref (ra b 10 4)), (8, .ref (ra b 10 5)), (9, .int (x2)), (10, .int (x7)), (11, .int (x9)), (12, .int (x11)), (13, .int (o14))] dL_leaves_99 (by decide) rfl ?_
        refine x_iload (pc := 101) C 13 dL_leaves_101 rfl ?_
        refine x_iconst (pc := 103) C 2 dL_leaves_103 ki_2 ?_
        refine x_icmp_ge (pc := 104) C 159 dL_leaves_104 rfl hF (fun c510 hF => ?_) (fun c510 hF => ?_)
        · refine x_iload (pc := 159) C 13 dL_leaves_159 rfl ?_
          refine x_iconst (pc := 161) C 3 dL_leaves_161 ki_3 ?_
          refine x_icmp_ge (pc := 162) C 214 dL_leaves_162 rfl hF (fun c260 hF => ?_) (fun c260 hF => ?_)
          · refine x_iload (pc := 214) C 13 dL_leaves_214 rfl ?_
            refine x_iconst (pc := 216) C 5 dL_leaves_216 ki_5 ?_
            refine x_icmp_ge (pc := 217) C 293 dL_leaves_217 rfl hF (fun c98 hF => ?_) (fun c98 hF => ?_)
            · refine x_iload (pc := 293) C 13 dL_leaves_293 rfl ?_
              refine x_iconst (pc := 295) C 5 dL_leaves_295 ki_5 ?_
              refine x_icmp_ne (pc := 296) C 418 dL_leaves_296 rfl hF (fun c85 hF => ?_) (fun c85 hF => ?_)
              · refine x_iload (pc := 418) C 14 dL_leaves_418 rfl ?_
                refine x_if_eq (pc := 420) C 436 dL_leaves_420 rfl hF (fun c43 hF => ?_) (fun c43 hF => ?_)
                · refine x_aload_n (pc := 436) C 1 dL_leaves_436 rfl rfl ?_
                  refine x_iload (pc := 437) C 10 dL_leaves_437 rfl ?_
                  refine cL1_2 (pc := 439) C hX hF (fun _ _ h => c_L_rake l _ b hl _ h) wq775 wq104 wq774 hd_L_rake wq773 rfl rfl ⟨Nat.le_of_ble_eq_true rfl, Nat.le_of_ble_eq_true rfl⟩ (Nat.le_of_ble_eq_true rfl) ⟨Nat.le_of_ble_eq_true rfl, Nat.le_of_ble_eq_true rfl⟩ dL_leaves_439 (fun x23 w24 hF => ?_)
                  refine x_iload (pc := 442) C 14 dL_leaves_442 rfl ?_
                  obtain ⟨o26, w25, hL, hF⟩ := bd_some hF
                  refine x_join (P1 := CW G b w25) (pcJ := 454) (lvJ := [(0, .ref (b)), (1, .int (a2)), (2, .int (a3)), (3, .ref (ra b 10 0)), (4, .ref (ra b 10 1)), (5, .ref (ra b 10 2)), (6, .ref (ra b 10 3)), (7, .ref (ra b 10 4)), (8, .ref (ra b 10 5)), (9, .int (x2)), (10, .int (x7)), (11, .int (x9)), (12, .int (x11)), (13, .int (o14)), (14, .int (o17))]) (stJ := [.int (o26), .int (x23)]) 1 6 ?_ (fun kJ454 => ?_)
                  · refine x_icmp_ne (pc := 454) C 461 dL_leaves_454 rfl hF (fun c28 hF => ?_) (fun c28 hF => ?_)
                    · exact none_ne hF
                    · refine x_iconst (pc := 457) C 1 dL_leaves_457 ki_1 ?_
                      refine x_goto (pc := 458) C 462 dL_leaves_458 rfl ?_
                      obtain ⟨rfl, rfl⟩ := ret_eq hF
                      refine xv_ret rfl (Nat.le_of_ble_eq_true rfl) (Nat.le_of_ble_eq_true rfl) ?_
                      exact x_zret (pc := 462) C rfl hr rfl (fun _ h => h) dL_leaves_462
                  · replace hF := hL
                    refine x_if_eq (pc := 444) C 452 dL_leaves_444 rfl hF (fun c27 hF => ?_) (fun c27 hF => ?_)
                    · refine x_bipush (pc := 452) C (-31) dL_leaves_452 kb_m31 ?_
                      obtain ⟨rfl, rfl⟩ := ret_eq hF
                      exact x_sub [1, 2, 3, 4, 5, 6, 7, 8, 9, 10, 11, 12, 13, 14, 0] rfl kJ454
                    · refine x_bipush (pc := 447) C (-33) dL_leaves_447 kb_m33 ?_
                      refine x_goto (pc := 449) C 454 dL_leaves_449 rfl ?_
                      obtain ⟨rfl, rfl⟩ := ret_eq hF
                      exact x_sub [1, 2, 3, 4, 5, 6, 7, 8, 9, 10, 11, 12, 13, 14, 0] rfl kJ454
                · refine x_iload (pc := 423) C 10 dL_leaves_423 rfl ?_
                  refine x_aload_n (pc := 425) C 4 dL_leaves_425 rfl rfl ?_
                  refine x_aload (pc := 426) C 6 dL_leaves_426 rfl ?_
                  refine x_aload (pc := 428) C 7 dL_leaves_428 rfl ?_
                  refine cS1_4 (pc := 430) (val := Value.int) C hF (fun _ _ h => c_L_heap l _ b _ h) sm_L_heap wq421 rfl rfl ⟨Nat.le_of_ble_eq_true rfl, Nat.le_of_ble_eq_true rfl⟩ (Nat.le_of_ble_eq_true rfl) ⟨Nat.zero_le _, Nat.zero_le _⟩ dL_leaves_430 (fun x30 w29 hF => ?_)
                  refine x_if_ne (pc := 433) C 463 dL_leaves_433 rfl hF (fun c42 hF => ?_) (fun c42 hF => ?_)
                  · refine x_iload (pc := 463) C 10 dL_leaves_463 rfl ?_
                    refine x_aload_n (pc := 465) C 4 dL_leaves_465 rfl rfl ?_
                    refine x_aload (pc := 466) C 6 dL_leaves_466 rfl ?_
                    refine x_aload (pc := 468) C 7 dL_leaves_468 rfl ?_
                    refine x_aload (pc := 470) C 8 dL_leaves_470 rfl ?_
                    refine x_aload (pc := 472) C 9 dL_leaves_472 rfl ?_
                    refine cS1_6 (pc := 474) (val := Value.int) C hF (fun _ _ h => c_L_raked l _ b _ h) sm_L_raked wq752 rfl rfl ⟨Nat.le_of_ble_eq_true rfl, Nat.le_of_ble_eq_true rfl⟩ (Nat.le_of_ble_eq_true rfl) ⟨Nat.zero_le _, Nat.zero_le _⟩ dL_leaves_474 (fun x32 w31 hF => ?_)
                    refine x_istore (pc := 477) C [(15, .int (x32)), (14, .int (o17)), (0, .ref (b)), (1, .int (a2)), (2, .int (a3)), (3, .ref (ra b 10 0)), (4, .ref (ra b 10 1)), (5, .ref (ra b 10 2)), (6, .ref (ra b 10 3)), (7, .ref (ra b 10 4)), (8, .ref (ra b 10 5)), (9, .int (x2)), (10, .int (x7)), (11, .int (x9)), (12, .int (x11)), (13, .int (o14))] dL_leaves_477 (by decide) rfl ?_
                    refine x_aload_n (pc := 479) C 2 dL_leaves_479 rfl rfl ?_
                    refine x_iload (pc := 480) C 11 dL_leaves_480 rfl ?_
                    refine cL1_2 (pc := 482) C hX hF (fun _ _ h => c_L_rake l _ b hl _ h) wq775 wq104 wq774 hd_L_rake wq773 rfl rfl ⟨Nat.le_of_ble_eq_true rfl, Nat.le_of_ble_eq_true rfl⟩ (Nat.le_of_ble_eq_true rfl) ⟨Nat.le_of_ble_eq_true rfl, Nat.le_of_ble_eq_true rfl⟩ dL_leaves_482 (fun x33 w34 hF => ?_)
                    refine x_iload (pc := 485) C 0 dL_leaves_485 rfl ?_
                    refine x_icmp_ne (pc := 487) C 494 dL_leaves_487 rfl hF (fun c35 hF => ?_) (fun c35 hF => ?_)
                    · exact none_ne hF
                    · refine x_iconst (pc := 490) C 1 dL_leaves_490 ki_1 ?_
                      refine x_goto (pc := 491) C 495 dL_leaves_491 rfl ?_
                      obtain ⟨rfl, rfl⟩ := ret_eq hF
                      refine xv_ret rfl (Nat.le_of_ble_eq_true rfl) (Nat.le_of_ble_eq_true rfl) ?_
                      exact x_zret (pc := 495) C rfl hr rfl (fun _ h => h) dL_leaves_495
                  · refine x_aload_n (pc := 436) C 1 dL_leaves_436 rfl rfl ?_
                    refine x_iload (pc := 437) C 10 dL_leaves_437 rfl ?_
                    refine cL1_2 (pc := 439) C hX hF (fun _ _ h => c_L_rake l _ b hl _ h) wq775 wq104 wq774 hd_L_rake wq773 rfl rfl ⟨Nat.le_of_ble_eq_true rfl, Nat.le_of_ble_eq_true rfl⟩ (Nat.le_of_ble_eq_true rfl) ⟨Nat.le_of_ble_eq_true rfl, Nat.le_of_ble_eq_true rfl⟩ dL_leaves_439 (fun x36 w37 hF => ?_)
                    refine x_iload (pc := 442) C 14 dL_leaves_442 rfl ?_
                    obtain ⟨o39, w38, hL, hF⟩ := bd_some hF
                    refine x_join (P1 := CW G b w38) (pcJ := 454) (lvJ := [(0, .ref (b)), (1, .int (a2)), (2, .int (a3)), (3, .ref (ra b 10 0)), (4, .ref (ra b 10 1)), (5, .ref (ra b 10 2)), (6, .ref (ra b 10 3)), (7, .ref (ra b 10 4)), (8, .ref (ra b 10 5)), (9, .int (x2)), (10, .int (x7)), (11, .int (x9)), (12, .int (x11)), (13, .int (o14)), (14, .int (o17))]) (stJ := [.int (o39), .int (x36)]) 1 6 ?_ (fun kJ454 => ?_)
                    · refine x_icmp_ne (pc := 454) C 461 dL_leaves_454 rfl hF (fun c41 hF => ?_) (fun c41 hF => ?_)
                      · exact none_ne hF
                      · refine x_iconst (pc := 457) C 1 dL_leaves_457 ki_1 ?_
                        refine x_goto (pc := 458) C 462 dL_leaves_458 rfl ?_
                        obtain ⟨rfl, rfl⟩ := ret_eq hF
                        refine xv_ret rfl (Nat.le_of_ble_eq_true rfl) (Nat.le_of_ble_eq_true rfl) ?_
                        exact x_zret (pc := 462) C rfl hr rfl (fun _ h => h) dL_leaves_462
                    · replace hF := hL
                      refine x_if_eq (pc := 444) C 452 dL_leaves_444 rfl hF (fun c40 hF => ?_) (fun c40 hF => ?_)
                      · refine x_bipush (pc := 452) C (-31) dL_leaves_452 kb_m31 ?_
                        obtain ⟨rfl, rfl⟩ := ret_eq hF
                        exact x_sub [1, 2, 3, 4, 5, 6, 7, 8, 9, 10, 11, 12, 13, 14, 0] rfl kJ454
                      · refine x_bipush (pc := 447) C (-33) dL_leaves_447 kb_m33 ?_
                        refine x_goto (pc := 449) C 454 dL_leaves_449 rfl ?_
                        obtain ⟨rfl, rfl⟩ := ret_eq hF
                        exact x_sub [1, 2, 3, 4, 5, 6, 7, 8, 9, 10, 11, 12, 13, 14, 0] rfl kJ454
              · refine x_aload_n (pc := 299) C 4 dL_leaves_299 rfl rfl ?_
                refine x_iconst (pc := 300) C 1 dL_leaves_300 ki_1 ?_
                refine w_ald (pc := 301) C (vA_m 0 (by decide)) hF dL_leaves_301 (fun x44 hF => ?_)
                refine x_bipush (pc := 302) C 40 dL_leaves_302 kb_40 ?_
                refine x_icmp_ge (pc := 304) C 418 dL_leaves_304 rfl hF (fun c84 hF => ?_) (fun c84 hF => ?_)
                · refine x_iload (pc := 418) C 14 dL_leaves_418 rfl ?_
                  refine x_if_eq (pc := 420) C 436 dL_leaves_420 rfl hF (fun c65 hF => ?_) (fun c65 hF => ?_)
                  · refine x_aload_n (pc := 436) C 1 dL_leaves_436 rfl rfl ?_
                    refine x_iload (pc := 437) C 10 dL_leaves_437 rfl ?_
                    refine cL1_2 (pc := 439) C hX hF (fun _ _ h => c_L_rake l _ b hl _ h) wq775 wq104 wq774 hd_L_rake wq773 rfl rfl ⟨Nat.le_of_ble_eq_true rfl, Nat.le_of_ble_eq_true rfl⟩ (Nat.le_of_ble_eq_true rfl) ⟨Nat.le_of_ble_eq_true rfl, Nat.le_of_ble_eq_true rfl⟩ dL_leaves_439 (fun x45 w46 hF => ?_)
                    refine x_iload (pc := 442) C 14 dL_leaves_442 rfl ?_
                    obtain ⟨o48, w47, hL, hF⟩ := bd_some hF
                    refine x_join (P1 := CW G b w47) (pcJ := 454) (lvJ := [(0, .ref (b)), (1, .int (a2)), (2, .int (a3)), (3, .ref (ra b 10 0)), (4, .ref (ra b 10 1)), (5, .ref (ra b 10 2)), (6, .ref (ra b 10 3)), (7, .ref (ra b 10 4)), (8, .ref (ra b 10 5)), (9, .int (x2)), (10, .int (x7)), (11, .int (x9)), (12, .int (x11)), (13, .int (o14)), (14, .int (o17))]) (stJ := [.int (o48), .int (x45)]) 1 6 ?_ (fun kJ454 => ?_)
                    · refine x_icmp_ne (pc := 454) C 461 dL_leaves_454 rfl hF (fun c50 hF => ?_) (fun c50 hF => ?_)
                      · exact none_ne hF
                      · refine x_iconst (pc := 457) C 1 dL_leaves_457 ki_1 ?_
                        refine x_goto (pc := 458) C 462 dL_leaves_458 rfl ?_
                        obtain ⟨rfl, rfl⟩ := ret_eq hF
                        refine xv_ret rfl (Nat.le_of_ble_eq_true rfl) (Nat.le_of_ble_eq_true rfl) ?_
                        exact x_zret (pc := 462) C rfl hr rfl (fun _ h => h) dL_leaves_462
                    · replace hF := hL
                      refine x_if_eq (pc := 444) C 452 dL_leaves_444 rfl hF (fun c49 hF => ?_) (fun c49 hF => ?_)
                      · refine x_bipush (pc := 452) C (-31) dL_leaves_452 kb_m31 ?_
                        obtain ⟨rfl, rfl⟩ := ret_eq hF
                        exact x_sub [1, 2, 3, 4, 5, 6, 7, 8, 9, 10, 11, 12, 13, 14, 0] rfl kJ454
                      · refine x_bipush (pc := 447) C (-33) dL_leaves_447 kb_m33 ?_
                        refine x_goto (pc := 449) C 454 dL_leaves_449 rfl ?_
                        obtain ⟨rfl, rfl⟩ := ret_eq hF
                        exact x_sub [1, 2, 3, 4, 5, 6, 7, 8, 9, 10, 11, 12, 13, 14, 0] rfl kJ454
                  · refine x_iload (pc := 423) C 10 dL_leaves_423 rfl ?_
                    refine x_aload_n (pc := 425) C 4 dL_leaves_425 rfl rfl ?_
                    refine x_aload (pc := 426) C 6 dL_leaves_426 rfl ?_
                    refine x_aload (pc := 428) C 7 dL_leaves_428 rfl ?_
                    refine cS1_4 (pc := 430) (val := Value.int) C hF (fun _ _ h => c_L_heap l _ b _ h) sm_L_heap wq421 rfl rfl ⟨Nat.le_of_ble_eq_true rfl, Nat.le_of_ble_eq_true rfl⟩ (Nat.le_of_ble_eq_true rfl) ⟨Nat.zero_le _, Nat.zero_le _⟩ dL_leaves_430 (fun x52 w51 hF => ?_)
                    refine x_if_ne (pc := 433) C 463 dL_leaves_433 rfl hF (fun c64 hF => ?_) (fun c64 hF => ?_)
                    · refine x_iload (pc := 463) C 10 dL_leaves_463 rfl ?_
                      refine x_aload_n (pc := 465) C 4 dL_leaves_465 rfl rfl ?_
                      refine x_aload (pc := 466) C 6 dL_leaves_466 rfl ?_
                      refine x_aload (pc := 468) C 7 dL_leaves_468 rfl ?_
                      refine x_aload (pc := 470) C 8 dL_leaves_470 rfl ?_
                      refine x_aload (pc := 472) C 9 dL_leaves_472 rfl ?_
                      refine cS1_6 (pc := 474) (val := Value.int) C hF (fun _ _ h => c_L_raked l _ b _ h) sm_L_raked wq752 rfl rfl ⟨Nat.le_of_ble_eq_true rfl, Nat.le_of_ble_eq_true rfl⟩ (Nat.le_of_ble_eq_true rfl) ⟨Nat.zero_le _, Nat.zero_le _⟩ dL_leaves_474 (fun x54 w53 hF => ?_)
                      refine x_istore (pc := 477) C [(15, .int (x54)), (14, .int (o17)), (0, .ref (b)), (1, .int (a2)), (2, .int (a3)), (3, .ref (ra b 10 0)), (4, .ref (ra b 10 1)), (5, .ref (ra b 10 2)), (6, .ref (ra b 10 3)), (7, .ref (ra b 10 4)), (8, .ref (ra b 10 5)), (9, .int (x2)), (10, .int (x7)), (11, .int (x9)), (12, .int (x11)), (13, .int (o14))] dL_leaves_477 (by decide) rfl ?_
                      refine x_aload_n (pc := 479) C 2 dL_leaves_479 rfl rfl ?_
                      refine x_iload (pc := 480) C 11 dL_leaves_480 rfl ?_
                      refine cL1_2 (pc := 482) C hX hF (fun _ _ h => c_L_rake l _ b hl _ h) wq775 wq104 wq774 hd_L_rake wq773 rfl rfl ⟨Nat.le_of_ble_eq_true rfl, Nat.le_of_ble_eq_true rfl⟩ (Nat.le_of_ble_eq_true rfl) ⟨Nat.le_of_ble_eq_true rfl, Nat.le_of_ble_eq_true rfl⟩ dL_leaves_482 (fun x55 w56 hF => ?_)
                      refine x_iload (pc := 485) C 0 dL_leaves_485 rfl ?_
                      refine x_icmp_ne (pc := 487) C 494 dL_leaves_487 rfl hF (fun c57 hF => ?_) (fun c57 hF => ?_)
                      · exact none_ne hF
                      · refine x_iconst (pc := 490) C 1 dL_leaves_490 ki_1 ?_
                        refine x_goto (pc := 491) C 495 dL_leaves_491 rfl ?_
                        obtain ⟨rfl, rfl⟩ := ret_eq hF
                        refine xv_ret rfl (Nat.le_of_ble_eq_true rfl) (Nat.le_of_ble_eq_true rfl) ?_
                        exact x_zret (pc := 495) C rfl hr rfl (fun _ h => h) dL_leaves_495
                    · refine x_aload_n (pc := 436) C 1 dL_leaves_436 rfl rfl ?_
                      refine x_iload (pc := 437) C 10 dL_leaves_437 rfl ?_
                      refine cL1_2 (pc := 439) C hX hF (fun _ _ h => c_L_rake l _ b hl _ h) wq775 wq104 wq774 hd_L_rake wq773 rfl rfl ⟨Nat.le_of_ble_eq_true rfl, Nat.le_of_ble_eq_true rfl⟩ (Nat.le_of_ble_eq_true rfl) ⟨Nat.le_of_ble_eq_true rfl, Nat.le_of_ble_eq_true rfl⟩ dL_leaves_439 (fun x58 w59 hF => ?_)
                      refine x_iload (pc := 442) C 14 dL_leaves_442 rfl ?_
                      obtain ⟨o61, w60, hL, hF⟩ := bd_some hF
                      refine x_join (P1 := CW G b w60) (pcJ := 454) (lvJ := [(0, .ref (b)), (1, .int (a2)), (2, .int (a3)), (3, .ref (ra b 10 0)), (4, .ref (ra b 10 1)), (5, .ref (ra b 10 2)), (6, .ref (ra b 10 3)), (7, .ref (ra b 10 4)), (8, .ref (ra b 10 5)), (9, .int (x2)), (10, .int (x7)), (11, .int (x9)), (12, .int (x11)), (13, .int (o14)), (14, .int (o17))]) (stJ := [.int (o61), .int (x58)]) 1 6 ?_ (fun kJ454 => ?_)
                      · refine x_icmp_ne (pc := 454) C 461 dL_leaves_454 rfl hF (fun c63 hF => ?_) (fun c63 hF => ?_)
                        · exact none_ne hF
                        · refine x_iconst (pc := 457) C 1 dL_leaves_457 ki_1 ?_
                          refine x_goto (pc := 458) C 462 dL_leaves_458 rfl ?_
                          obtain ⟨rfl, rfl⟩ := ret_eq hF
                          refine xv_ret rfl (Nat.le_of_ble_eq_true rfl) (Nat.le_of_ble_eq_true rfl) ?_
                          exact x_zret (pc := 462) C rfl hr rfl (fun _ h => h) dL_leaves_462
                      · replace hF := hL
                        refine x_if_eq (pc := 444) C 452 dL_leaves_444 rfl hF (fun c62 hF => ?_) (fun c62 hF => ?_)
                        · refine x_bipush (pc := 452) C (-31) dL_leaves_452 kb_m31 ?_
                          obtain ⟨rfl, rfl⟩ := ret_eq hF
                          exact x_sub [1, 2, 3, 4, 5, 6, 7, 8, 9, 10, 11, 12, 13, 14, 0] rfl kJ454
                        · refine x_bipush (pc := 447) C (-33) dL_leaves_447 kb_m33 ?_
                          refine x_goto (pc := 449) C 454 dL_leaves_449 rfl ?_
                          obtain ⟨rfl, rfl⟩ := ret_eq hF
                          exact x_sub [1, 2, 3, 4, 5, 6, 7, 8, 9, 10, 11, 12, 13, 14, 0] rfl kJ454
                · refine x_iload (pc := 307) C 0 dL_leaves_307 rfl ?_
                  refine x_if_ne (pc := 309) C 358 dL_leaves_309 rfl hF (fun c83 hF => ?_) (fun c83 hF => ?_)
                  · refine x_iload (pc := 358) C 10 dL_leaves_358 rfl ?_
                    refine x_iload (pc := 360) C 11 dL_leaves_360 rfl ?_
                    refine x_aload_n (pc := 362) C 4 dL_leaves_362 rfl rfl ?_
                    refine x_aload (pc := 363) C 5 dL_leaves_363 rfl ?_
                    refine x_aload (pc := 365) C 6 dL_leaves_365 rfl ?_
                    refine x_aload (pc := 367) C 7 dL_leaves_367 rfl ?_
                    refine x_aload (pc := 369) C 8 dL_leaves_369 rfl ?_
                    refine x_aload (pc := 371) C 9 dL_leaves_371 rfl ?_
                    refine cS1_8 (pc := 373) (val := Value.int) C hF (fun _ _ h => c_L_taken l _ b _ _ h) sm_L_taken wq749 rfl rfl ⟨Nat.le_of_ble_eq_true rfl, Nat.le_of_ble_eq_true rfl⟩ (Nat.le_of_ble_eq_true rfl) ⟨Nat.zero_le _, Nat.zero_le _⟩ dL_leaves_373 (fun x67 w66 hF => ?_)
                    refine x_istore (pc := 376) C [(15, .int (x67)), (14, .int (o17)), (0, .ref (b)), (1, .int (a2)), (2, .int (a3)), (3, .ref (ra b 10 0)), (4, .ref (ra b 10 1)), (5, .ref (ra b 10 2)), (6, .ref (ra b 10 3)), (7, .ref (ra b 10 4)), (8, .ref (ra b 10 5)), (9, .int (x2)), (10, .int (x7)), (11, .int (x9)), (12, .int (x11)), (13, .int (o14))] dL_leaves_376 (by decide) rfl ?_
                    refine x_iload (pc := 378) C 12 dL_leaves_378 rfl ?_
                    refine x_iload (pc := 380) C 13 dL_leaves_380 rfl ?_
                    refine x_aload_n (pc := 382) C 5 dL_leaves_382 rfl rfl ?_
                    refine x_aload (pc := 383) C 6 dL_leaves_383 rfl ?_
                    refine x_aload (pc := 385) C 7 dL_leaves_385 rfl ?_
                    refine cS1_5 (pc := 387) (val := Value.int) C hF (fun _ _ h => c_L_grown l _ b _ _ h) sm_L_grown wq713 rfl rfl ⟨Nat.le_of_ble_eq_true rfl, Nat.le_of_ble_eq_true rfl⟩ (Nat.le_of_ble_eq_true rfl) ⟨Nat.zero_le _, Nat.zero_le _⟩ dL_leaves_387 (fun x69 w68 hF => ?_)
                    refine x_istore (pc := 390) C [(16, .int (x69)), (15, .int (x67)), (14, .int (o17)), (0, .ref (b)), (1, .int (a2)), (2, .int (a3)), (3, .ref (ra b 10 0)), (4, .ref (ra b 10 1)), (5, .ref (ra b 10 2)), (6, .ref (ra b 10 3)), (7, .ref (ra b 10 4)), (8, .ref (ra b 10 5)), (9, .int (x2)), (10, .int (x7)), (11, .int (x9)), (12, .int (x11)), (13, .int (o14))] dL_leaves_390 (by decide) rfl ?_
                    refine x_iload (pc := 392) C 1 dL_leaves_392 rfl ?_
                    refine x_if_lt (pc := 394) C 416 dL_leaves_394 rfl hF (fun c73 hF => ?_) (fun c73 hF => ?_)
                    · exact none_ne hF
                    · refine x_aload_n (pc := 397) C 3 dL_leaves_397 rfl rfl ?_
                      refine x_iload (pc := 398) C 12 dL_leaves_398 rfl ?_
                      refine x_iload (pc := 400) C 13 dL_leaves_400 rfl ?_
                      refine x_iload (pc := 402) C 14 dL_leaves_402 rfl ?_
                      refine cL1_4 (pc := 404) C hX hF (fun _ _ h => c_L_swap l _ b hl _ _ _ h) wq757 wq104 wq756 hd_L_swap wq755 rfl rfl ⟨Nat.le_of_ble_eq_true rfl, Nat.le_of_ble_eq_true rfl⟩ (Nat.le_of_ble_eq_true rfl) ⟨Nat.le_of_ble_eq_true rfl, Nat.le_of_ble_eq_true rfl⟩ dL_leaves_404 (fun x70 w71 hF => ?_)
                      refine x_iload (pc := 407) C 0 dL_leaves_407 rfl ?_
                      refine x_icmp_ne (pc := 409) C 416 dL_leaves_409 rfl hF (fun c72 hF => ?_) (fun c72 hF => ?_)
                      · exact none_ne hF
                      · refine x_iconst (pc := 412) C 1 dL_leaves_412 ki_1 ?_
                        refine x_goto (pc := 413) C 417 dL_leaves_413 rfl ?_
                        obtain ⟨rfl, rfl⟩ := ret_eq hF
                        refine xv_ret rfl (Nat.le_of_ble_eq_true rfl) (Nat.le_of_ble_eq_true rfl) ?_
                        exact x_zret (pc := 417) C rfl hr rfl (fun _ h => h) dL_leaves_417
                  · refine x_aload_n (pc := 312) C 1 dL_leaves_312 rfl rfl ?_
                    refine x_iload (pc := 313) C 10 dL_leaves_313 rfl ?_
                    refine x_iload (pc := 315) C 11 dL_leaves_315 rfl ?_
                    refine x_iload (pc := 317) C 12 dL_leaves_317 rfl ?_
                    refine cL1_4 (pc := 319) C hX hF (fun _ _ h => c_L_swap l _ b hl _ _ _ h) wq757 wq104 wq756 hd_L_swap wq755 rfl rfl ⟨Nat.le_of_ble_eq_true rfl, Nat.le_of_ble_eq_true rfl⟩ (Nat.le_of_ble_eq_true rfl) ⟨Nat.le_of_ble_eq_true rfl, Nat.le_of_ble_eq_true rfl⟩ dL_leaves_319 (fun x74 w75 hF => ?_)
                    refine x_iload (pc := 322) C 14 dL_leaves_322 rfl ?_
                    obtain ⟨o77, w76, hL, hF⟩ := bd_some hF
                    refine x_join (P1 := CW G b w76) (pcJ := 334) (lvJ := [(0, .ref (b)), (1, .int (a2)), (2, .int (a3)), (3, .ref (ra b 10 0)), (4, .ref (ra b 10 1)), (5, .ref (ra b 10 2)), (6, .ref (ra b 10 3)), (7, .ref (ra b 10 4)), (8, .ref (ra b 10 5)), (9, .int (x2)), (10, .int (x7)), (11, .int (x9)), (12, .int (x11)), (13, .int (o14)), (14, .int (o17))]) (stJ := [.int (o77), .int (x74)]) 1 6 ?_ (fun kJ334 => ?_)
                    · refine x_icmp_ne (pc := 334) C 356 dL_leaves_334 rfl hF (fun c82 hF => ?_) (fun c82 hF => ?_)
                      · exact none_ne hF
                      · refine x_aload_n (pc := 337) C 0 dL_leaves_337 rfl rfl ?_
                        refine x_iload (pc := 338) C 9 dL_leaves_338 rfl ?_
                        refine x_bipush (pc := 340) C 12 dL_leaves_340 kb_12 ?_
                        refine x_iload (pc := 342) C 11 dL_leaves_342 rfl ?_
                        refine cL1_4 (pc := 344) C hX hF (fun _ _ h => c_L_swap l _ b hl _ _ _ h) wq757 wq104 wq756 hd_L_swap wq755 rfl rfl ⟨Nat.le_of_ble_eq_true rfl, Nat.le_of_ble_eq_true rfl⟩ (Nat.le_of_ble_eq_true rfl) ⟨Nat.le_of_ble_eq_true rfl, Nat.le_of_ble_eq_true rfl⟩ dL_leaves_344 (fun x79 w80 hF => ?_)
                        refine x_bipush (pc := 347) C (-31) dL_leaves_347 kb_m31 ?_
                        refine x_icmp_ne (pc := 349) C 356 dL_leaves_349 rfl hF (fun c81 hF => ?_) (fun c81 hF => ?_)
                        · exact none_ne hF
                        · refine x_iconst (pc := 352) C 1 dL_leaves_352 ki_1 ?_
                          refine x_goto (pc := 353) C 357 dL_leaves_353 rfl ?_
                          obtain ⟨rfl, rfl⟩ := ret_eq hF
                          refine xv_ret rfl (Nat.le_of_ble_eq_true rfl) (Nat.le_of_ble_eq_true rfl) ?_
                          exact x_zret (pc := 357) C rfl hr rfl (fun _ h => h) dL_leaves_357
                    · replace hF := hL
                      refine x_if_eq (pc := 324) C 332 dL_leaves_324 rfl hF (fun c78 hF => ?_) (fun c78 hF => ?_)
                      · refine x_bipush (pc := 332) C (-31) dL_leaves_332 kb_m31 ?_
                        obtain ⟨rfl, rfl⟩ := ret_eq hF
                        exact x_sub [1, 2, 3, 4, 5, 6, 7, 8, 9, 10, 11, 12, 13, 14, 0] rfl kJ334
                      · refine x_bipush (pc := 327) C (-33) dL_leaves_327 kb_m33 ?_
                        refine x_goto (pc := 329) C 334 dL_leaves_329 rfl ?_
                        obtain ⟨rfl, rfl⟩ := ret_eq hF
                        exact x_sub [1, 2, 3, 4, 5, 6, 7, 8, 9, 10, 11, 12, 13, 14, 0] rfl kJ334
            · refine x_iload (pc := 220) C 0 dL_leaves_220 rfl ?_
              refine x_if_ne (pc := 222) C 254 dL_leaves_222 rfl hF (fun c97 hF => ?_) (fun c97 hF => ?_)
              · refine x_iload (pc := 254) C 10 dL_leaves_254 rfl ?_
                refine x_iload (pc := 256) C 11 dL_leaves_256 rfl ?_
                refine x_aload_n (pc := 258) C 4 dL_leaves_258 rfl rfl ?_
                refine x_aload (pc := 259) C 5 dL_leaves_259 rfl ?_
                refine x_aload (pc := 261) C 6 dL_leaves_261 rfl ?_
                refine x_aload (pc := 263) C 7 dL_leaves_263 rfl ?_
                refine x_aload (pc := 265) C 8 dL_leaves_265 rfl ?_
                refine x_aload (pc := 267) C 9 dL_leaves_267 rfl ?_
                refine cS1_8 (pc := 269) (val := Value.int) C hF (fun _ _ h => c_L_taken l _ b _ _ h) sm_L_taken wq749 rfl rfl ⟨Nat.le_of_ble_eq_true rfl, Nat.le_of_ble_eq_true rfl⟩ (Nat.le_of_ble_eq_true rfl) ⟨Nat.zero_le _, Nat.zero_le _⟩ dL_leaves_269 (fun x87 w86 hF => ?_)
                refine x_istore (pc := 272) C [(15, .int (x87)), (14, .int (o17)), (0, .ref (b)), (1, .int (a2)), (2, .int (a3)), (3, .ref (ra b 10 0)), (4, .ref (ra b 10 1)), (5, .ref (ra b 10 2)), (6, .ref (ra b 10 3)), (7, .ref (ra b 10 4)), (8, .ref (ra b 10 5)), (9, .int (x2)), (10, .int (x7)), (11, .int (x9)), (12, .int (x11)), (13, .int (o14))] dL_leaves_272 (by decide) rfl ?_
                refine x_aload_n (pc := 274) C 2 dL_leaves_274 rfl rfl ?_
                refine x_iload (pc := 275) C 11 dL_leaves_275 rfl ?_
                refine x_iload (pc := 277) C 12 dL_leaves_277 rfl ?_
                refine cL1_3 (pc := 279) C hX hF (fun _ _ h => c_L_take l _ b hl _ _ h) wq718 wq104 wq717 hd_L_take wq716 rfl rfl ⟨Nat.le_of_ble_eq_true rfl, Nat.le_of_ble_eq_true rfl⟩ (Nat.le_of_ble_eq_true rfl) ⟨Nat.le_of_ble_eq_true rfl, Nat.le_of_ble_eq_true rfl⟩ dL_leaves_279 (fun x88 w89 hF => ?_)
                refine x_iload (pc := 282) C 0 dL_leaves_282 rfl ?_
                refine x_icmp_ne (pc := 284) C 291 dL_leaves_284 rfl hF (fun c90 hF => ?_) (fun c90 hF => ?_)
                · exact none_ne hF
                · refine x_iconst (pc := 287) C 1 dL_leaves_287 ki_1 ?_
                  refine x_goto (pc := 288) C 292 dL_leaves_288 rfl ?_
                  obtain ⟨rfl, rfl⟩ := ret_eq hF
                  refine xv_ret rfl (Nat.le_of_ble_eq_true rfl) (Nat.le_of_ble_eq_true rfl) ?_
                  exact x_zret (pc := 292) C rfl hr rfl (fun _ h => h) dL_leaves_292
              · refine x_aload_n (pc := 225) C 1 dL_leaves_225 rfl rfl ?_
                refine x_iload (pc := 226) C 10 dL_leaves_226 rfl ?_
                refine x_iload (pc := 228) C 11 dL_leaves_228 rfl ?_
                refine cL1_3 (pc := 230) C hX hF (fun _ _ h => c_L_take l _ b hl _ _ h) wq718 wq104 wq717 hd_L_take wq716 rfl rfl ⟨Nat.le_of_ble_eq_true rfl, Nat.le_of_ble_eq_true rfl⟩ (Nat.le_of_ble_eq_true rfl) ⟨Nat.le_of_ble_eq_true rfl, Nat.le_of_ble_eq_true rfl⟩ dL_leaves_230 (fun x91 w92 hF => ?_)
                refine x_iload (pc := 233) C 14 dL_leaves_233 rfl ?_
                obtain ⟨o94, w93, hL, hF⟩ := bd_some hF
                refine x_join (P1 := CW G b w93) (pcJ := 245) (lvJ := [(0, .ref (b)), (1, .int (a2)), (2, .int (a3)), (3, .ref (ra b 10 0)), (4, .ref (ra b 10 1)), (5, .ref (ra b 10 2)), (6, .ref (ra b 10 3)), (7, .ref (ra b 10 4)), (8, .ref (ra b 10 5)), (9, .int (x2)), (10, .int (x7)), (11, .int (x9)), (12, .int (x11)), (13, .int (o14)), (14, .int (o17))]) (stJ := [.int (o94), .int (x91)]) 1 6 ?_ (fun kJ245 => ?_)
                · refine x_icmp_ne (pc := 245) C 252 dL_leaves_245 rfl hF (fun c96 hF => ?_) (fun c96 hF => ?_)
                  · exact none_ne hF
                  · refine x_iconst (pc := 248) C 1 dL_leaves_248 ki_1 ?_
                    refine x_goto (pc := 249) C 253 dL_leaves_249 rfl ?_
                    obtain ⟨rfl, rfl⟩ := ret_eq hF
                    refine xv_ret rfl (Nat.le_of_ble_eq_true rfl) (Nat.le_of_ble_eq_true rfl) ?_
                    exact x_zret (pc := 253) C rfl hr rfl (fun _ h => h) dL_leaves_253
                · replace hF := hL
                  refine x_if_eq (pc := 235) C 243 dL_leaves_235 rfl hF (fun c95 hF => ?_) (fun c95 hF => ?_)
                  · refine x_bipush (pc := 243) C (-31) dL_leaves_243 kb_m31 ?_
                    obtain ⟨rfl, rfl⟩ := ret_eq hF
                    exact x_sub [1, 2, 3, 4, 5, 6, 7, 8, 9, 10, 11, 12, 13, 14, 0] rfl kJ245
                  · refine x_bipush (pc := 238) C (-33) dL_leaves_238 kb_m33 ?_
                    refine x_goto (pc := 240) C 245 dL_leaves_240 rfl ?_
                    obtain ⟨rfl, rfl⟩ := ret_eq hF
                    exact x_sub [1, 2, 3, 4, 5, 6, 7, 8, 9, 10, 11, 12, 13, 14, 0] rfl kJ245
          · refine x_aload (pc := 165) C 5 dL_leaves_165 rfl ?_
            refine x_iload (pc := 167) C 11 dL_leaves_167 rfl ?_
            refine w_ald (pc := 169) C (vA_m 1 (by decide)) hF dL_leaves_169 (fun x99 hF => ?_)
            refine x_if_ge (pc := 170) C 214 dL_leaves_170 rfl hF (fun c259 hF => ?_) (fun c259 hF => ?_)
            · refine x_iload (pc := 214) C 13 dL_leaves_214 rfl ?_
              refine x_iconst (pc := 216) C 5 dL_leaves_216 ki_5 ?_
              refine x_icmp_ge (pc := 217) C 293 dL_leaves_217 rfl hF (fun c175 hF => ?_) (fun c175 hF => ?_)
              · refine x_iload (pc := 293) C 13 dL_leaves_293 rfl ?_
                refine x_iconst (pc := 295) C 5 dL_leaves_295 ki_5 ?_
                refine x_icmp_ne (pc := 296) C 418 dL_leaves_296 rfl hF (fun c162 hF => ?_) (fun c162 hF => ?_)
                · refine x_iload (pc := 418) C 14 dL_leaves_418 rfl ?_
                  refine x_if_eq (pc := 420) C 436 dL_leaves_420 rfl hF (fun c120 hF => ?_) (fun c120 hF => ?_)
                  · refine x_aload_n (pc := 436) C 1 dL_leaves_436 rfl rfl ?_
                    refine x_iload (pc := 437) C 10 dL_leaves_437 rfl ?_
                    refine cL1_2 (pc := 439) C hX hF (fun _ _ h => c_L_rake l _ b hl _ h) wq775 wq104 wq774 hd_L_rake wq773 rfl rfl ⟨Nat.le_of_ble_eq_true rfl, Nat.le_of_ble_eq_true rfl⟩ (Nat.le_of_ble_eq_true rfl) ⟨Nat.le_of_ble_eq_true rfl, Nat.le_of_ble_eq_true rfl⟩ dL_leaves_439 (fun x100 w101 hF => ?_)
                    refine x_iload (pc := 442) C 14 dL_leaves_442 rfl ?_
                    obtain ⟨o103, w102, hL, hF⟩ := bd_some hF
                    refine x_join (P1 := CW G b w102) (pcJ := 454) (lvJ := [(0, .ref (b)), (1, .int (a2)), (2, .int (a3)), (3, .ref (ra b 10 0)), (4, .ref (ra b 10 1)), (5, .ref (ra b 10 2)), (6, .ref (ra b 10 3)), (7, .ref (ra b 10 4)), (8, .ref (ra b 10 5)), (9, .int (x2)), (10, .int (x7)), (11, .int (x9)), (12, .int (x11)), (13, .int (o14)), (14, .int (o17))]) (stJ := [.int (o103), .int (x100)]) 1 6 ?_ (fun kJ454 => ?_)
                    · refine x_icmp_ne (pc := 454) C 461 dL_leaves_454 rfl hF (fun c105 hF => ?_) (fun c105 hF => ?_)
                      · exact none_ne hF
                      · refine x_iconst (pc := 457) C 1 dL_leaves_457 ki_1 ?_
                        refine x_goto (pc := 458) C 462 dL_leaves_458 rfl ?_
                        obtain ⟨rfl, rfl⟩ := ret_eq hF
                        refine xv_ret rfl (Nat.le_of_ble_eq_true rfl) (Nat.le_of_ble_eq_true rfl) ?_
                        exact x_zret (pc := 462) C rfl hr rfl (fun _ h => h) dL_leaves_462
                    · replace hF := hL
                      refine x_if_eq (pc := 444) C 452 dL_leaves_444 rfl hF (fun c104 hF => ?_) (fun c104 hF => ?_)
                      · refine x_bipush (pc := 452) C (-31) dL_leaves_452 kb_m31 ?_
                        obtain ⟨rfl, rfl⟩ := ret_eq hF
                        exact x_sub [1, 2, 3, 4, 5, 6, 7, 8, 9, 10, 11, 12, 13, 14, 0] rfl kJ454
                      · refine x_bipush (pc := 447) C (-33) dL_leaves_447 kb_m33 ?_
                        refine x_goto (pc := 449) C 454 dL_leaves_449 rfl ?_
                        obtain ⟨rfl, rfl⟩ := ret_eq hF
                        exact x_sub [1, 2, 3, 4, 5, 6, 7, 8, 9, 10, 11, 12, 13, 14, 0] rfl kJ454
                  · refine x_iload (pc := 423) C 10 dL_leaves_423 rfl ?_
                    refine x_aload_n (pc := 425) C 4 dL_leaves_425 rfl rfl ?_
                    refine x_aload (pc := 426) C 6 dL_leaves_426 rfl ?_
                    refine x_aload (pc := 428) C 7 dL_leaves_428 rfl ?_
                    refine cS1_4 (pc := 430) (val := Value.int) C hF (fun _ _ h => c_L_heap l _ b _ h) sm_L_heap wq421 rfl rfl ⟨Nat.le_of_ble_eq_true rfl, Nat.le_of_ble_eq_true rfl⟩ (Nat.le_of_ble_eq_true rfl) ⟨Nat.zero_le _, Nat.zero_le _⟩ dL_leaves_430 (fun x107 w106 hF => ?_)
                    refine x_if_ne (pc := 433) C 463 dL_leaves_433 rfl hF (fun c119 hF => ?_) (fun c119 hF => ?_)
                    · refine x_iload (pc := 463) C 10 dL_leaves_463 rfl ?_
                      refine x_aload_n (pc := 465) C 4 dL_leaves_465 rfl rfl ?_
                      refine x_aload (pc := 466) C 6 dL_leaves_466 rfl ?_
                      refine x_aload (pc := 468) C 7 dL_leaves_468 rfl ?_
                      refine x_aload (pc := 470) C 8 dL_leaves_470 rfl ?_
                      refine x_aload (pc := 472) C 9 dL_leaves_472 rfl ?_
                      refine cS1_6 (pc := 474) (val := Value.int) C hF (fun _ _ h => c_L_raked l _ b _ h) sm_L_raked wq752 rfl rfl ⟨Nat.le_of_ble_eq_true rfl, Nat.le_of_ble_eq_true rfl⟩ (Nat.le_of_ble_eq_true rfl) ⟨Nat.zero_le _, Nat.zero_le _⟩ dL_leaves_474 (fun x109 w108 hF => ?_)
                      refine x_istore (pc := 477) C [(15, .int (x109)), (14, .int (o17)), (0, .ref (b)), (1, .int (a2)), (2, .int (a3)), (3, .ref (ra b 10 0)), (4, .ref (ra b 10 1)), (5, .ref (ra b 10 2)), (6, .ref (ra b 10 3)), (7, .ref (ra b 10 4)), (8, .ref (ra b 10 5)), (9, .int (x2)), (10, .int (x7)), (11, .int (x9)), (12, .int (x11)), (13, .int (o14))] dL_leaves_477 (by decide) rfl ?_
                      refine x_aload_n (pc := 479) C 2 dL_leaves_479 rfl rfl ?_
                      refine x_iload (pc := 480) C 11 dL_leaves_480 rfl ?_
                      refine cL1_2 (pc := 482) C hX hF (fun _ _ h => c_L_rake l _ b hl _ h) wq775 wq104 wq774 hd_L_rake wq773 rfl rfl ⟨Nat.le_of_ble_eq_true rfl, Nat.le_of_ble_eq_true rfl⟩ (Nat.le_of_ble_eq_true rfl) ⟨Nat.le_of_ble_eq_true rfl, Nat.le_of_ble_eq_true rfl⟩ dL_leaves_482 (fun x110 w111 hF => ?_)
                      refine x_iload (pc := 485) C 0 dL_leaves_485 rfl ?_
                      refine x_icmp_ne (pc := 487) C 494 dL_leaves_487 rfl hF (fun c112 hF => ?_) (fun c112 hF => ?_)
                      · exact none_ne hF
                      · refine x_iconst (pc := 490) C 1 dL_leaves_490 ki_1 ?_
                        refine x_goto (pc := 491) C 495 dL_leaves_491 rfl ?_
                        obtain ⟨rfl, rfl⟩ := ret_eq hF
                        refine xv_ret rfl (Nat.le_of_ble_eq_true rfl) (Nat.le_of_ble_eq_true rfl) ?_
                        exact x_zret (pc := 495) C rfl hr rfl (fun _ h => h) dL_leaves_495
                    · refine x_aload_n (pc := 436) C 1 dL_leaves_436 rfl rfl ?_
                      refine x_iload (pc := 437) C 10 dL_leaves_437 rfl ?_
                      refine cL1_2 (pc := 439) C hX hF (fun _ _ h => c_L_rake l _ b hl _ h) wq775 wq104 wq774 hd_L_rake wq773 rfl rfl ⟨Nat.le_of_ble_eq_true rfl, Nat.le_of_ble_eq_true rfl⟩ (Nat.le_of_ble_eq_true rfl) ⟨Nat.le_of_ble_eq_true rfl, Nat.le_of_ble_eq_true rfl⟩ dL_leaves_439 (fun x113 w114 hF => ?_)
                      refine x_iload (pc := 442) C 14 dL_leaves_442 rfl ?_
                      obtain ⟨o116, w115, hL, hF⟩ := bd_some hF
                      refine x_join (P1 := CW G b w115) (pcJ := 454) (lvJ := [(0, .ref (b)), (1, .int (a2)), (2, .int (a3)), (3, .ref (ra b 10 0)), (4, .ref (ra b 10 1)), (5, .ref (ra b 10 2)), (6, .ref (ra b 10 3)), (7, .ref (ra b 10 4)), (8, .ref (ra b 10 5)), (9, .int (x2)), (10, .int (x7)), (11, .int (x9)), (12, .int (x11)), (13, .int (o14)), (14, .int (o17))]) (stJ := [.int (o116), .int (x113)]) 1 6 ?_ (fun kJ454 => ?_)
                      · refine x_icmp_ne (pc := 454) C 461 dL_leaves_454 rfl hF (fun c118 hF => ?_) (fun c118 hF => ?_)
                        · exact none_ne hF
                        · refine x_iconst (pc := 457) C 1 dL_leaves_457 ki_1 ?_
                          refine x_goto (pc := 458) C 462 dL_leaves_458 rfl ?_
                          obtain ⟨rfl, rfl⟩ := ret_eq hF
                          refine xv_ret rfl (Nat.le_of_ble_eq_true rfl) (Nat.le_of_ble_eq_true rfl) ?_
                          exact x_zret (pc := 462) C rfl hr rfl (fun _ h => h) dL_leaves_462
                      · replace hF := hL
                        refine x_if_eq (pc := 444) C 452 dL_leaves_444 rfl hF (fun c117 hF => ?_) (fun c117 hF => ?_)
                        · refine x_bipush (pc := 452) C (-31) dL_leaves_452 kb_m31 ?_
                          obtain ⟨rfl, rfl⟩ := ret_eq hF
                          exact x_sub [1, 2, 3, 4, 5, 6, 7, 8, 9, 10, 11, 12, 13, 14, 0] rfl kJ454
                        · refine x_bipush (pc := 447) C (-33) dL_leaves_447 kb_m33 ?_
                          refine x_goto (pc := 449) C 454 dL_leaves_449 rfl ?_
                          obtain ⟨rfl, rfl⟩ := ret_eq hF
                          exact x_sub [1, 2, 3, 4, 5, 6, 7, 8, 9, 10, 11, 12, 13, 14, 0] rfl kJ454
                · refine x_aload_n (pc := 299) C 4 dL_leaves_299 rfl rfl ?_
                  refine x_iconst (pc := 300) C 1 dL_leaves_300 ki_1 ?_
                  refine w_ald (pc := 301) C (vA_m 0 (by decide)) hF dL_leaves_301 (fun x121 hF => ?_)
                  refine x_bipush (pc := 302) C 40 dL_leaves_302 kb_40 ?_
                  refine x_icmp_ge (pc := 304) C 418 dL_leaves_304 rfl hF (fun c161 hF => ?_) (fun c161 hF => ?_)
                  · refine x_iload (pc := 418) C 14 dL_leaves_418 rfl ?_
                    refine x_if_eq (pc := 420) C 436 dL_leaves_420 rfl hF (fun c142 hF => ?_) (fun c142 hF => ?_)
                    · refine x_aload_n (pc := 436) C 1 dL_leaves_436 rfl rfl ?_
                      refine x_iload (pc := 437) C 10 dL_leaves_437 rfl ?_
                      refine cL1_2 (pc := 439) C hX hF (fun _ _ h => c_L_rake l _ b hl _ h) wq775 wq104 wq774 hd_L_rake wq773 rfl rfl ⟨Nat.le_of_ble_eq_true rfl, Nat.le_of_ble_eq_true rfl⟩ (Nat.le_of_ble_eq_true rfl) ⟨Nat.le_of_ble_eq_true rfl, Nat.le_of_ble_eq_true rfl⟩ dL_leaves_439 (fun x122 w123 hF => ?_)
                      refine x_iload (pc := 442) C 14 dL_leaves_442 rfl ?_
                      obtain ⟨o125, w124, hL, hF⟩ := bd_some hF
                      refine x_join (P1 := CW G b w124) (pcJ := 454) (lvJ := [(0, .ref (b)), (1, .int (a2)), (2, .int (a3)), (3, .ref (ra b 10 0)), (4, .ref (ra b 10 1)), (5, .ref (ra b 10 2)), (6, .ref (ra b 10 3)), (7, .ref (ra b 10 4)), (8, .ref (ra b 10 5)), (9, .int (x2)), (10, .int (x7)), (11, .int (x9)), (12, .int (x11)), (13, .int (o14)), (14, .int (o17))]) (stJ := [.int (o125), .int (x122)]) 1 6 ?_ (fun kJ454 => ?_)
                      · refine x_icmp_ne (pc := 454) C 461 dL_leaves_454 rfl hF (fun c127 hF => ?_) (fun c127 hF => ?_)
                        · exact none_ne hF
                        · refine x_iconst (pc := 457) C 1 dL_leaves_457 ki_1 ?_
                          refine x_goto (pc := 458) C 462 dL_leaves_458 rfl ?_
                          obtain ⟨rfl, rfl⟩ := ret_eq hF
                          refine xv_ret rfl (Nat.le_of_ble_eq_true rfl) (Nat.le_of_ble_eq_true rfl) ?_
                          exact x_zret (pc := 462) C rfl hr rfl (fun _ h => h) dL_leaves_462
                      · replace hF := hL
                        refine x_if_eq (pc := 444) C 452 dL_leaves_444 rfl hF (fun c126 hF => ?_) (fun c126 hF => ?_)
                        · refine x_bipush (pc := 452) C (-31) dL_leaves_452 kb_m31 ?_
                          obtain ⟨rfl, rfl⟩ := ret_eq hF
                          exact x_sub [1, 2, 3, 4, 5, 6, 7, 8, 9, 10, 11, 12, 13, 14, 0] rfl kJ454
                        · refine x_bipush (pc := 447) C (-33) dL_leaves_447 kb_m33 ?_
                          refine x_goto (pc := 449) C 454 dL_leaves_449 rfl ?_
                          obtain ⟨rfl, rfl⟩ := ret_eq hF
                          exact x_sub [1, 2, 3, 4, 5, 6, 7, 8, 9, 10, 11, 12, 13, 14, 0] rfl kJ454
                    · refine x_iload (pc := 423) C 10 dL_leaves_423 rfl ?_
                      refine x_aload_n (pc := 425) C 4 dL_leaves_425 rfl rfl ?_
                      refine x_aload (pc := 426) C 6 dL_leaves_426 rfl ?_
                      refine x_aload (pc := 428) C 7 dL_leaves_428 rfl ?_
                      refine cS1_4 (pc := 430) (val := Value.int) C hF (fun _ _ h => c_L_heap l _ b _ h) sm_L_heap wq421 rfl rfl ⟨Nat.le_of_ble_eq_true rfl, Nat.le_of_ble_eq_true rfl⟩ (Nat.le_of_ble_eq_true rfl) ⟨Nat.zero_le _, Nat.zero_le _⟩ dL_leaves_430 (fun x129 w128 hF => ?_)
                      refine x_if_ne (pc := 433) C 463 dL_leaves_433 rfl hF (fun c141 hF => ?_) (fun c141 hF => ?_)
                      · refine x_iload (pc := 463) C 10 dL_leaves_463 rfl ?_
                        refine x_aload_n (pc := 465) C 4 dL_leaves_465 rfl rfl ?_
                        refine x_aload (pc := 466) C 6 dL_leaves_466 rfl ?_
                        refine x_aload (pc := 468) C 7 dL_leaves_468 rfl ?_
                        refine x_aload (pc := 470) C 8 dL_leaves_470 rfl ?_
                        refine x_aload (pc := 472) C 9 dL_leaves_472 rfl ?_
                        refine cS1_6 (pc := 474) (val := Value.int) C hF (fun _ _ h => c_L_raked l _ b _ h) sm_L_raked wq752 rfl rfl ⟨Nat.le_of_ble_eq_true rfl, Nat.le_of_ble_eq_true rfl⟩ (Nat.le_of_ble_eq_true rfl) ⟨Nat.zero_le _, Nat.zero_le _⟩ dL_leaves_474 (fun x131 w130 hF => ?_)
                        refine x_istore (pc := 477) C [(15, .int (x131)), (14, .int (o17)), (0, .ref (b)), (1, .int (a2)), (2, .int (a3)), (3, .ref (ra b 10 0)), (4, .ref (ra b 10 1)), (5, .ref (ra b 10 2)), (6, .ref (ra b 10 3)), (7, .ref (ra b 10 4)), (8, .ref (ra b 10 5)), (9, .int (x2)), (10, .int (x7)), (11, .int (x9)), (12, .int (x11)), (13, .int (o14))] dL_leaves_477 (by decide) rfl ?_
                        refine x_aload_n (pc := 479) C 2 dL_leaves_479 rfl rfl ?_
                        refine x_iload (pc := 480) C 11 dL_leaves_480 rfl ?_
                        refine cL1_2 (pc := 482) C hX hF (fun _ _ h => c_L_rake l _ b hl _ h) wq775 wq104 wq774 hd_L_rake wq773 rfl rfl ⟨Nat.le_of_ble_eq_true rfl, Nat.le_of_ble_eq_true rfl⟩ (Nat.le_of_ble_eq_true rfl) ⟨Nat.le_of_ble_eq_true rfl, Nat.le_of_ble_eq_true rfl⟩ dL_leaves_482 (fun x132 w133 hF => ?_)
                        refine x_iload (pc := 485) C 0 dL_leaves_485 rfl ?_
                        refine x_icmp_ne (pc := 487) C 494 dL_leaves_487 rfl hF (fun c134 hF => ?_) (fun c134 hF => ?_)
                        · exact none_ne hF
                        · refine x_iconst (pc := 490) C 1 dL_leaves_490 ki_1 ?_
                          refine x_goto (pc := 491) C 495 dL_leaves_491 rfl ?_
                          obtain ⟨rfl, rfl⟩ := ret_eq hF
                          refine xv_ret rfl (Nat.le_of_ble_eq_true rfl) (Nat.le_of_ble_eq_true rfl) ?_
                          exact x_zret (pc := 495) C rfl hr rfl (fun _ h => h) dL_leaves_495
                      · refine x_aload_n (pc := 436) C 1 dL_leaves_436 rfl rfl ?_
                        refine x_iload (pc := 437) C 10 dL_leaves_437 rfl ?_
                        refine cL1_2 (pc := 439) C hX hF (fun _ _ h => c_L_rake l _ b hl _ h) wq775 wq104 wq774 hd_L_rake wq773 rfl rfl ⟨Nat.le_of_ble_eq_true rfl, Nat.le_of_ble_eq_true rfl⟩ (Nat.le_of_ble_eq_true rfl) ⟨Nat.le_of_ble_eq_true rfl, Nat.le_of_ble_eq_true rfl⟩ dL_leaves_439 (fun x135 w136 hF => ?_)
                        refine x_iload (pc := 442) C 14 dL_leaves_442 rfl ?_
                        obtain ⟨o138, w137, hL, hF⟩ := bd_some hF
                        refine x_join (P1 := CW G b w137) (pcJ := 454) (lvJ := [(0, .ref (b)), (1, .int (a2)), (2, .int (a3)), (3, .ref (ra b 10 0)), (4, .ref (ra b 10 1)), (5, .ref (ra b 10 2)), (6, .ref (ra b 10 3)), (7, .ref (ra b 10 4)), (8, .ref (ra b 10 5)), (9, .int (x2)), (10, .int (x7)), (11, .int (x9)), (12, .int (x11)), (13, .int (o14)), (14, .int (o17))]) (stJ := [.int (o138), .int (x135)]) 1 6 ?_ (fun kJ454 => ?_)
                        · refine x_icmp_ne (pc := 454) C 461 dL_leaves_454 rfl hF (fun c140 hF => ?_) (fun c140 hF => ?_)
                          · exact none_ne hF
                          · refine x_iconst (pc := 457) C 1 dL_leaves_457 ki_1 ?_
                            refine x_goto (pc := 458) C 462 dL_leaves_458 rfl ?_
                            obtain ⟨rfl, rfl⟩ := ret_eq hF
                            refine xv_ret rfl (Nat.le_of_ble_eq_true rfl) (Nat.le_of_ble_eq_true rfl) ?_
                            exact x_zret (pc := 462) C rfl hr rfl (fun _ h => h) dL_leaves_462
                        · replace hF := hL
                          refine x_if_eq (pc := 444) C 452 dL_leaves_444 rfl hF (fun c139 hF => ?_) (fun c139 hF => ?_)
                          · refine x_bipush (pc := 452) C (-31) dL_leaves_452 kb_m31 ?_
                            obtain ⟨rfl, rfl⟩ := ret_eq hF
                            exact x_sub [1, 2, 3, 4, 5, 6, 7, 8, 9, 10, 11, 12, 13, 14, 0] rfl kJ454
                          · refine x_bipush (pc := 447) C (-33) dL_leaves_447 kb_m33 ?_
                            refine x_goto (pc := 449) C 454 dL_leaves_449 rfl ?_
                            obtain ⟨rfl, rfl⟩ := ret_eq hF
                            exact x_sub [1, 2, 3, 4, 5, 6, 7, 8, 9, 10, 11, 12, 13, 14, 0] rfl kJ454
                  · refine x_iload (pc := 307) C 0 dL_leaves_307 rfl ?_
                    refine x_if_ne (pc := 309) C 358 dL_leaves_309 rfl hF (fun c160 hF => ?_) (fun c160 hF => ?_)
                    · refine x_iload (pc := 358) C 10 dL_leaves_358 rfl ?_
                      refine x_iload (pc := 360) C 11 dL_leaves_360 rfl ?_
                      refine x_aload_n (pc := 362) C 4 dL_leaves_362 rfl rfl ?_
                      refine x_aload (pc := 363) C 5 dL_leaves_363 rfl ?_
                      refine x_aload (pc := 365) C 6 dL_leaves_365 rfl ?_
                      refine x_aload (pc := 367) C 7 dL_leaves_367 rfl ?_
                      refine x_aload (pc := 369) C 8 dL_leaves_369 rfl ?_
                      refine x_aload (pc := 371) C 9 dL_leaves_371 rfl ?_
                      refine cS1_8 (pc := 373) (val := Value.int) C hF (fun _ _ h => c_L_taken l _ b _ _ h) sm_L_taken wq749 rfl rfl ⟨Nat.le_of_ble_eq_true rfl, Nat.le_of_ble_eq_true rfl⟩ (Nat.le_of_ble_eq_true rfl) ⟨Nat.zero_le _, Nat.zero_le _⟩ dL_leaves_373 (fun x144 w143 hF => ?_)
                      refine x_istore (pc := 376) C [(15, .int (x144)), (14, .int (o17)), (0, .ref (b)), (1, .int (a2)), (2, .int (a3)), (3, .ref (ra b 10 0)), (4, .ref (ra b 10 1)), (5, .ref (ra b 10 2)), (6, .ref (ra b 10 3)), (7, .ref (ra b 10 4)), (8, .ref (ra b 10 5)), (9, .int (x2)), (10, .int (x7)), (11, .int (x9)), (12, .int (x11)), (13, .int (o14))] dL_leaves_376 (by decide) rfl ?_
                      refine x_iload (pc := 378) C 12 dL_leaves_378 rfl ?_
                      refine x_iload (pc := 380) C 13 dL_leaves_380 rfl ?_
                      refine x_aload_n (pc := 382) C 5 dL_leaves_382 rfl rfl ?_
                      refine x_aload (pc := 383) C 6 dL_leaves_383 rfl ?_
                      refine x_aload (pc := 385) C 7 dL_leaves_385 rfl ?_
                      refine cS1_5 (pc := 387) (val := Value.int) C hF (fun _ _ h => c_L_grown l _ b _ _ h) sm_L_grown wq713 rfl rfl ⟨Nat.le_of_ble_eq_true rfl, Nat.le_of_ble_eq_true rfl⟩ (Nat.le_of_ble_eq_true rfl) ⟨Nat.zero_le _, Nat.zero_le _⟩ dL_leaves_387 (fun x146 w145 hF => ?_)
                      refine x_istore (pc := 390) C [(16, .int (x146)), (15, .int (x144)), (14, .int (o17)), (0, .ref (b)), (1, .int (a2)), (2, .int (a3)), (3, .ref (ra b 10 0)), (4, .ref (ra b 10 1)), (5, .ref (ra b 10 2)), (6, .ref (ra b 10 3)), (7, .ref (ra b 10 4)), (8, .ref (ra b 10 5)), (9, .int (x2)), (10, .int (x7)), (11, .int (x9)), (12, .int (x11)), (13, .int (o14))] dL_leaves_390 (by decide) rfl ?_
                      refine x_iload (pc := 392) C 1 dL_leaves_392 rfl ?_
                      refine x_if_lt (pc := 394) C 416 dL_leaves_394 rfl hF (fun c150 hF => ?_) (fun c150 hF => ?_)
                      · exact none_ne hF
                      · refine x_aload_n (pc := 397) C 3 dL_leaves_397 rfl rfl ?_
                        refine x_iload (pc := 398) C 12 dL_leaves_398 rfl ?_
                        refine x_iload (pc := 400) C 13 dL_leaves_400 rfl ?_
                        refine x_iload (pc := 402) C 14 dL_leaves_402 rfl ?_
                        refine cL1_4 (pc := 404) C hX hF (fun _ _ h => c_L_swap l _ b hl _ _ _ h) wq757 wq104 wq756 hd_L_swap wq755 rfl rfl ⟨Nat.le_of_ble_eq_true rfl, Nat.le_of_ble_eq_true rfl⟩ (Nat.le_of_ble_eq_true rfl) ⟨Nat.le_of_ble_eq_true rfl, Nat.le_of_ble_eq_true rfl⟩ dL_leaves_404 (fun x147 w148 hF => ?_)
                        refine x_iload (pc := 407) C 0 dL_leaves_407 rfl ?_
                        refine x_icmp_ne (pc := 409) C 416 dL_leaves_409 rfl hF (fun c149 hF => ?_) (fun c149 hF => ?_)
                        · exact none_ne hF
                        · refine x_iconst (pc := 412) C 1 dL_leaves_412 ki_1 ?_
                          refine x_goto (pc := 413) C 417 dL_leaves_413 rfl ?_
                          obtain ⟨rfl, rfl⟩ := ret_eq hF
                          refine xv_ret rfl (Nat.le_of_ble_eq_true rfl) (Nat.le_of_ble_eq_true rfl) ?_
                          exact x_zret (pc := 417) C rfl hr rfl (fun _ h => h) dL_leaves_417
                    · refine x_aload_n (pc := 312) C 1 dL_leaves_312 rfl rfl ?_
                      refine x_iload (pc := 313) C 10 dL_leaves_313 rfl ?_
                      refine x_iload (pc := 315) C 11 dL_leaves_315 rfl ?_
                      refine x_iload (pc := 317) C 12 dL_leaves_317 rfl ?_
                      refine cL1_4 (pc := 319) C hX hF (fun _ _ h => c_L_swap l _ b hl _ _ _ h) wq757 wq104 wq756 hd_L_swap wq755 rfl rfl ⟨Nat.le_of_ble_eq_true rfl, Nat.le_of_ble_eq_true rfl⟩ (Nat.le_of_ble_eq_true rfl) ⟨Nat.le_of_ble_eq_true rfl, Nat.le_of_ble_eq_true rfl⟩ dL_leaves_319 (fun x151 w152 hF => ?_)
                      refine x_iload (pc := 322) C 14 dL_leaves_322 rfl ?_
                      obtain ⟨o154, w153, hL, hF⟩ := bd_some hF
                      refine x_join (P1 := CW G b w153) (pcJ := 334) (lvJ := [(0, .ref (b)), (1, .int (a2)), (2, .int (a3)), (3, .ref (ra b 10 0)), (4, .ref (ra b 10 1)), (5, .ref (ra b 10 2)), (6, .ref (ra b 10 3)), (7, .ref (ra b 10 4)), (8, .ref (ra b 10 5)), (9, .int (x2)), (10, .int (x7)), (11, .int (x9)), (12, .int (x11)), (13, .int (o14)), (14, .int (o17))]) (stJ := [.int (o154), .int (x151)]) 1 6 ?_ (fun kJ334 => ?_)
                      · refine x_icmp_ne (pc := 334) C 356 dL_leaves_334 rfl hF (fun c159 hF => ?_) (fun c159 hF => ?_)
                        · exact none_ne hF
                        · refine x_aload_n (pc := 337) C 0 dL_leaves_337 rfl rfl ?_
                          refine x_iload (pc := 338) C 9 dL_leaves_338 rfl ?_
                          refine x_bipush (pc := 340) C 12 dL_leaves_340 kb_12 ?_
                          refine x_iload (pc := 342) C 11 dL_leaves_342 rfl ?_
                          refine cL1_4 (pc := 344) C hX hF (fun _ _ h => c_L_swap l _ b hl _ _ _ h) wq757 wq104 wq756 hd_L_swap wq755 rfl rfl ⟨Nat.le_of_ble_eq_true rfl, Nat.le_of_ble_eq_true rfl⟩ (Nat.le_of_ble_eq_true rfl) ⟨Nat.le_of_ble_eq_true rfl, Nat.le_of_ble_eq_true rfl⟩ dL_leaves_344 (fun x156 w157 hF => ?_)
                          refine x_bipush (pc := 347) C (-31) dL_leaves_347 kb_m31 ?_
                          refine x_icmp_ne (pc := 349) C 356 dL_leaves_349 rfl hF (fun c158 hF => ?_) (fun c158 hF => ?_)
                          · exact none_ne hF
                          · refine x_iconst (pc := 352) C 1 dL_leaves_352 ki_1 ?_
                            refine x_goto (pc := 353) C 357 dL_leaves_353 rfl ?_
                            obtain ⟨rfl, rfl⟩ := ret_eq hF
                            refine xv_ret rfl (Nat.le_of_ble_eq_true rfl) (Nat.le_of_ble_eq_true rfl) ?_
                            exact x_zret (pc := 357) C rfl hr rfl (fun _ h => h) dL_leaves_357
                      · replace hF := hL
                        refine x_if_eq (pc := 324) C 332 dL_leaves_324 rfl hF (fun c155 hF => ?_) (fun c155 hF => ?_)
                        · refine x_bipush (pc := 332) C (-31) dL_leaves_332 kb_m31 ?_
                          obtain ⟨rfl, rfl⟩ := ret_eq hF
                          exact x_sub [1, 2, 3, 4, 5, 6, 7, 8, 9, 10, 11, 12, 13, 14, 0] rfl kJ334
                        · refine x_bipush (pc := 327) C (-33) dL_leaves_327 kb_m33 ?_
                          refine x_goto (pc := 329) C 334 dL_leaves_329 rfl ?_
                          obtain ⟨rfl, rfl⟩ := ret_eq hF
                          exact x_sub [1, 2, 3, 4, 5, 6, 7, 8, 9, 10, 11, 12, 13, 14, 0] rfl kJ334
              · refine x_iload (pc := 220) C 0 dL_leaves_220 rfl ?_
                refine x_if_ne (pc := 222) C 254 dL_leaves_222 rfl hF (fun c174 hF => ?_) (fun c174 hF => ?_)
                · refine x_iload (pc := 254) C 10 dL_leaves_254 rfl ?_
                  refine x_iload (pc := 256) C 11 dL_leaves_256 rfl ?_
                  refine x_aload_n (pc := 258) C 4 dL_leaves_258 rfl rfl ?_
                  refine x_aload (pc := 259) C 5 dL_leaves_259 rfl ?_
                  refine x_aload (pc := 261) C 6 dL_leaves_261 rfl ?_
                  refine x_aload (pc := 263) C 7 dL_leaves_263 rfl ?_
                  refine x_aload (pc := 265) C 8 dL_leaves_265 rfl ?_
                  refine x_aload (pc := 267) C 9 dL_leaves_267 rfl ?_
                  refine cS1_8 (pc := 269) (val := Value.int) C hF (fun _ _ h => c_L_taken l _ b _ _ h) sm_L_taken wq749 rfl rfl ⟨Nat.le_of_ble_eq_true rfl, Nat.le_of_ble_eq_true rfl⟩ (Nat.le_of_ble_eq_true rfl) ⟨Nat.zero_le _, Nat.zero_le _⟩ dL_leaves_269 (fun x164 w163 hF => ?_)
                  refine x_istore (pc := 272) C [(15, .int (x164)), (14, .int (o17)), (0, .ref (b)), (1, .int (a2)), (2, .int (a3)), (3, .ref (ra b 10 0)), (4, .ref (ra b 10 1)), (5, .ref (ra b 10 2)), (6, .ref (ra b 10 3)), (7, .ref (ra b 10 4)), (8, .ref (ra b 10 5)), (9, .int (x2)), (10, .int (x7)), (11, .int (x9)), (12, .int (x11)), (13, .int (o14))] dL_leaves_272 (by decide) rfl ?_
                  refine x_aload_n (pc := 274) C 2 dL_leaves_274 rfl rfl ?_
                  refine x_iload (pc := 275) C 11 dL_leaves_275 rfl ?_
                  refine x_iload (pc := 277) C 12 dL_leaves_277 rfl ?_
                  refine cL1_3 (pc := 279) C hX hF (fun _ _ h => c_L_take l _ b hl _ _ h) wq718 wq104 wq717 hd_L_take wq716 rfl rfl ⟨Nat.le_of_ble_eq_true rfl, Nat.le_of_ble_eq_true rfl⟩ (Nat.le_of_ble_eq_true rfl) ⟨Nat.le_of_ble_eq_true rfl, Nat.le_of_ble_eq_true rfl⟩ dL_leaves_279 (fun x165 w166 hF => ?_)
                  refine x_iload (pc := 282) C 0 dL_leaves_282 rfl ?_
                  refine x_icmp_ne (pc := 284) C 291 dL_leaves_284 rfl hF (fun c167 hF => ?_) (fun c167 hF => ?_)
                  · exact none_ne hF
                  · refine x_iconst (pc := 287) C 1 dL_leaves_287 ki_1 ?_
                    refine x_goto (pc := 288) C 292 dL_leaves_288 rfl ?_
                    obtain ⟨rfl, rfl⟩ := ret_eq hF
                    refine xv_ret rfl (Nat.le_of_ble_eq_true rfl) (Nat.le_of_ble_eq_true rfl) ?_
                    exact x_zret (pc := 292) C rfl hr rfl (fun _ h => h) dL_leaves_292
                · refine x_aload_n (pc := 225) C 1 dL_leaves_225 rfl rfl ?_
                  refine x_iload (pc := 226) C 10 dL_leaves_226 rfl ?_
                  refine x_iload (pc := 228) C 11 dL_leaves_228 rfl ?_
                  refine cL1_3 (pc := 230) C hX hF (fun _ _ h => c_L_take l _ b hl _ _ h) wq718 wq104 wq717 hd_L_take wq716 rfl rfl ⟨Nat.le_of_ble_eq_true rfl, Nat.le_of_ble_eq_true rfl⟩ (Nat.le_of_ble_eq_true rfl) ⟨Nat.le_of_ble_eq_true rfl, Nat.le_of_ble_eq_true rfl⟩ dL_leaves_230 (fun x168 w169 hF => ?_)
                  refine x_iload (pc := 233) C 14 dL_leaves_233 rfl ?_
                  obtain ⟨o171, w170, hL, hF⟩ := bd_some hF
                  refine x_join (P1 := CW G b w170) (pcJ := 245) (lvJ := [(0, .ref (b)), (1, .int (a2)), (2, .int (a3)), (3, .ref (ra b 10 0)), (4, .ref (ra b 10 1)), (5, .ref (ra b 10 2)), (6, .ref (ra b 10 3)), (7, .ref (ra b 10 4)), (8, .ref (ra b 10 5)), (9, .int (x2)), (10, .int (x7)), (11, .int (x9)), (12, .int (x11)), (13, .int (o14)), (14, .int (o17))]) (stJ := [.int (o171), .int (x168)]) 1 6 ?_ (fun kJ245 => ?_)
                  · refine x_icmp_ne (pc := 245) C 252 dL_leaves_245 rfl hF (fun c173 hF => ?_) (fun c173 hF => ?_)
                    · exact none_ne hF
                    · refine x_iconst (pc := 248) C 1 dL_leaves_248 ki_1 ?_
                      refine x_goto (pc := 249) C 253 dL_leaves_249 rfl ?_
                      obtain ⟨rfl, rfl⟩ := ret_eq hF
                      refine xv_ret rfl (Nat.le_of_ble_eq_true rfl) (Nat.le_of_ble_eq_true rfl) ?_
                      exact x_zret (pc := 253) C rfl hr rfl (fun _ h => h) dL_leaves_253
                  · replace hF := hL
                    refine x_if_eq (pc := 235) C 243 dL_leaves_235 rfl hF (fun c172 hF => ?_) (fun c172 hF => ?_)
                    · refine x_bipush (pc := 243) C (-31) dL_leaves_243 kb_m31 ?_
                      obtain ⟨rfl, rfl⟩ := ret_eq hF
                      exact x_sub [1, 2, 3, 4, 5, 6, 7, 8, 9, 10, 11, 12, 13, 14, 0] rfl kJ245
                    · refine x_bipush (pc := 238) C (-33) dL_leaves_238 kb_m33 ?_
                      refine x_goto (pc := 240) C 245 dL_leaves_240 rfl ?_
                      obtain ⟨rfl, rfl⟩ := ret_eq hF
                      exact x_sub [1, 2, 3, 4, 5, 6, 7, 8, 9, 10, 11, 12, 13, 14, 0] rfl kJ245
            · refine x_aload_n (pc := 173) C 4 dL_leaves_173 rfl rfl ?_
              refine x_iconst (pc := 174) C 1 dL_leaves_174 ki_1 ?_
              refine w_ald (pc := 175) C (vA_m 0 (by decide)) hF dL_leaves_175 (fun x176 hF => ?_)
              refine x_bipush (pc := 176) C 40 dL_leaves_176 kb_40 ?_
              refine x_icmp_ge (pc := 178) C 214 dL_leaves_178 rfl hF (fun c258 hF => ?_) (fun c258 hF => ?_)
              · refine x_iload (pc := 214) C 13 dL_leaves_214 rfl ?_
                refine x_iconst (pc := 216) C 5 dL_leaves_216 ki_5 ?_
                refine x_icmp_ge (pc := 217) C 293 dL_leaves_217 rfl hF (fun c252 hF => ?_) (fun c252 hF => ?_)
                · refine x_iload (pc := 293) C 13 dL_leaves_293 rfl ?_
                  refine x_iconst (pc := 295) C 5 dL_leaves_295 ki_5 ?_
                  refine x_icmp_ne (pc := 296) C 418 dL_leaves_296 rfl hF (fun c239 hF => ?_) (fun c239 hF => ?_)
                  · refine x_iload (pc := 418) C 14 dL_leaves_418 rfl ?_
                    refine x_if_eq (pc := 420) C 436 dL_leaves_420 rfl hF (fun c197 hF => ?_) (fun c197 hF => ?_)
                    · refine x_aload_n (pc := 436) C 1 dL_leaves_436 rfl rfl ?_
                      refine x_iload (pc := 437) C 10 dL_leaves_437 rfl ?_
                      refine cL1_2 (pc := 439) C hX hF (fun _ _ h => c_L_rake l _ b hl _ h) wq775 wq104 wq774 hd_L_rake wq773 rfl rfl ⟨Nat.le_of_ble_eq_true rfl, Nat.le_of_ble_eq_true rfl⟩ (Nat.le_of_ble_eq_true rfl) ⟨Nat.le_of_ble_eq_true rfl, Nat.le_of_ble_eq_true rfl⟩ dL_leaves_439 (fun x177 w178 hF => ?_)
                      refine x_iload (pc := 442) C 14 dL_leaves_442 rfl ?_
                      obtain ⟨o180, w179, hL, hF⟩ := bd_some hF
                      refine x_join (P1 := CW G b w179) (pcJ := 454) (lvJ := [(0, .ref (b)), (1, .int (a2)), (2, .int (a3)), (3, .ref (ra b 10 0)), (4, .ref (ra b 10 1)), (5, .ref (ra b 10 2)), (6, .ref (ra b 10 3)), (7, .ref (ra b 10 4)), (8, .ref (ra b 10 5)), (9, .int (x2)), (10, .int (x7)), (11, .int (x9)), (12, .int (x11)), (13, .int (o14)), (14, .int (o17))]) (stJ := [.int (o180), .int (x177)]) 1 6 ?_ (fun kJ454 => ?_)
                      · refine x_icmp_ne (pc := 454) C 461 dL_leaves_454 rfl hF (fun c182 hF => ?_) (fun c182 hF => ?_)
                        · exact none_ne hF
                        · refine x_iconst (pc := 457) C 1 dL_leaves_457 ki_1 ?_
                          refine x_goto (pc := 458) C 462 dL_leaves_458 rfl ?_
                          obtain ⟨rfl, rfl⟩ := ret_eq hF
                          refine xv_ret rfl (Nat.le_of_ble_eq_true rfl) (Nat.le_of_ble_eq_true rfl) ?_
                          exact x_zret (pc := 462) C rfl hr rfl (fun _ h => h) dL_leaves_462
                      · replace hF := hL
                        refine x_if_eq (pc := 444) C 452 dL_leaves_444 rfl hF (fun c181 hF => ?_) (fun c181 hF => ?_)
                        · refine x_bipush (pc := 452) C (-31) dL_leaves_452 kb_m31 ?_
                          obtain ⟨rfl, rfl⟩ := ret_eq hF
                          exact x_sub [1, 2, 3, 4, 5, 6, 7, 8, 9, 10, 11, 12, 13, 14, 0] rfl kJ454
                        · refine x_bipush (pc := 447) C (-33) dL_leaves_447 kb_m33 ?_
                          refine x_goto (pc := 449) C 454 dL_leaves_449 rfl ?_
                          obtain ⟨rfl, rfl⟩ := ret_eq hF
                          exact x_sub [1, 2, 3, 4, 5, 6, 7, 8, 9, 10, 11, 12, 13, 14, 0] rfl kJ454
                    · refine x_iload (pc := 423) C 10 dL_leaves_423 rfl ?_
                      refine x_aload_n (pc := 425) C 4 dL_leaves_425 rfl rfl ?_
                      refine x_aload (pc := 426) C 6 dL_leaves_426 rfl ?_
                      refine x_aload (pc := 428) C 7 dL_leaves_428 rfl ?_
                      refine cS1_4 (pc := 430) (val := Value.int) C hF (fun _ _ h => c_L_heap l _ b _ h) sm_L_heap wq421 rfl rfl ⟨Nat.le_of_ble_eq_true rfl, Nat.le_of_ble_eq_true rfl⟩ (Nat.le_of_ble_eq_true rfl) ⟨Nat.zero_le _, Nat.zero_le _⟩ dL_leaves_430 (fun x184 w183 hF => ?_)
                      refine x_if_ne (pc := 433) C 463 dL_leaves_433 rfl hF (fun c196 hF => ?_) (fun c196 hF => ?_)
                      · refine x_iload (pc := 463) C 10 dL_leaves_463 rfl ?_
                        refine x_aload_n (pc := 465) C 4 dL_leaves_465 rfl rfl ?_
                        refine x_aload (pc := 466) C 6 dL_leaves_466 rfl ?_
                        refine x_aload (pc := 468) C 7 dL_leaves_468 rfl ?_
                        refine x_aload (pc := 470) C 8 dL_leaves_470 rfl ?_
                        refine x_aload (pc := 472) C 9 dL_leaves_472 rfl ?_
                        refine cS1_6 (pc := 474) (val := Value.int) C hF (fun _ _ h => c_L_raked l _ b _ h) sm_L_raked wq752 rfl rfl ⟨Nat.le_of_ble_eq_true rfl, Nat.le_of_ble_eq_true rfl⟩ (Nat.le_of_ble_eq_true rfl) ⟨Nat.zero_le _, Nat.zero_le _⟩ dL_leaves_474 (fun x186 w185 hF => ?_)
                        refine x_istore (pc := 477) C [(15, .int (x186)), (14, .int (o17)), (0, .ref (b)), (1, .int (a2)), (2, .int (a3)), (3, .ref (ra b 10 0)), (4, .ref (ra b 10 1)), (5, .ref (ra b 10 2)), (6, .ref (ra b 10 3)), (7, .ref (ra b 10 4)), (8, .ref (ra b 10 5)), (9, .int (x2)), (10, .int (x7)), (11, .int (x9)), (12, .int (x11)), (13, .int (o14))] dL_leaves_477 (by decide) rfl ?_
                        refine x_aload_n (pc := 479) C 2 dL_leaves_479 rfl rfl ?_
                        refine x_iload (pc := 480) C 11 dL_leaves_480 rfl ?_
                        refine cL1_2 (pc := 482) C hX hF (fun _ _ h => c_L_rake l _ b hl _ h) wq775 wq104 wq774 hd_L_rake wq773 rfl rfl ⟨Nat.le_of_ble_eq_true rfl, Nat.le_of_ble_eq_true rfl⟩ (Nat.le_of_ble_eq_true rfl) ⟨Nat.le_of_ble_eq_true rfl, Nat.le_of_ble_eq_true rfl⟩ dL_leaves_482 (fun x187 w188 hF => ?_)
                        refine x_iload (pc := 485) C 0 dL_leaves_485 rfl ?_
                        refine x_icmp_ne (pc := 487) C 494 dL_leaves_487 rfl hF (fun c189 hF => ?_) (fun c189 hF => ?_)
                        · exact none_ne hF
                        · refine x_iconst (pc := 490) C 1 dL_leaves_490 ki_1 ?_
                          refine x_goto (pc := 491) C 495 dL_leaves_491 rfl ?_
                          obtain ⟨rfl, rfl⟩ := ret_eq hF
                          refine xv_ret rfl (Nat.le_of_ble_eq_true rfl) (Nat.le_of_ble_eq_true rfl) ?_
                          exact x_zret (pc := 495) C rfl hr rfl (fun _ h => h) dL_leaves_495
                      · refine x_aload_n (pc := 436) C 1 dL_leaves_436 rfl rfl ?_
                        refine x_iload (pc := 437) C 10 dL_leaves_437 rfl ?_
                        refine cL1_2 (pc := 439) C hX hF (fun _ _ h => c_L_rake l _ b hl _ h) wq775 wq104 wq774 hd_L_rake wq773 rfl rfl ⟨Nat.le_of_ble_eq_true rfl, Nat.le_of_ble_eq_true rfl⟩ (Nat.le_of_ble_eq_true rfl) ⟨Nat.le_of_ble_eq_true rfl, Nat.le_of_ble_eq_true rfl⟩ dL_leaves_439 (fun x190 w191 hF => ?_)
                        refine x_iload (pc := 442) C 14 dL_leaves_442 rfl ?_
                        obtain ⟨o193, w192, hL, hF⟩ := bd_some hF
                        refine x_join (P1 := CW G b w192) (pcJ := 454) (lvJ := [(0, .ref (b)), (1, .int (a2)), (2, .int (a3)), (3, .ref (ra b 10 0)), (4, .ref (ra b 10 1)), (5, .ref (ra b 10 2)), (6, .ref (ra b 10 3)), (7, .ref (ra b 10 4)), (8, .ref (ra b 10 5)), (9, .int (x2)), (10, .int (x7)), (11, .int (x9)), (12, .int (x11)), (13, .int (o14)), (14, .int (o17))]) (stJ := [.int (o193), .int (x190)]) 1 6 ?_ (fun kJ454 => ?_)
                        · refine x_icmp_ne (pc := 454) C 461 dL_leaves_454 rfl hF (fun c195 hF => ?_) (fun c195 hF => ?_)
                          · exact none_ne hF
                          · refine x_iconst (pc := 457) C 1 dL_leaves_457 ki_1 ?_
                            refine x_goto (pc := 458) C 462 dL_leaves_458 rfl ?_
                            obtain ⟨rfl, rfl⟩ := ret_eq hF
                            refine xv_ret rfl (Nat.le_of_ble_eq_true rfl) (Nat.le_of_ble_eq_true rfl) ?_
                            exact x_zret (pc := 462) C rfl hr rfl (fun _ h => h) dL_leaves_462
                        · replace hF := hL
                          refine x_if_eq (pc := 444) C 452 dL_leaves_444 rfl hF (fun c194 hF => ?_) (fun c194 hF => ?_)
                          · refine x_bipush (pc := 452) C (-31) dL_leaves_452 kb_m31 ?_
                            obtain ⟨rfl, rfl⟩ := ret_eq hF
                            exact x_sub [1, 2, 3, 4, 5, 6, 7, 8, 9, 10, 11, 12, 13, 14, 0] rfl kJ454
                          · refine x_bipush (pc := 447) C (-33) dL_leaves_447 kb_m33 ?_
                            refine x_goto (pc := 449) C 454 dL_leaves_449 rfl ?_
                            obtain ⟨rfl, rfl⟩ := ret_eq hF
                            exact x_sub [1, 2, 3, 4, 5, 6, 7, 8, 9, 10, 11, 12, 13, 14, 0] rfl kJ454
                  · refine x_aload_n (pc := 299) C 4 dL_leaves_299 rfl rfl ?_
                    refine x_iconst (pc := 300) C 1 dL_leaves_300 ki_1 ?_
                    refine w_ald (pc := 301) C (vA_m 0 (by decide)) hF dL_leaves_301 (fun x198 hF => ?_)
                    refine x_bipush (pc := 302) C 40 dL_leaves_302 kb_40 ?_
                    refine x_icmp_ge (pc := 304) C 418 dL_leaves_304 rfl hF (fun c238 hF => ?_) (fun c238 hF => ?_)
                    · refine x_iload (pc := 418) C 14 dL_leaves_418 rfl ?_
                      refine x_if_eq (pc := 420) C 436 dL_leaves_420 rfl hF (fun c219 hF => ?_) (fun c219 hF => ?_)
                      · refine x_aload_n (pc := 436) C 1 dL_leaves_436 rfl rfl ?_
                        refine x_iload (pc := 437) C 10 dL_leaves_437 rfl ?_
                        refine cL1_2 (pc := 439) C hX hF (fun _ _ h => c_L_rake l _ b hl _ h) wq775 wq104 wq774 hd_L_rake wq773 rfl rfl ⟨Nat.le_of_ble_eq_true rfl, Nat.le_of_ble_eq_true rfl⟩ (Nat.le_of_ble_eq_true rfl) ⟨Nat.le_of_ble_eq_true rfl, Nat.le_of_ble_eq_true rfl⟩ dL_leaves_439 (fun x199 w200 hF => ?_)
                        refine x_iload (pc := 442) C 14 dL_leaves_442 rfl ?_
                        obtain ⟨o202, w201, hL, hF⟩ := bd_some hF
                        refine x_join (P1 := CW G b w201) (pcJ := 454) (lvJ := [(0, .ref (b)), (1, .int (a2)), (2, .int (a3)), (3, .ref (ra b 10 0)), (4, .ref (ra b 10 1)), (5, .ref (ra b 10 2)), (6, .ref (ra b 10 3)), (7, .ref (ra b 10 4)), (8, .ref (ra b 10 5)), (9, .int (x2)), (10, .int (x7)), (11, .int (x9)), (12, .int (x11)), (13, .int (o14)), (14, .int (o17))]) (stJ := [.int (o202), .int (x199)]) 1 6 ?_ (fun kJ454 => ?_)
                        · refine x_icmp_ne (pc := 454) C 461 dL_leaves_454 rfl hF (fun c204 hF => ?_) (fun c204 hF => ?_)
                          · exact none_ne hF
                          · refine x_iconst (pc := 457) C 1 dL_leaves_457 ki_1 ?_
                            refine x_goto (pc := 458) C 462 dL_leaves_458 rfl ?_
                            obtain ⟨rfl, rfl⟩ := ret_eq hF
                            refine xv_ret rfl (Nat.le_of_ble_eq_true rfl) (Nat.le_of_ble_eq_true rfl) ?_
                            exact x_zret (pc := 462) C rfl hr rfl (fun _ h => h) dL_leaves_462
                        · replace hF := hL
                          refine x_if_eq (pc := 444) C 452 dL_leaves_444 rfl hF (fun c203 hF => ?_) (fun c203 hF => ?_)
                          · refine x_bipush (pc := 452) C (-31) dL_leaves_452 kb_m31 ?_
                            obtain ⟨rfl, rfl⟩ := ret_eq hF
                            exact x_sub [1, 2, 3, 4, 5, 6, 7, 8, 9, 10, 11, 12, 13, 14, 0] rfl kJ454
                          · refine x_bipush (pc := 447) C (-33) dL_leaves_447 kb_m33 ?_
                            refine x_goto (pc := 449) C 454 dL_leaves_449 rfl ?_
                            obtain ⟨rfl, rfl⟩ := ret_eq hF
                            exact x_sub [1, 2, 3, 4, 5, 6, 7, 8, 9, 10, 11, 12, 13, 14, 0] rfl kJ454
                      · refine x_iload (pc := 423) C 10 dL_leaves_423 rfl ?_
                        refine x_aload_n (pc := 425) C 4 dL_leaves_425 rfl rfl ?_
                        refine x_aload (pc := 426) C 6 dL_leaves_426 rfl ?_
                        refine x_aload (pc := 428) C 7 dL_leaves_428 rfl ?_
                        refine cS1_4 (pc := 430) (val := Value.int) C hF (fun _ _ h => c_L_heap l _ b _ h) sm_L_heap wq421 rfl rfl ⟨Nat.le_of_ble_eq_true rfl, Nat.le_of_ble_eq_true rfl⟩ (Nat.le_of_ble_eq_true rfl) ⟨Nat.zero_le _, Nat.zero_le _⟩ dL_leaves_430 (fun x206 w205 hF => ?_)
                        refine x_if_ne (pc := 433) C 463 dL_leaves_433 rfl hF (fun c218 hF => ?_) (fun c218 hF => ?_)
                        · refine x_iload (pc := 463) C 10 dL_leaves_463 rfl ?_
                          refine x_aload_n (pc := 465) C 4 dL_leaves_465 rfl rfl ?_
                          refine x_aload (pc := 466) C 6 dL_leaves_466 rfl ?_
                          refine x_aload (pc := 468) C 7 dL_leaves_468 rfl ?_
                          refine x_aload (pc := 470) C 8 dL_leaves_470 rfl ?_
                          refine x_aload (pc := 472) C 9 dL_leaves_472 rfl ?_
                          refine cS1_6 (pc := 474) (val := Value.int) C hF (fun _ _ h => c_L_raked l _ b _ h) sm_L_raked wq752 rfl rfl ⟨Nat.le_of_ble_eq_true rfl, Nat.le_of_ble_eq_true rfl⟩ (Nat.le_of_ble_eq_true rfl) ⟨Nat.zero_le _, Nat.zero_le _⟩ dL_leaves_474 (fun x208 w207 hF => ?_)
                          refine x_istore (pc := 477) C [(15, .int (x208)), (14, .int (o17)), (0, .ref (b)), (1, .int (a2)), (2, .int (a3)), (3, .ref (ra b 10 0)), (4, .ref (ra b 10 1)), (5, .ref (ra b 10 2)), (6, .ref (ra b 10 3)), (7, .ref (ra b 10 4)), (8, .ref (ra b 10 5)), (9, .int (x2)), (10, .int (x7)), (11, .int (x9)), (12, .int (x11)), (13, .int (o14))] dL_leaves_477 (by decide) rfl ?_
                          refine x_aload_n (pc := 479) C 2 dL_leaves_479 rfl rfl ?_
                          refine x_iload (pc := 480) C 11 dL_leaves_480 rfl ?_
                          refine cL1_2 (pc := 482) C hX hF (fun _ _ h => c_L_rake l _ b hl _ h) wq775 wq104 wq774 hd_L_rake wq773 rfl rfl ⟨Nat.le_of_ble_eq_true rfl, Nat.le_of_ble_eq_true rfl⟩ (Nat.le_of_ble_eq_true rfl) ⟨Nat.le_of_ble_eq_true rfl, Nat.le_of_ble_eq_true rfl⟩ dL_leaves_482 (fun x209 w210 hF => ?_)
                          refine x_iload (pc := 485) C 0 dL_leaves_485 rfl ?_
                          refine x_icmp_ne (pc := 487) C 494 dL_leaves_487 rfl hF (fun c211 hF => ?_) (fun c211 hF => ?_)
                          · exact none_ne hF
                          · refine x_iconst (pc := 490) C 1 dL_leaves_490 ki_1 ?_
                            refine x_goto (pc := 491) C 495 dL_leaves_491 rfl ?_
                            obtain ⟨rfl, rfl⟩ := ret_eq hF
                            refine xv_ret rfl (Nat.le_of_ble_eq_true rfl) (Nat.le_of_ble_eq_true rfl) ?_
                            exact x_zret (pc := 495) C rfl hr rfl (fun _ h => h) dL_leaves_495
                        · refine x_aload_n (pc := 436) C 1 dL_leaves_436 rfl rfl ?_
                          refine x_iload (pc := 437) C 10 dL_leaves_437 rfl ?_
                          refine cL1_2 (pc := 439) C hX hF (fun _ _ h => c_L_rake l _ b hl _ h) wq775 wq104 wq774 hd_L_rake wq773 rfl rfl ⟨Nat.le_of_ble_eq_true rfl, Nat.le_of_ble_eq_true rfl⟩ (Nat.le_of_ble_eq_true rfl) ⟨Nat.le_of_ble_eq_true rfl, Nat.le_of_ble_eq_true rfl⟩ dL_leaves_439 (fun x212 w213 hF => ?_)
                          refine x_iload (pc := 442) C 14 dL_leaves_442 rfl ?_
                          obtain ⟨o215, w214, hL, hF⟩ := bd_some hF
                          refine x_join (P1 := CW G b w214) (pcJ := 454) (lvJ := [(0, .ref (b)), (1, .int (a2)), (2, .int (a3)), (3, .ref (ra b 10 0)), (4, .ref (ra b 10 1)), (5, .ref (ra b 10 2)), (6, .ref (ra b 10 3)), (7, .ref (ra b 10 4)), (8, .ref (ra b 10 5)), (9, .int (x2)), (10, .int (x7)), (11, .int (x9)), (12, .int (x11)), (13, .int (o14)), (14, .int (o17))]) (stJ := [.int (o215), .int (x212)]) 1 6 ?_ (fun kJ454 => ?_)
                          · refine x_icmp_ne (pc := 454) C 461 dL_leaves_454 rfl hF (fun c217 hF => ?_) (fun c217 hF => ?_)
                            · exact none_ne hF
                            · refine x_iconst (pc := 457) C 1 dL_leaves_457 ki_1 ?_
                              refine x_goto (pc := 458) C 462 dL_leaves_458 rfl ?_
                              obtain ⟨rfl, rfl⟩ := ret_eq hF
                              refine xv_ret rfl (Nat.le_of_ble_eq_true rfl) (Nat.le_of_ble_eq_true rfl) ?_
                              exact x_zret (pc := 462) C rfl hr rfl (fun _ h => h) dL_leaves_462
                          · replace hF := hL
                            refine x_if_eq (pc := 444) C 452 dL_leaves_444 rfl hF (fun c216 hF => ?_) (fun c216 hF => ?_)
                            · refine x_bipush (pc := 452) C (-31) dL_leaves_452 kb_m31 ?_
                              obtain ⟨rfl, rfl⟩ := ret_eq hF
                              exact x_sub [1, 2, 3, 4, 5, 6, 7, 8, 9, 10, 11, 12, 13, 14, 0] rfl kJ454
                            · refine x_bipush (pc := 447) C (-33) dL_leaves_447 kb_m33 ?_
                              refine x_goto (pc := 449) C 454 dL_leaves_449 rfl ?_
                              obtain ⟨rfl, rfl⟩ := ret_eq hF
                              exact x_sub [1, 2, 3, 4, 5, 6, 7, 8, 9, 10, 11, 12, 13, 14, 0] rfl kJ454
                    · refine x_iload (pc := 307) C 0 dL_leaves_307 rfl ?_
                      refine x_if_ne (pc := 309) C 358 dL_leaves_309 rfl hF (fun c237 hF => ?_) (fun c237 hF => ?_)
                      · refine x_iload (pc := 358) C 10 dL_leaves_358 rfl ?_
                        refine x_iload (pc := 360) C 11 dL_leaves_360 rfl ?_
                        refine x_aload_n (pc := 362) C 4 dL_leaves_362 rfl rfl ?_
                        refine x_aload (pc := 363) C 5 dL_leaves_363 rfl ?_
                        refine x_aload (pc := 365) C 6 dL_leaves_365 rfl ?_
                        refine x_aload (pc := 367) C 7 dL_leaves_367 rfl ?_
                        refine x_aload (pc := 369) C 8 dL_leaves_369 rfl ?_
                        refine x_aload (pc := 371) C 9 dL_leaves_371 rfl ?_
                        refine cS1_8 (pc := 373) (val := Value.int) C hF (fun _ _ h => c_L_taken l _ b _ _ h) sm_L_taken wq749 rfl rfl ⟨Nat.le_of_ble_eq_true rfl, Nat.le_of_ble_eq_true rfl⟩ (Nat.le_of_ble_eq_true rfl) ⟨Nat.zero_le _, Nat.zero_le _⟩ dL_leaves_373 (fun x221 w220 hF => ?_)
                        refine x_istore (pc := 376) C [(15, .int (x221)), (14, .int (o17)), (0, .ref (b)), (1, .int (a2)), (2, .int (a3)), (3, .ref (ra b 10 0)), (4, .ref (ra b 10 1)), (5, .ref (ra b 10 2)), (6, .ref (ra b 10 3)), (7, .ref (ra b 10 4)), (8, .ref (ra b 10 5)), (9, .int (x2)), (10, .int (x7)), (11, .int (x9)), (12, .int (x11)), (13, .int (o14))] dL_leaves_376 (by decide) rfl ?_
                        refine x_iload (pc := 378) C 12 dL_leaves_378 rfl ?_
                        refine x_iload (pc := 380) C 13 dL_leaves_380 rfl ?_
                        refine x_aload_n (pc := 382) C 5 dL_leaves_382 rfl rfl ?_
                        refine x_aload (pc := 383) C 6 dL_leaves_383 rfl ?_
                        refine x_aload (pc := 385) C 7 dL_leaves_385 rfl ?_
                        refine cS1_5 (pc := 387) (val := Value.int) C hF (fun _ _ h => c_L_grown l _ b _ _ h) sm_L_grown wq713 rfl rfl ⟨Nat.le_of_ble_eq_true rfl, Nat.le_of_ble_eq_true rfl⟩ (Nat.le_of_ble_eq_true rfl) ⟨Nat.zero_le _, Nat.zero_le _⟩ dL_leaves_387 (fun x223 w222 hF => ?_)
                        refine x_istore (pc := 390) C [(16, .int (x223)), (15, .int (x221)), (14, .int (o17)), (0, .ref (b)), (1, .int (a2)), (2, .int (a3)), (3, .ref (ra b 10 0)), (4, .ref (ra b 10 1)), (5, .ref (ra b 10 2)), (6, .ref (ra b 10 3)), (7, .ref (ra b 10 4)), (8, .ref (ra b 10 5)), (9, .int (x2)), (10, .int (x7)), (11, .int (x9)), (12, .int (x11)), (13, .int (o14))] dL_leaves_390 (by decide) rfl ?_
                        refine x_iload (pc := 392) C 1 dL_leaves_392 rfl ?_
                        refine x_if_lt (pc := 394) C 416 dL_leaves_394 rfl hF (fun c227 hF => ?_) (fun c227 hF => ?_)
                        · exact none_ne hF
                        · refine x_aload_n (pc := 397) C 3 dL_leaves_397 rfl rfl ?_
                          refine x_iload (pc := 398) C 12 dL_leaves_398 rfl ?_
                          refine x_iload (pc := 400) C 13 dL_leaves_400 rfl ?_
                          refine x_iload (pc := 402) C 14 dL_leaves_402 rfl ?_
                          refine cL1_4 (pc := 404) C hX hF (fun _ _ h => c_L_swap l _ b hl _ _ _ h) wq757 wq104 wq756 hd_L_swap wq755 rfl rfl ⟨Nat.le_of_ble_eq_true rfl, Nat.le_of_ble_eq_true rfl⟩ (Nat.le_of_ble_eq_true rfl) ⟨Nat.le_of_ble_eq_true rfl, Nat.le_of_ble_eq_true rfl⟩ dL_leaves_404 (fun x224 w225 hF => ?_)
                          refine x_iload (pc := 407) C 0 dL_leaves_407 rfl ?_
                          refine x_icmp_ne (pc := 409) C 416 dL_leaves_409 rfl hF (fun c226 hF => ?_) (fun c226 hF => ?_)
                          · exact none_ne hF
                          · refine x_iconst (pc := 412) C 1 dL_leaves_412 ki_1 ?_
                            refine x_goto (pc := 413) C 417 dL_leaves_413 rfl ?_
                            obtain ⟨rfl, rfl⟩ := ret_eq hF
                            refine xv_ret rfl (Nat.le_of_ble_eq_true rfl) (Nat.le_of_ble_eq_true rfl) ?_
                            exact x_zret (pc := 417) C rfl hr rfl (fun _ h => h) dL_leaves_417
                      · refine x_aload_n (pc := 312) C 1 dL_leaves_312 rfl rfl ?_
                        refine x_iload (pc := 313) C 10 dL_leaves_313 rfl ?_
                        refine x_iload (pc := 315) C 11 dL_leaves_315 rfl ?_
                        refine x_iload (pc := 317) C 12 dL_leaves_317 rfl ?_
                        refine cL1_4 (pc := 319) C hX hF (fun _ _ h => c_L_swap l _ b hl _ _ _ h) wq757 wq104 wq756 hd_L_swap wq755 rfl rfl ⟨Nat.le_of_ble_eq_true rfl, Nat.le_of_ble_eq_true rfl⟩ (Nat.le_of_ble_eq_true rfl) ⟨Nat.le_of_ble_eq_true rfl, Nat.le_of_ble_eq_true rfl⟩ dL_leaves_319 (fun x228 w229 hF => ?_)
                        refine x_iload (pc := 322) C 14 dL_leaves_322 rfl ?_
                        obtain ⟨o231, w230, hL, hF⟩ := bd_some hF
                        refine x_join (P1 := CW G b w230) (pcJ := 334) (lvJ := [(0, .ref (b)), (1, .int (a2)), (2, .int (a3)), (3, .ref (ra b 10 0)), (4, .ref (ra b 10 1)), (5, .ref (ra b 10 2)), (6, .ref (ra b 10 3)), (7, .ref (ra b 10 4)), (8, .ref (ra b 10 5)), (9, .int (x2)), (10, .int (x7)), (11, .int (x9)), (12, .int (x11)), (13, .int (o14)), (14, .int (o17))]) (stJ := [.int (o231), .int (x228)]) 1 6 ?_ (fun kJ334 => ?_)
                        · refine x_icmp_ne (pc := 334) C 356 dL_leaves_334 rfl hF (fun c236 hF => ?_) (fun c236 hF => ?_)
                          · exact none_ne hF
                          · refine x_aload_n (pc := 337) C 0 dL_leaves_337 rfl rfl ?_
                            refine x_iload (pc := 338) C 9 dL_leaves_338 rfl ?_
                            refine x_bipush (pc := 340) C 12 dL_leaves_340 kb_12 ?_
                            refine x_iload (pc := 342) C 11 dL_leaves_342 rfl ?_
                            refine cL1_4 (pc := 344) C hX hF (fun _ _ h => c_L_swap l _ b hl _ _ _ h) wq757 wq104 wq756 hd_L_swap wq755 rfl rfl ⟨Nat.le_of_ble_eq_true rfl, Nat.le_of_ble_eq_true rfl⟩ (Nat.le_of_ble_eq_true rfl) ⟨Nat.le_of_ble_eq_true rfl, Nat.le_of_ble_eq_true rfl⟩ dL_leaves_344 (fun x233 w234 hF => ?_)
                            refine x_bipush (pc := 347) C (-31) dL_leaves_347 kb_m31 ?_
                            refine x_icmp_ne (pc := 349) C 356 dL_leaves_349 rfl hF (fun c235 hF => ?_) (fun c235 hF => ?_)
                            · exact none_ne hF
                            · refine x_iconst (pc := 352) C 1 dL_leaves_352 ki_1 ?_
                              refine x_goto (pc := 353) C 357 dL_leaves_353 rfl ?_
                              obtain ⟨rfl, rfl⟩ := ret_eq hF
                              refine xv_ret rfl (Nat.le_of_ble_eq_true rfl) (Nat.le_of_ble_eq_true rfl) ?_
                              exact x_zret (pc := 357) C rfl hr rfl (fun _ h => h) dL_leaves_357
                        · replace hF := hL
                          refine x_if_eq (pc := 324) C 332 dL_leaves_324 rfl hF (fun c232 hF => ?_) (fun c232 hF => ?_)
                          · refine x_bipush (pc := 332) C (-31) dL_leaves_332 kb_m31 ?_
                            obtain ⟨rfl, rfl⟩ := ret_eq hF
                            exact x_sub [1, 2, 3, 4, 5, 6, 7, 8, 9, 10, 11, 12, 13, 14, 0] rfl kJ334
                          · refine x_bipush (pc := 327) C (-33) dL_leaves_327 kb_m33 ?_
                            refine x_goto (pc := 329) C 334 dL_leaves_329 rfl ?_
                            obtain ⟨rfl, rfl⟩ := ret_eq hF
                            exact x_sub [1, 2, 3, 4, 5, 6, 7, 8, 9, 10, 11, 12, 13, 14, 0] rfl kJ334
                · refine x_iload (pc := 220) C 0 dL_leaves_220 rfl ?_
                  refine x_if_ne (pc := 222) C 254 dL_leaves_222 rfl hF (fun c251 hF => ?_) (fun c251 hF => ?_)
                  · refine x_iload (pc := 254) C 10 dL_leaves_254 rfl ?_
                    refine x_iload (pc := 256) C 11 dL_leaves_256 rfl ?_
                    refine x_aload_n (pc := 258) C 4 dL_leaves_258 rfl rfl ?_
                    refine x_aload (pc := 259) C 5 dL_leaves_259 rfl ?_
                    refine x_aload (pc := 261) C 6 dL_leaves_261 rfl ?_
                    refine x_aload (pc := 263) C 7 dL_leaves_263 rfl ?_
                    refine x_aload (pc := 265) C 8 dL_leaves_265 rfl ?_
                    refine x_aload (pc := 267) C 9 dL_leaves_267 rfl ?_
                    refine cS1_8 (pc := 269) (val := Value.int) C hF (fun _ _ h => c_L_taken l _ b _ _ h) sm_L_taken wq749 rfl rfl ⟨Nat.le_of_ble_eq_true rfl, Nat.le_of_ble_eq_true rfl⟩ (Nat.le_of_ble_eq_true rfl) ⟨Nat.zero_le _, Nat.zero_le _⟩ dL_leaves_269 (fun x241 w240 hF => ?_)
                    refine x_istore (pc := 272) C [(15, .int (x241)), (14, .int (o17)), (0, .ref (b)), (1, .int (a2)), (2, .int (a3)), (3, .ref (ra b 10 0)), (4, .ref (ra b 10 1)), (5, .ref (ra b 10 2)), (6, .ref (ra b 10 3)), (7, .ref (ra b 10 4)), (8, .ref (ra b 10 5)), (9, .int (x2)), (10, .int (x7)), (11, .int (x9)), (12, .int (x11)), (13, .int (o14))] dL_leaves_272 (by decide) rfl ?_
                    refine x_aload_n (pc := 274) C 2 dL_leaves_274 rfl rfl ?_
                    refine x_iload (pc := 275) C 11 dL_leaves_275 rfl ?_
                    refine x_iload (pc := 277) C 12 dL_leaves_277 rfl ?_
                    refine cL1_3 (pc := 279) C hX hF (fun _ _ h => c_L_take l _ b hl _ _ h) wq718 wq104 wq717 hd_L_take wq716 rfl rfl ⟨Nat.le_of_ble_eq_true rfl, Nat.le_of_ble_eq_true rfl⟩ (Nat.le_of_ble_eq_true rfl) ⟨Nat.le_of_ble_eq_true rfl, Nat.le_of_ble_eq_true rfl⟩ dL_leaves_279 (fun x242 w243 hF => ?_)
                    refine x_iload (pc := 282) C 0 dL_leaves_282 rfl ?_
                    refine x_icmp_ne (pc := 284) C 291 dL_leaves_284 rfl hF (fun c244 hF => ?_) (fun c244 hF => ?_)
                    · exact none_ne hF
                    · refine x_iconst (pc := 287) C 1 dL_leaves_287 ki_1 ?_
                      refine x_goto (pc := 288) C 292 dL_leaves_288 rfl ?_
                      obtain ⟨rfl, rfl⟩ := ret_eq hF
                      refine xv_ret rfl (Nat.le_of_ble_eq_true rfl) (Nat.le_of_ble_eq_true rfl) ?_
                      exact x_zret (pc := 292) C rfl hr rfl (fun _ h => h) dL_leaves_292
                  · refine x_aload_n (pc := 225) C 1 dL_leaves_225 rfl rfl ?_
                    refine x_iload (pc := 226) C 10 dL_leaves_226 rfl ?_
                    refine x_iload (pc := 228) C 11 dL_leaves_228 rfl ?_
                    refine cL1_3 (pc := 230) C hX hF (fun _ _ h => c_L_take l _ b hl _ _ h) wq718 wq104 wq717 hd_L_take wq716 rfl rfl ⟨Nat.le_of_ble_eq_true rfl, Nat.le_of_ble_eq_true rfl⟩ (Nat.le_of_ble_eq_true rfl) ⟨Nat.le_of_ble_eq_true rfl, Nat.le_of_ble_eq_true rfl⟩ dL_leaves_230 (fun x245 w246 hF => ?_)
                    refine x_iload (pc := 233) C 14 dL_leaves_233 rfl ?_
                    obtain ⟨o248, w247, hL, hF⟩ := bd_some hF
                    refine x_join (P1 := CW G b w247) (pcJ := 245) (lvJ := [(0, .ref (b)), (1, .int (a2)), (2, .int (a3)), (3, .ref (ra b 10 0)), (4, .ref (ra b 10 1)), (5, .ref (ra b 10 2)), (6, .ref (ra b 10 3)), (7, .ref (ra b 10 4)), (8, .ref (ra b 10 5)), (9, .int (x2)), (10, .int (x7)), (11, .int (x9)), (12, .int (x11)), (13, .int (o14)), (14, .int (o17))]) (stJ := [.int (o248), .int (x245)]) 1 6 ?_ (fun kJ245 => ?_)
                    · refine x_icmp_ne (pc := 245) C 252 dL_leaves_245 rfl hF (fun c250 hF => ?_) (fun c250 hF => ?_)
                      · exact none_ne hF
                      · refine x_iconst (pc := 248) C 1 dL_leaves_248 ki_1 ?_
                        refine x_goto (pc := 249) C 253 dL_leaves_249 rfl ?_
                        obtain ⟨rfl, rfl⟩ := ret_eq hF
                        refine xv_ret rfl (Nat.le_of_ble_eq_true rfl) (Nat.le_of_ble_eq_true rfl) ?_
                        exact x_zret (pc := 253) C rfl hr rfl (fun _ h => h) dL_leaves_253
                    · replace hF := hL
                      refine x_if_eq (pc := 235) C 243 dL_leaves_235 rfl hF (fun c249 hF => ?_) (fun c249 hF => ?_)
                      · refine x_bipush (pc := 243) C (-31) dL_leaves_243 kb_m31 ?_
                        obtain ⟨rfl, rfl⟩ := ret_eq hF
                        exact x_sub [1, 2, 3, 4, 5, 6, 7, 8, 9, 10, 11, 12, 13, 14, 0] rfl kJ245
                      · refine x_bipush (pc := 238) C (-33) dL_leaves_238 kb_m33 ?_
                        refine x_goto (pc := 240) C 245 dL_leaves_240 rfl ?_
                        obtain ⟨rfl, rfl⟩ := ret_eq hF
                        exact x_sub [1, 2, 3, 4, 5, 6, 7, 8, 9, 10, 11, 12, 13, 14, 0] rfl kJ245
              · refine x_iload (pc := 181) C 11 dL_leaves_181 rfl ?_
                refine x_iload (pc := 183) C 12 dL_leaves_183 rfl ?_
                refine x_aload_n (pc := 185) C 4 dL_leaves_185 rfl rfl ?_
                refine x_aload (pc := 186) C 5 dL_leaves_186 rfl ?_
                refine x_aload (pc := 188) C 6 dL_leaves_188 rfl ?_
                refine cS1_5 (pc := 190) (val := Value.int) C hF (fun _ _ h => c_L_grown l _ b _ _ h) sm_L_grown wq713 rfl rfl ⟨Nat.le_of_ble_eq_true rfl, Nat.le_of_ble_eq_true rfl⟩ (Nat.le_of_ble_eq_true rfl) ⟨Nat.zero_le _, Nat.zero_le _⟩ dL_leaves_190 (fun x254 w253 hF => ?_)
                refine x_istore (pc := 193) C [(15, .int (x254)), (14, .int (o17)), (0, .ref (b)), (1, .int (a2)), (2, .int (a3)), (3, .ref (ra b 10 0)), (4, .ref (ra b 10 1)), (5, .ref (ra b 10 2)), (6, .ref (ra b 10 3)), (7, .ref (ra b 10 4)), (8, .ref (ra b 10 5)), (9, .int (x2)), (10, .int (x7)), (11, .int (x9)), (12, .int (x11)), (13, .int (o14))] dL_leaves_193 (by decide) rfl ?_
                refine x_aload_n (pc := 195) C 2 dL_leaves_195 rfl rfl ?_
                refine x_iload (pc := 196) C 12 dL_leaves_196 rfl ?_
                refine x_iload (pc := 198) C 13 dL_leaves_198 rfl ?_
                refine cL1_3 (pc := 200) C hX hF (fun _ _ h => c_L_grow l _ b hl _ _ h) wq696 wq104 wq695 hd_L_grow wq694 rfl rfl ⟨Nat.le_of_ble_eq_true rfl, Nat.le_of_ble_eq_true rfl⟩ (Nat.le_of_ble_eq_true rfl) ⟨Nat.le_of_ble_eq_true rfl, Nat.le_of_ble_eq_true rfl⟩ dL_leaves_200 (fun x255 w256 hF => ?_)
                refine x_iload (pc := 203) C 0 dL_leaves_203 rfl ?_
                refine x_icmp_ne (pc := 205) C 212 dL_leaves_205 rfl hF (fun c257 hF => ?_) (fun c257 hF => ?_)
                · exact none_ne hF
                · refine x_iconst (pc := 208) C 1 dL_leaves_208 ki_1 ?_
                  refine x_goto (pc := 209) C 213 dL_leaves_209 rfl ?_
                  obtain ⟨rfl, rfl⟩ := ret_eq hF
                  refine xv_ret rfl (Nat.le_of_ble_eq_true rfl) (Nat.le_of_ble_eq_true rfl) ?_
                  exact x_zret (pc := 213) C rfl hr rfl (fun _ h => h) dL_leaves_213
        · refine x_aload (pc := 107) C 5 dL_leaves_107 rfl ?_
          refine x_iload (pc := 109) C 11 dL_leaves_109 rfl ?_
          refine w_ald (pc := 111) C (vA_m 1 (by decide)) hF dL_leaves_111 (fun x261 hF => ?_)
          refine x_if_lt (pc := 112) C 159 dL_leaves_112 rfl hF (fun c509 hF => ?_) (fun c509 hF => ?_)
          · refine x_iload (pc := 159) C 13 dL_leaves_159 rfl ?_
            refine x_iconst (pc := 161) C 3 dL_leaves_161 ki_3 ?_
            refine x_icmp_ge (pc := 162) C 214 dL_leaves_162 rfl hF (fun c499 hF => ?_) (fun c499 hF => ?_)
            · refine x_iload (pc := 214) C 13 dL_leaves_214 rfl ?_
              refine x_iconst (pc := 216) C 5 dL_leaves_216 ki_5 ?_
              refine x_icmp_ge (pc := 217) C 293 dL_leaves_217 rfl hF (fun c337 hF => ?_) (fun c337 hF => ?_)
              · refine x_iload (pc := 293) C 13 dL_leaves_293 rfl ?_
                refine x_iconst (pc := 295) C 5 dL_leaves_295 ki_5 ?_
                refine x_icmp_ne (pc := 296) C 418 dL_leaves_296 rfl hF (fun c324 hF => ?_) (fun c324 hF => ?_)
                · refine x_iload (pc := 418) C 14 dL_leaves_418 rfl ?_
                  refine x_if_eq (pc := 420) C 436 dL_leaves_420 rfl hF (fun c282 hF => ?_) (fun c282 hF => ?_)
                  · refine x_aload_n (pc := 436) C 1 dL_leaves_436 rfl rfl ?_
                    refine x_iload (pc := 437) C 10 dL_leaves_437 rfl ?_
                    refine cL1_2 (pc := 439) C hX hF (fun _ _ h => c_L_rake l _ b hl _ h) wq775 wq104 wq774 hd_L_rake wq773 rfl rfl ⟨Nat.le_of_ble_eq_true rfl, Nat.le_of_ble_eq_true rfl⟩ (Nat.le_of_ble_eq_true rfl) ⟨Nat.le_of_ble_eq_true rfl, Nat.le_of_ble_eq_true rfl⟩ dL_leaves_439 (fun x262 w263 hF => ?_)
                    refine x_iload (pc := 442) C 14 dL_leaves_442 rfl ?_
                    obtain ⟨o265, w264, hL, hF⟩ := bd_some hF
                    refine x_join (P1 := CW G b w264) (pcJ := 454) (lvJ := [(0, .ref (b)), (1, .int (a2)), (2, .int (a3)), (3, .ref (ra b 10 0)), (4, .ref (ra b 10 1)), (5, .ref (ra b 10 2)), (6, .ref (ra b 10 3)), (7, .ref (ra b 10 4)), (8, .ref (ra b 10 5)), (9, .int (x2)), (10, .int (x7)), (11, .int (x9)), (12, .int (x11)), (13, .int (o14)), (14, .int (o17))]) (stJ := [.int (o265), .int (x262)]) 1 6 ?_ (fun kJ454 => ?_)
                    · refine x_icmp_ne (pc := 454) C 461 dL_leaves_454 rfl hF (fun c267 hF => ?_) (fun c267 hF => ?_)
                      · exact none_ne hF
                      · refine x_iconst (pc := 457) C 1 dL_leaves_457 ki_1 ?_
                        refine x_goto (pc := 458) C 462 dL_leaves_458 rfl ?_
                        obtain ⟨rfl, rfl⟩ := ret_eq hF
                        refine xv_ret rfl (Nat.le_of_ble_eq_true rfl) (Nat.le_of_ble_eq_true rfl) ?_
                        exact x_zret (pc := 462) C rfl hr rfl (fun _ h => h) dL_leaves_462
                    · replace hF := hL
                      refine x_if_eq (pc := 444) C 452 dL_leaves_444 rfl hF (fun c266 hF => ?_) (fun c266 hF => ?_)
                      · refine x_bipush (pc := 452) C (-31) dL_leaves_452 kb_m31 ?_
                        obtain ⟨rfl, rfl⟩ := ret_eq hF
                        exact x_sub [1, 2, 3, 4, 5, 6, 7, 8, 9, 10, 11, 12, 13, 14, 0] rfl kJ454
                      · refine x_bipush (pc := 447) C (-33) dL_leaves_447 kb_m33 ?_
                        refine x_goto (pc := 449) C 454 dL_leaves_449 rfl ?_
                        obtain ⟨rfl, rfl⟩ := ret_eq hF
                        exact x_sub [1, 2, 3, 4, 5, 6, 7, 8, 9, 10, 11, 12, 13, 14, 0] rfl kJ454
                  · refine x_iload (pc := 423) C 10 dL_leaves_423 rfl ?_
                    refine x_aload_n (pc := 425) C 4 dL_leaves_425 rfl rfl ?_
                    refine x_aload (pc := 426) C 6 dL_leaves_426 rfl ?_
                    refine x_aload (pc := 428) C 7 dL_leaves_428 rfl ?_
                    refine cS1_4 (pc := 430) (val := Value.int) C hF (fun _ _ h => c_L_heap l _ b _ h) sm_L_heap wq421 rfl rfl ⟨Nat.le_of_ble_eq_true rfl, Nat.le_of_ble_eq_true rfl⟩ (Nat.le_of_ble_eq_true rfl) ⟨Nat.zero_le _, Nat.zero_le _⟩ dL_leaves_430 (fun x269 w268 hF => ?_)
                    refine x_if_ne (pc := 433) C 463 dL_leaves_433 rfl hF (fun c281 hF => ?_) (fun c281 hF => ?_)
                    · refine x_iload (pc := 463) C 10 dL_leaves_463 rfl ?_
                      refine x_aload_n (pc := 465) C 4 dL_leaves_465 rfl rfl ?_
                      refine x_aload (pc := 466) C 6 dL_leaves_466 rfl ?_
                      refine x_aload (pc := 468) C 7 dL_leaves_468 rfl ?_
                      refine x_aload (pc := 470) C 8 dL_leaves_470 rfl ?_
                      refine x_aload (pc := 472) C 9 dL_leaves_472 rfl ?_
                      refine cS1_6 (pc := 474) (val := Value.int) C hF (fun _ _ h => c_L_raked l _ b _ h) sm_L_raked wq752 rfl rfl ⟨Nat.le_of_ble_eq_true rfl, Nat.le_of_ble_eq_true rfl⟩ (Nat.le_of_ble_eq_true rfl) ⟨Nat.zero_le _, Nat.zero_le _⟩ dL_leaves_474 (fun x271 w270 hF => ?_)
                      refine x_istore (pc := 477) C [(15, .int (x271)), (14, .int (o17)), (0, .ref (b)), (1, .int (a2)), (2, .int (a3)), (3, .ref (ra b 10 0)), (4, .ref (ra b 10 1)), (5, .ref (ra b 10 2)), (6, .ref (ra b 10 3)), (7, .ref (ra b 10 4)), (8, .ref (ra b 10 5)), (9, .int (x2)), (10, .int (x7)), (11, .int (x9)), (12, .int (x11)), (13, .int (o14))] dL_leaves_477 (by decide) rfl ?_
                      refine x_aload_n (pc := 479) C 2 dL_leaves_479 rfl rfl ?_
                      refine x_iload (pc := 480) C 11 dL_leaves_480 rfl ?_
                      refine cL1_2 (pc := 482) C hX hF (fun _ _ h => c_L_rake l _ b hl _ h) wq775 wq104 wq774 hd_L_rake wq773 rfl rfl ⟨Nat.le_of_ble_eq_true rfl, Nat.le_of_ble_eq_true rfl⟩ (Nat.le_of_ble_eq_true rfl) ⟨Nat.le_of_ble_eq_true rfl, Nat.le_of_ble_eq_true rfl⟩ dL_leaves_482 (fun x272 w273 hF => ?_)
                      refine x_iload (pc := 485) C 0 dL_leaves_485 rfl ?_
                      refine x_icmp_ne (pc := 487) C 494 dL_leaves_487 rfl hF (fun c274 hF => ?_) (fun c274 hF => ?_)
                      · exact none_ne hF
                      · refine x_iconst (pc := 490) C 1 dL_leaves_490 ki_1 ?_
                        refine x_goto (pc := 491) C 495 dL_leaves_491 rfl ?_
                        obtain ⟨rfl, rfl⟩ := ret_eq hF
                        refine xv_ret rfl (Nat.le_of_ble_eq_true rfl) (Nat.le_of_ble_eq_true rfl) ?_
                        exact x_zret (pc := 495) C rfl hr rfl (fun _ h => h) dL_leaves_495
                    · refine x_aload_n (pc := 436) C 1 dL_leaves_436 rfl rfl ?_
                      refine x_iload (pc := 437) C 10 dL_leaves_437 rfl ?_
                      refine cL1_2 (pc := 439) C hX hF (fun _ _ h => c_L_rake l _ b hl _ h) wq775 wq104 wq774 hd_L_rake wq773 rfl rfl ⟨Nat.le_of_ble_eq_true rfl, Nat.le_of_ble_eq_true rfl⟩ (Nat.le_of_ble_eq_true rfl) ⟨Nat.le_of_ble_eq_true rfl, Nat.le_of_ble_eq_true rfl⟩ dL_leaves_439 (fun x275 w276 hF => ?_)
                      refine x_iload (pc := 442) C 14 dL_leaves_442 rfl ?_
                      obtain ⟨o278, w277, hL, hF⟩ := bd_some hF
                      refine x_join (P1 := CW G b w277) (pcJ := 454) (lvJ := [(0, .ref (b)), (1, .int (a2)), (2, .int (a3)), (3, .ref (ra b 10 0)), (4, .ref (ra b 10 1)), (5, .ref (ra b 10 2)), (6, .ref (ra b 10 3)), (7, .ref (ra b 10 4)), (8, .ref (ra b 10 5)), (9, .int (x2)), (10, .int (x7)), (11, .int (x9)), (12, .int (x11)), (13, .int (o14)), (14, .int (o17))]) (stJ := [.int (o278), .int (x275)]) 1 6 ?_ (fun kJ454 => ?_)
                      · refine x_icmp_ne (pc := 454) C 461 dL_leaves_454 rfl hF (fun c280 hF => ?_) (fun c280 hF => ?_)
                        · exact none_ne hF
                        · refine x_iconst (pc := 457) C 1 dL_leaves_457 ki_1 ?_
                          refine x_goto (pc := 458) C 462 dL_leaves_458 rfl ?_
                          obtain ⟨rfl, rfl⟩ := ret_eq hF
                          refine xv_ret rfl (Nat.le_of_ble_eq_true rfl) (Nat.le_of_ble_eq_true rfl) ?_
                          exact x_zret (pc := 462) C rfl hr rfl (fun _ h => h) dL_leaves_462
                      · replace hF := hL
                        refine x_if_eq (pc := 444) C 452 dL_leaves_444 rfl hF (fun c279 hF => ?_) (fun c279 hF => ?_)
                        · refine x_bipush (pc := 452) C (-31) dL_leaves_452 kb_m31 ?_
                          obtain ⟨rfl, rfl⟩ := ret_eq hF
                          exact x_sub [1, 2, 3, 4, 5, 6, 7, 8, 9, 10, 11, 12, 13, 14, 0] rfl kJ454
                        · refine x_bipush (pc := 447) C (-33) dL_leaves_447 kb_m33 ?_
                          refine x_goto (pc := 449) C 454 dL_leaves_449 rfl ?_
                          obtain ⟨rfl, rfl⟩ := ret_eq hF
                          exact x_sub [1, 2, 3, 4, 5, 6, 7, 8, 9, 10, 11, 12, 13, 14, 0] rfl kJ454
                · refine x_aload_n (pc := 299) C 4 dL_leaves_299 rfl rfl ?_
                  refine x_iconst (pc := 300) C 1 dL_leaves_300 ki_1 ?_
                  refine w_ald (pc := 301) C (vA_m 0 (by decide)) hF dL_leaves_301 (fun x283 hF => ?_)
                  refine x_bipush (pc := 302) C 40 dL_leaves_302 kb_40 ?_
                  refine x_icmp_ge (pc := 304) C 418 dL_leaves_304 rfl hF (fun c323 hF => ?_) (fun c323 hF => ?_)
                  · refine x_iload (pc := 418) C 14 dL_leaves_418 rfl ?_
                    refine x_if_eq (pc := 420) C 436 dL_leaves_420 rfl hF (fun c304 hF => ?_) (fun c304 hF => ?_)
                    · refine x_aload_n (pc := 436) C 1 dL_leaves_436 rfl rfl ?_
                      refine x_iload (pc := 437) C 10 dL_leaves_437 rfl ?_
                      refine cL1_2 (pc := 439) C hX hF (fun _ _ h => c_L_rake l _ b hl _ h) wq775 wq104 wq774 hd_L_rake wq773 rfl rfl ⟨Nat.le_of_ble_eq_true rfl, Nat.le_of_ble_eq_true rfl⟩ (Nat.le_of_ble_eq_true rfl) ⟨Nat.le_of_ble_eq_true rfl, Nat.le_of_ble_eq_true rfl⟩ dL_leaves_439 (fun x284 w285 hF => ?_)
                      refine x_iload (pc := 442) C 14 dL_leaves_442 rfl ?_
                      obtain ⟨o287, w286, hL, hF⟩ := bd_some hF
                      refine x_join (P1 := CW G b w286) (pcJ := 454) (lvJ := [(0, .ref (b)), (1, .int (a2)), (2, .int (a3)), (3, .ref (ra b 10 0)), (4, .ref (ra b 10 1)), (5, .ref (ra b 10 2)), (6, .ref (ra b 10 3)), (7, .ref (ra b 10 4)), (8, .ref (ra b 10 5)), (9, .int (x2)), (10, .int (x7)), (11, .int (x9)), (12, .int (x11)), (13, .int (o14)), (14, .int (o17))]) (stJ := [.int (o287), .int (x284)]) 1 6 ?_ (fun kJ454 => ?_)
                      · refine x_icmp_ne (pc := 454) C 461 dL_leaves_454 rfl hF (fun c289 hF => ?_) (fun c289 hF => ?_)
                        · exact none_ne hF
                        · refine x_iconst (pc := 457) C 1 dL_leaves_457 ki_1 ?_
                          refine x_goto (pc := 458) C 462 dL_leaves_458 rfl ?_
                          obtain ⟨rfl, rfl⟩ := ret_eq hF
                          refine xv_ret rfl (Nat.le_of_ble_eq_true rfl) (Nat.le_of_ble_eq_true rfl) ?_
                          exact x_zret (pc := 462) C rfl hr rfl (fun _ h => h) dL_leaves_462
                      · replace hF := hL
                        refine x_if_eq (pc := 444) C 452 dL_leaves_444 rfl hF (fun c288 hF => ?_) (fun c288 hF => ?_)
                        · refine x_bipush (pc := 452) C (-31) dL_leaves_452 kb_m31 ?_
                          obtain ⟨rfl, rfl⟩ := ret_eq hF
                          exact x_sub [1, 2, 3, 4, 5, 6, 7, 8, 9, 10, 11, 12, 13, 14, 0] rfl kJ454
                        · refine x_bipush (pc := 447) C (-33) dL_leaves_447 kb_m33 ?_
                          refine x_goto (pc := 449) C 454 dL_leaves_449 rfl ?_
                          obtain ⟨rfl, rfl⟩ := ret_eq hF
                          exact x_sub [1, 2, 3, 4, 5, 6, 7, 8, 9, 10, 11, 12, 13, 14, 0] rfl kJ454
                    · refine x_iload (pc := 423) C 10 dL_leaves_423 rfl ?_
                      refine x_aload_n (pc := 425) C 4 dL_leaves_425 rfl rfl ?_
                      refine x_aload (pc := 426) C 6 dL_leaves_426 rfl ?_
                      refine x_aload (pc := 428) C 7 dL_leaves_428 rfl ?_
                      refine cS1_4 (pc := 430) (val := Value.int) C hF (fun _ _ h => c_L_heap l _ b _ h) sm_L_heap wq421 rfl rfl ⟨Nat.le_of_ble_eq_true rfl, Nat.le_of_ble_eq_true rfl⟩ (Nat.le_of_ble_eq_true rfl) ⟨Nat.zero_le _, Nat.zero_le _⟩ dL_leaves_430 (fun x291 w290 hF => ?_)
                      refine x_if_ne (pc := 433) C 463 dL_leaves_433 rfl hF (fun c303 hF => ?_) (fun c303 hF => ?_)
                      · refine x_iload (pc := 463) C 10 dL_leaves_463 rfl ?_
                        refine x_aload_n (pc := 465) C 4 dL_leaves_465 rfl rfl ?_
                        refine x_aload (pc := 466) C 6 dL_leaves_466 rfl ?_
                        refine x_aload (pc := 468) C 7 dL_leaves_468 rfl ?_
                        refine x_aload (pc := 470) C 8 dL_leaves_470 rfl ?_
                        refine x_aload (pc := 472) C 9 dL_leaves_472 rfl ?_
                        refine cS1_6 (pc := 474) (val := Value.int) C hF (fun _ _ h => c_L_raked l _ b _ h) sm_L_raked wq752 rfl rfl ⟨Nat.le_of_ble_eq_true rfl, Nat.le_of_ble_eq_true rfl⟩ (Nat.le_of_ble_eq_true rfl) ⟨Nat.zero_le _, Nat.zero_le _⟩ dL_leaves_474 (fun x293 w292 hF => ?_)
                        refine x_istore (pc := 477) C [(15, .int (x293)), (14, .int (o17)), (0, .ref (b)), (1, .int (a2)), (2, .int (a3)), (3, .ref (ra b 10 0)), (4, .ref (ra b 10 1)), (5, .ref (ra b 10 2)), (6, .ref (ra b 10 3)), (7, .ref (ra b 10 4)), (8, .ref (ra b 10 5)), (9, .int (x2)), (10, .int (x7)), (11, .int (x9)), (12, .int (x11)), (13, .int (o14))] dL_leaves_477 (by decide) rfl ?_
                        refine x_aload_n (pc := 479) C 2 dL_leaves_479 rfl rfl ?_
                        refine x_iload (pc := 480) C 11 dL_leaves_480 rfl ?_
                        refine cL1_2 (pc := 482) C hX hF (fun _ _ h => c_L_rake l _ b hl _ h) wq775 wq104 wq774 hd_L_rake wq773 rfl rfl ⟨Nat.le_of_ble_eq_true rfl, Nat.le_of_ble_eq_true rfl⟩ (Nat.le_of_ble_eq_true rfl) ⟨Nat.le_of_ble_eq_true rfl, Nat.le_of_ble_eq_true rfl⟩ dL_leaves_482 (fun x294 w295 hF => ?_)
                        refine x_iload (pc := 485) C 0 dL_leaves_485 rfl ?_
                        refine x_icmp_ne (pc := 487) C 494 dL_leaves_487 rfl hF (fun c296 hF => ?_) (fun c296 hF => ?_)
                        · exact none_ne hF
                        · refine x_iconst (pc := 490) C 1 dL_leaves_490 ki_1 ?_
                          refine x_goto (pc := 491) C 495 dL_leaves_491 rfl ?_
                          obtain ⟨rfl, rfl⟩ := ret_eq hF
                          refine xv_ret rfl (Nat.le_of_ble_eq_true rfl) (Nat.le_of_ble_eq_true rfl) ?_
                          exact x_zret (pc := 495) C rfl hr rfl (fun _ h => h) dL_leaves_495
                      · refine x_aload_n (pc := 436) C 1 dL_leaves_436 rfl rfl ?_
                        refine x_iload (pc := 437) C 10 dL_leaves_437 rfl ?_
                        refine cL1_2 (pc := 439) C hX hF (fun _ _ h => c_L_rake l _ b hl _ h) wq775 wq104 wq774 hd_L_rake wq773 rfl rfl ⟨Nat.le_of_ble_eq_true rfl, Nat.le_of_ble_eq_true rfl⟩ (Nat.le_of_ble_eq_true rfl) ⟨Nat.le_of_ble_eq_true rfl, Nat.le_of_ble_eq_true rfl⟩ dL_leaves_439 (fun x297 w298 hF => ?_)
                        refine x_iload (pc := 442) C 14 dL_leaves_442 rfl ?_
                        obtain ⟨o300, w299, hL, hF⟩ := bd_some hF
                        refine x_join (P1 := CW G b w299) (pcJ := 454) (lvJ := [(0, .ref (b)), (1, .int (a2)), (2, .int (a3)), (3, .ref (ra b 10 0)), (4, .ref (ra b 10 1)), (5, .ref (ra b 10 2)), (6, .ref (ra b 10 3)), (7, .ref (ra b 10 4)), (8, .ref (ra b 10 5)), (9, .int (x2)), (10, .int (x7)), (11, .int (x9)), (12, .int (x11)), (13, .int (o14)), (14, .int (o17))]) (stJ := [.int (o300), .int (x297)]) 1 6 ?_ (fun kJ454 => ?_)
                        · refine x_icmp_ne (pc := 454) C 461 dL_leaves_454 rfl hF (fun c302 hF => ?_) (fun c302 hF => ?_)
                          · exact none_ne hF
                          · refine x_iconst (pc := 457) C 1 dL_leaves_457 ki_1 ?_
                            refine x_goto (pc := 458) C 462 dL_leaves_458 rfl ?_
                            obtain ⟨rfl, rfl⟩ := ret_eq hF
                            refine xv_ret rfl (Nat.le_of_ble_eq_true rfl) (Nat.le_of_ble_eq_true rfl) ?_
                            exact x_zret (pc := 462) C rfl hr rfl (fun _ h => h) dL_leaves_462
                        · replace hF := hL
                          refine x_if_eq (pc := 444) C 452 dL_leaves_444 rfl hF (fun c301 hF => ?_) (fun c301 hF => ?_)
                          · refine x_bipush (pc := 452) C (-31) dL_leaves_452 kb_m31 ?_
                            obtain ⟨rfl, rfl⟩ := ret_eq hF
                            exact x_sub [1, 2, 3, 4, 5, 6, 7, 8, 9, 10, 11, 12, 13, 14, 0] rfl kJ454
                          · refine x_bipush (pc := 447) C (-33) dL_leaves_447 kb_m33 ?_
                            refine x_goto (pc := 449) C 454 dL_leaves_449 rfl ?_
                            obtain ⟨rfl, rfl⟩ := ret_eq hF
                            exact x_sub [1, 2, 3, 4, 5, 6, 7, 8, 9, 10, 11, 12, 13, 14, 0] rfl kJ454
                  · refine x_iload (pc := 307) C 0 dL_leaves_307 rfl ?_
                    refine x_if_ne (pc := 309) C 358 dL_leaves_309 rfl hF (fun c322 hF => ?_) (fun c322 hF => ?_)
                    · refine x_iload (pc := 358) C 10 dL_leaves_358 rfl ?_
                      refine x_iload (pc := 360) C 11 dL_leaves_360 rfl ?_
                      refine x_aload_n (pc := 362) C 4 dL_leaves_362 rfl rfl ?_
                      refine x_aload (pc := 363) C 5 dL_leaves_363 rfl ?_
                      refine x_aload (pc := 365) C 6 dL_leaves_365 rfl ?_
                      refine x_aload (pc := 367) C 7 dL_leaves_367 rfl ?_
                      refine x_aload (pc := 369) C 8 dL_leaves_369 rfl ?_
                      refine x_aload (pc := 371) C 9 dL_leaves_371 rfl ?_
                      refine cS1_8 (pc := 373) (val := Value.int) C hF (fun _ _ h => c_L_taken l _ b _ _ h) sm_L_taken wq749 rfl rfl ⟨Nat.le_of_ble_eq_true rfl, Nat.le_of_ble_eq_true rfl⟩ (Nat.le_of_ble_eq_true rfl) ⟨Nat.zero_le _, Nat.zero_le _⟩ dL_leaves_373 (fun x306 w305 hF => ?_)
                      refine x_istore (pc := 376) C [(15, .int (x306)), (14, .int (o17)), (0, .ref (b)), (1, .int (a2)), (2, .int (a3)), (3, .ref (ra b 10 0)), (4, .ref (ra b 10 1)), (5, .ref (ra b 10 2)), (6, .ref (ra b 10 3)), (7, .ref (ra b 10 4)), (8, .ref (ra b 10 5)), (9, .int (x2)), (10, .int (x7)), (11, .int (x9)), (12, .int (x11)), (13, .int (o14))] dL_leaves_376 (by decide) rfl ?_
                      refine x_iload (pc := 378) C 12 dL_leaves_378 rfl ?_
                      refine x_iload (pc := 380) C 13 dL_leaves_380 rfl ?_
                      refine x_aload_n (pc := 382) C 5 dL_leaves_382 rfl rfl ?_
                      refine x_aload (pc := 383) C 6 dL_leaves_383 rfl ?_
                      refine x_aload (pc := 385) C 7 dL_leaves_385 rfl ?_
                      refine cS1_5 (pc := 387) (val := Value.int) C hF (fun _ _ h => c_L_grown l _ b _ _ h) sm_L_grown wq713 rfl rfl ⟨Nat.le_of_ble_eq_true rfl, Nat.le_of_ble_eq_true rfl⟩ (Nat.le_of_ble_eq_true rfl) ⟨Nat.zero_le _, Nat.zero_le _⟩ dL_leaves_387 (fun x308 w307 hF => ?_)
                      refine x_istore (pc := 390) C [(16, .int (x308)), (15, .int (x306)), (14, .int (o17)), (0, .ref (b)), (1, .int (a2)), (2, .int (a3)), (3, .ref (ra b 10 0)), (4, .ref (ra b 10 1)), (5, .ref (ra b 10 2)), (6, .ref (ra b 10 3)), (7, .ref (ra b 10 4)), (8, .ref (ra b 10 5)), (9, .int (x2)), (10, .int (x7)), (11, .int (x9)), (12, .int (x11)), (13, .int (o14))] dL_leaves_390 (by decide) rfl ?_
                      refine x_iload (pc := 392) C 1 dL_leaves_392 rfl ?_
                      refine x_if_lt (pc := 394) C 416 dL_leaves_394 rfl hF (fun c312 hF => ?_) (fun c312 hF => ?_)
                      · exact none_ne hF
                      · refine x_aload_n (pc := 397) C 3 dL_leaves_397 rfl rfl ?_
                        refine x_iload (pc := 398) C 12 dL_leaves_398 rfl ?_
                        refine x_iload (pc := 400) C 13 dL_leaves_400 rfl ?_
                        refine x_iload (pc := 402) C 14 dL_leaves_402 rfl ?_
                        refine cL1_4 (pc := 404) C hX hF (fun _ _ h => c_L_swap l _ b hl _ _ _ h) wq757 wq104 wq756 hd_L_swap wq755 rfl rfl ⟨Nat.le_of_ble_eq_true rfl, Nat.le_of_ble_eq_true rfl⟩ (Nat.le_of_ble_eq_true rfl) ⟨Nat.le_of_ble_eq_true rfl, Nat.le_of_ble_eq_true rfl⟩ dL_leaves_404 (fun x309 w310 hF => ?_)
                        refine x_iload (pc := 407) C 0 dL_leaves_407 rfl ?_
                        refine x_icmp_ne (pc := 409) C 416 dL_leaves_409 rfl hF (fun c311 hF => ?_) (fun c311 hF => ?_)
                        · exact none_ne hF
                        · refine x_iconst (pc := 412) C 1 dL_leaves_412 ki_1 ?_
                          refine x_goto (pc := 413) C 417 dL_leaves_413 rfl ?_
                          obtain ⟨rfl, rfl⟩ := ret_eq hF
                          refine xv_ret rfl (Nat.le_of_ble_eq_true rfl) (Nat.le_of_ble_eq_true rfl) ?_
                          exact x_zret (pc := 417) C rfl hr rfl (fun _ h => h) dL_leaves_417
                    · refine x_aload_n (pc := 312) C 1 dL_leaves_312 rfl rfl ?_
                      refine x_iload (pc := 313) C 10 dL_leaves_313 rfl ?_
                      refine x_iload (pc := 315) C 11 dL_leaves_315 rfl ?_
                      refine x_iload (pc := 317) C 12 dL_leaves_317 rfl ?_
                      refine cL1_4 (pc := 319) C hX hF (fun _ _ h => c_L_swap l _ b hl _ _ _ h) wq757 wq104 wq756 hd_L_swap wq755 rfl rfl ⟨Nat.le_of_ble_eq_true rfl, Nat.le_of_ble_eq_true rfl⟩ (Nat.le_of_ble_eq_true rfl) ⟨Nat.le_of_ble_eq_true rfl, Nat.le_of_ble_eq_true rfl⟩ dL_leaves_319 (fun x313 w314 hF => ?_)
                      refine x_iload (pc := 322) C 14 dL_leaves_322 rfl ?_
                      obtain ⟨o316, w315, hL, hF⟩ := bd_some hF
                      refine x_join (P1 := CW G b w315) (pcJ := 334) (lvJ := [(0, .ref (b)), (1, .int (a2)), (2, .int (a3)), (3, .ref (ra b 10 0)), (4, .ref (ra b 10 1)), (5, .ref (ra b 10 2)), (6, .ref (ra b 10 3)), (7, .ref (ra b 10 4)), (8, .ref (ra b 10 5)), (9, .int (x2)), (10, .int (x7)), (11, .int (x9)), (12, .int (x11)), (13, .int (o14)), (14, .int (o17))]) (stJ := [.int (o316), .int (x313)]) 1 6 ?_ (fun kJ334 => ?_)
                      · refine x_icmp_ne (pc := 334) C 356 dL_leaves_334 rfl hF (fun c321 hF => ?_) (fun c321 hF => ?_)
                        · exact none_ne hF
                        · refine x_aload_n (pc := 337) C 0 dL_leaves_337 rfl rfl ?_
                          refine x_iload (pc := 338) C 9 dL_leaves_338 rfl ?_
                          refine x_bipush (pc := 340) C 12 dL_leaves_340 kb_12 ?_
                          refine x_iload (pc := 342) C 11 dL_leaves_342 rfl ?_
                          refine cL1_4 (pc := 344) C hX hF (fun _ _ h => c_L_swap l _ b hl _ _ _ h) wq757 wq104 wq756 hd_L_swap wq755 rfl rfl ⟨Nat.le_of_ble_eq_true rfl, Nat.le_of_ble_eq_true rfl⟩ (Nat.le_of_ble_eq_true rfl) ⟨Nat.le_of_ble_eq_true rfl, Nat.le_of_ble_eq_true rfl⟩ dL_leaves_344 (fun x318 w319 hF => ?_)
                          refine x_bipush (pc := 347) C (-31) dL_leaves_347 kb_m31 ?_
                          refine x_icmp_ne (pc := 349) C 356 dL_leaves_349 rfl hF (fun c320 hF => ?_) (fun c320 hF => ?_)
                          · exact none_ne hF
                          · refine x_iconst (pc := 352) C 1 dL_leaves_352 ki_1 ?_
                            refine x_goto (pc := 353) C 357 dL_leaves_353 rfl ?_
                            obtain ⟨rfl, rfl⟩ := ret_eq hF
                            refine xv_ret rfl (Nat.le_of_ble_eq_true rfl) (Nat.le_of_ble_eq_true rfl) ?_
                            exact x_zret (pc := 357) C rfl hr rfl (fun _ h => h) dL_leaves_357
                      · replace hF := hL
                        refine x_if_eq (pc := 324) C 332 dL_leaves_324 rfl hF (fun c317 hF => ?_) (fun c317 hF => ?_)
                        · refine x_bipush (pc := 332) C (-31) dL_leaves_332 kb_m31 ?_
                          obtain ⟨rfl, rfl⟩ := ret_eq hF
                          exact x_sub [1, 2, 3, 4, 5, 6, 7, 8, 9, 10, 11, 12, 13, 14, 0] rfl kJ334
                        · refine x_bipush (pc := 327) C (-33) dL_leaves_327 kb_m33 ?_
                          refine x_goto (pc := 329) C 334 dL_leaves_329 rfl ?_
                          obtain ⟨rfl, rfl⟩ := ret_eq hF
                          exact x_sub [1, 2, 3, 4, 5, 6, 7, 8, 9, 10, 11, 12, 13, 14, 0] rfl kJ334
              · refine x_iload (pc := 220) C 0 dL_leaves_220 rfl ?_
                refine x_if_ne (pc := 222) C 254 dL_leaves_222 rfl hF (fun c336 hF => ?_) (fun c336 hF => ?_)
                · refine x_iload (pc := 254) C 10 dL_leaves_254 rfl ?_
                  refine x_iload (pc := 256) C 11 dL_leaves_256 rfl ?_
                  refine x_aload_n (pc := 258) C 4 dL_leaves_258 rfl rfl ?_
                  refine x_aload (pc := 259) C 5 dL_leaves_259 rfl ?_
                  refine x_aload (pc := 261) C 6 dL_leaves_261 rfl ?_
                  refine x_aload (pc := 263) C 7 dL_leaves_263 rfl ?_
                  refine x_aload (pc := 265) C 8 dL_leaves_265 rfl ?_
                  refine x_aload (pc := 267) C 9 dL_leaves_267 rfl ?_
                  refine cS1_8 (pc := 269) (val := Value.int) C hF (fun _ _ h => c_L_taken l _ b _ _ h) sm_L_taken wq749 rfl rfl ⟨Nat.le_of_ble_eq_true rfl, Nat.le_of_ble_eq_true rfl⟩ (Nat.le_of_ble_eq_true rfl) ⟨Nat.zero_le _, Nat.zero_le _⟩ dL_leaves_269 (fun x326 w325 hF => ?_)
                  refine x_istore (pc := 272) C [(15, .int (x326)), (14, .int (o17)), (0, .ref (b)), (1, .int (a2)), (2, .int (a3)), (3, .ref (ra b 10 0)), (4, .ref (ra b 10 1)), (5, .ref (ra b 10 2)), (6, .ref (ra b 10 3)), (7, .ref (ra b 10 4)), (8, .ref (ra b 10 5)), (9, .int (x2)), (10, .int (x7)), (11, .int (x9)), (12, .int (x11)), (13, .int (o14))] dL_leaves_272 (by decide) rfl ?_
                  refine x_aload_n (pc := 274) C 2 dL_leaves_274 rfl rfl ?_
                  refine x_iload (pc := 275) C 11 dL_leaves_275 rfl ?_
                  refine x_iload (pc := 277) C 12 dL_leaves_277 rfl ?_
                  refine cL1_3 (pc := 279) C hX hF (fun _ _ h => c_L_take l _ b hl _ _ h) wq718 wq104 wq717 hd_L_take wq716 rfl rfl ⟨Nat.le_of_ble_eq_true rfl, Nat.le_of_ble_eq_true rfl⟩ (Nat.le_of_ble_eq_true rfl) ⟨Nat.le_of_ble_eq_true rfl, Nat.le_of_ble_eq_true rfl⟩ dL_leaves_279 (fun x327 w328 hF => ?_)
                  refine x_iload (pc := 282) C 0 dL_leaves_282 rfl ?_
                  refine x_icmp_ne (pc := 284) C 291 dL_leaves_284 rfl hF (fun c329 hF => ?_) (fun c329 hF => ?_)
                  · exact none_ne hF
                  · refine x_iconst (pc := 287) C 1 dL_leaves_287 ki_1 ?_
                    refine x_goto (pc := 288) C 292 dL_leaves_288 rfl ?_
                    obtain ⟨rfl, rfl⟩ := ret_eq hF
                    refine xv_ret rfl (Nat.le_of_ble_eq_true rfl) (Nat.le_of_ble_eq_true rfl) ?_
                    exact x_zret (pc := 292) C rfl hr rfl (fun _ h => h) dL_leaves_292
                · refine x_aload_n (pc := 225) C 1 dL_leaves_225 rfl rfl ?_
                  refine x_iload (pc := 226) C 10 dL_leaves_226 rfl ?_
                  refine x_iload (pc := 228) C 11 dL_leaves_228 rfl ?_
                  refine cL1_3 (pc := 230) C hX hF (fun _ _ h => c_L_take l _ b hl _ _ h) wq718 wq104 wq717 hd_L_take wq716 rfl rfl ⟨Nat.le_of_ble_eq_true rfl, Nat.le_of_ble_eq_true rfl⟩ (Nat.le_of_ble_eq_true rfl) ⟨Nat.le_of_ble_eq_true rfl, Nat.le_of_ble_eq_true rfl⟩ dL_leaves_230 (fun x330 w331 hF => ?_)
                  refine x_iload (pc := 233) C 14 dL_leaves_233 rfl ?_
                  obtain ⟨o333, w332, hL, hF⟩ := bd_some hF
                  refine x_join (P1 := CW G b w332) (pcJ := 245) (lvJ := [(0, .ref (b)), (1, .int (a2)), (2, .int (a3)), (3, .ref (ra b 10 0)), (4, .ref (ra b 10 1)), (5, .ref (ra b 10 2)), (6, .ref (ra b 10 3)), (7, .ref (ra b 10 4)), (8, .ref (ra b 10 5)), (9, .int (x2)), (10, .int (x7)), (11, .int (x9)), (12, .int (x11)), (13, .int (o14)), (14, .int (o17))]) (stJ := [.int (o333), .int (x330)]) 1 6 ?_ (fun kJ245 => ?_)
                  · refine x_icmp_ne (pc := 245) C 252 dL_leaves_245 rfl hF (fun c335 hF => ?_) (fun c335 hF => ?_)
                    · exact none_ne hF
                    · refine x_iconst (pc := 248) C 1 dL_leaves_248 ki_1 ?_
                      refine x_goto (pc := 249) C 253 dL_leaves_249 rfl ?_
                      obtain ⟨rfl, rfl⟩ := ret_eq hF
                      refine xv_ret rfl (Nat.le_of_ble_eq_true rfl) (Nat.le_of_ble_eq_true rfl) ?_
                      exact x_zret (pc := 253) C rfl hr rfl (fun _ h => h) dL_leaves_253
                  · replace hF := hL
                    refine x_if_eq (pc := 235) C 243 dL_leaves_235 rfl hF (fun c334 hF => ?_) (fun c334 hF => ?_)
                    · refine x_bipush (pc := 243) C (-31) dL_leaves_243 kb_m31 ?_
                      obtain ⟨rfl, rfl⟩ := ret_eq hF
                      exact x_sub [1, 2, 3, 4, 5, 6, 7, 8, 9, 10, 11, 12, 13, 14, 0] rfl kJ245
                    · refine x_bipush (pc := 238) C (-33) dL_leaves_238 kb_m33 ?_
                      refine x_goto (pc := 240) C 245 dL_leaves_240 rfl ?_
                      obtain ⟨rfl, rfl⟩ := ret_eq hF
                      exact x_sub [1, 2, 3, 4, 5, 6, 7, 8, 9, 10, 11, 12, 13, 14, 0] rfl kJ245
            · refine x_aload (pc := 165) C 5 dL_leaves_165 rfl ?_
              refine x_iload (pc := 167) C 11 dL_leaves_167 rfl ?_
              refine w_ald (pc := 169) C (vA_m 1 (by decide)) hF dL_leaves_169 (fun x338 hF => ?_)
              refine x_if_ge (pc := 170) C 214 dL_leaves_170 rfl hF (fun c498 hF => ?_) (fun c498 hF => ?_)
              · refine x_iload (pc := 214) C 13 dL_leaves_214 rfl ?_
                refine x_iconst (pc := 216) C 5 dL_leaves_216 ki_5 ?_
                refine x_icmp_ge (pc := 217) C 293 dL_leaves_217 rfl hF (fun c414 hF => ?_) (fun c414 hF => ?_)
                · refine x_iload (pc := 293) C 13 dL_leaves_293 rfl ?_
                  refine x_iconst (pc := 295) C 5 dL_leaves_295 ki_5 ?_
                  refine x_icmp_ne (pc := 296) C 418 dL_leaves_296 rfl hF (fun c401 hF => ?_) (fun c401 hF => ?_)
                  · refine x_iload (pc := 418) C 14 dL_leaves_418 rfl ?_
                    refine x_if_eq (pc := 420) C 436 dL_leaves_420 rfl hF (fun c359 hF => ?_) (fun c359 hF => ?_)
                    · refine x_aload_n (pc := 436) C 1 dL_leaves_436 rfl rfl ?_
                      refine x_iload (pc := 437) C 10 dL_leaves_437 rfl ?_
                      refine cL1_2 (pc := 439) C hX hF (fun _ _ h => c_L_rake l _ b hl _ h) wq775 wq104 wq774 hd_L_rake wq773 rfl rfl ⟨Nat.le_of_ble_eq_true rfl, Nat.le_of_ble_eq_true rfl⟩ (Nat.le_of_ble_eq_true rfl) ⟨Nat.le_of_ble_eq_true rfl, Nat.le_of_ble_eq_true rfl⟩ dL_leaves_439 (fun x339 w340 hF => ?_)
                      refine x_iload (pc := 442) C 14 dL_leaves_442 rfl ?_
                      obtain ⟨o342, w341, hL, hF⟩ := bd_some hF
                      refine x_join (P1 := CW G b w341) (pcJ := 454) (lvJ := [(0, .ref (b)), (1, .int (a2)), (2, .int (a3)), (3, .ref (ra b 10 0)), (4, .ref (ra b 10 1)), (5, .ref (ra b 10 2)), (6, .ref (ra b 10 3)), (7, .ref (ra b 10 4)), (8, .ref (ra b 10 5)), (9, .int (x2)), (10, .int (x7)), (11, .int (x9)), (12, .int (x11)), (13, .int (o14)), (14, .int (o17))]) (stJ := [.int (o342), .int (x339)]) 1 6 ?_ (fun kJ454 => ?_)
                      · refine x_icmp_ne (pc := 454) C 461 dL_leaves_454 rfl hF (fun c344 hF => ?_) (fun c344 hF => ?_)
                        · exact none_ne hF
                        · refine x_iconst (pc := 457) C 1 dL_leaves_457 ki_1 ?_
                          refine x_goto (pc := 458) C 462 dL_leaves_458 rfl ?_
                          obtain ⟨rfl, rfl⟩ := ret_eq hF
                          refine xv_ret rfl (Nat.le_of_ble_eq_true rfl) (Nat.le_of_ble_eq_true rfl) ?_
                          exact x_zret (pc := 462) C rfl hr rfl (fun _ h => h) dL_leaves_462
                      · replace hF := hL
                        refine x_if_eq (pc := 444) C 452 dL_leaves_444 rfl hF (fun c343 hF => ?_) (fun c343 hF => ?_)
                        · refine x_bipush (pc := 452) C (-31) dL_leaves_452 kb_m31 ?_
                          obtain ⟨rfl, rfl⟩ := ret_eq hF
                          exact x_sub [1, 2, 3, 4, 5, 6, 7, 8, 9, 10, 11, 12, 13, 14, 0] rfl kJ454
                        · refine x_bipush (pc := 447) C (-33) dL_leaves_447 kb_m33 ?_
                          refine x_goto (pc := 449) C 454 dL_leaves_449 rfl ?_
                          obtain ⟨rfl, rfl⟩ := ret_eq hF
                          exact x_sub [1, 2, 3, 4, 5, 6, 7, 8, 9, 10, 11, 12, 13, 14, 0] rfl kJ454
                    · refine x_iload (pc := 423) C 10 dL_leaves_423 rfl ?_
                      refine x_aload_n (pc := 425) C 4 dL_leaves_425 rfl rfl ?_
                      refine x_aload (pc := 426) C 6 dL_leaves_426 rfl ?_
                      refine x_aload (pc := 428) C 7 dL_leaves_428 rfl ?_
                      refine cS1_4 (pc := 430) (val := Value.int) C hF (fun _ _ h => c_L_heap l _ b _ h) sm_L_heap wq421 rfl rfl ⟨Nat.le_of_ble_eq_true rfl, Nat.le_of_ble_eq_true rfl⟩ (Nat.le_of_ble_eq_true rfl) ⟨Nat.zero_le _, Nat.zero_le _⟩ dL_leaves_430 (fun x346 w345 hF => ?_)
                      refine x_if_ne (pc := 433) C 463 dL_leaves_433 rfl hF (fun c358 hF => ?_) (fun c358 hF => ?_)
                      · refine x_iload (pc := 463) C 10 dL_leaves_463 rfl ?_
                        refine x_aload_n (pc := 465) C 4 dL_leaves_465 rfl rfl ?_
                        refine x_aload (pc := 466) C 6 dL_leaves_466 rfl ?_
                        refine x_aload (pc := 468) C 7 dL_leaves_468 rfl ?_
                        refine x_aload (pc := 470) C 8 dL_leaves_470 rfl ?_
                        refine x_aload (pc := 472) C 9 dL_leaves_472 rfl ?_
                        refine cS1_6 (pc := 474) (val := Value.int) C hF (fun _ _ h => c_L_raked l _ b _ h) sm_L_raked wq752 rfl rfl ⟨Nat.le_of_ble_eq_true rfl, Nat.le_of_ble_eq_true rfl⟩ (Nat.le_of_ble_eq_true rfl) ⟨Nat.zero_le _, Nat.zero_le _⟩ dL_leaves_474 (fun x348 w347 hF => ?_)
                        refine x_istore (pc := 477) C [(15, .int (x348)), (14, .int (o17)), (0, .ref (b)), (1, .int (a2)), (2, .int (a3)), (3, .ref (ra b 10 0)), (4, .ref (ra b 10 1)), (5, .ref (ra b 10 2)), (6, .ref (ra b 10 3)), (7, .ref (ra b 10 4)), (8, .ref (ra b 10 5)), (9, .int (x2)), (10, .int (x7)), (11, .int (x9)), (12, .int (x11)), (13, .int (o14))] dL_leaves_477 (by decide) rfl ?_
                        refine x_aload_n (pc := 479) C 2 dL_leaves_479 rfl rfl ?_
                        refine x_iload (pc := 480) C 11 dL_leaves_480 rfl ?_
                        refine cL1_2 (pc := 482) C hX hF (fun _ _ h => c_L_rake l _ b hl _ h) wq775 wq104 wq774 hd_L_rake wq773 rfl rfl ⟨Nat.le_of_ble_eq_true rfl, Nat.le_of_ble_eq_true rfl⟩ (Nat.le_of_ble_eq_true rfl) ⟨Nat.le_of_ble_eq_true rfl, Nat.le_of_ble_eq_true rfl⟩ dL_leaves_482 (fun x349 w350 hF => ?_)
                        refine x_iload (pc := 485) C 0 dL_leaves_485 rfl ?_
                        refine x_icmp_ne (pc := 487) C 494 dL_leaves_487 rfl hF (fun c351 hF => ?_) (fun c351 hF => ?_)
                        · exact none_ne hF
                        · refine x_iconst (pc := 490) C 1 dL_leaves_490 ki_1 ?_
                          refine x_goto (pc := 491) C 495 dL_leaves_491 rfl ?_
                          obtain ⟨rfl, rfl⟩ := ret_eq hF
                          refine xv_ret rfl (Nat.le_of_ble_eq_true rfl) (Nat.le_of_ble_eq_true rfl) ?_
                          exact x_zret (pc := 495) C rfl hr rfl (fun _ h => h) dL_leaves_495
                      · refine x_aload_n (pc := 436) C 1 dL_leaves_436 rfl rfl ?_
                        refine x_iload (pc := 437) C 10 dL_leaves_437 rfl ?_
                        refine cL1_2 (pc := 439) C hX hF (fun _ _ h => c_L_rake l _ b hl _ h) wq775 wq104 wq774 hd_L_rake wq773 rfl rfl ⟨Nat.le_of_ble_eq_true rfl, Nat.le_of_ble_eq_true rfl⟩ (Nat.le_of_ble_eq_true rfl) ⟨Nat.le_of_ble_eq_true rfl, Nat.le_of_ble_eq_true rfl⟩ dL_leaves_439 (fun x352 w353 hF => ?_)
                        refine x_iload (pc := 442) C 14 dL_leaves_442 rfl ?_
                        obtain ⟨o355, w354, hL, hF⟩ := bd_some hF
                        refine x_join (P1 := CW G b w354) (pcJ := 454) (lvJ := [(0, .ref (b)), (1, .int (a2)), (2, .int (a3)), (3, .ref (ra b 10 0)), (4, .ref (ra b 10 1)), (5, .ref (ra b 10 2)), (6, .ref (ra b 10 3)), (7, .ref (ra b 10 4)), (8, .ref (ra b 10 5)), (9, .int (x2)), (10, .int (x7)), (11, .int (x9)), (12, .int (x11)), (13, .int (o14)), (14, .int (o17))]) (stJ := [.int (o355), .int (x352)]) 1 6 ?_ (fun kJ454 => ?_)
                        · refine x_icmp_ne (pc := 454) C 461 dL_leaves_454 rfl hF (fun c357 hF => ?_) (fun c357 hF => ?_)
                          · exact none_ne hF
                          · refine x_iconst (pc := 457) C 1 dL_leaves_457 ki_1 ?_
                            refine x_goto (pc := 458) C 462 dL_leaves_458 rfl ?_
                            obtain ⟨rfl, rfl⟩ := ret_eq hF
                            refine xv_ret rfl (Nat.le_of_ble_eq_true rfl) (Nat.le_of_ble_eq_true rfl) ?_
                            exact x_zret (pc := 462) C rfl hr rfl (fun _ h => h) dL_leaves_462
                        · replace hF := hL
                          refine x_if_eq (pc := 444) C 452 dL_leaves_444 rfl hF (fun c356 hF => ?_) (fun c356 hF => ?_)
                          · refine x_bipush (pc := 452) C (-31) dL_leaves_452 kb_m31 ?_
                            obtain ⟨rfl, rfl⟩ := ret_eq hF
                            exact x_sub [1, 2, 3, 4, 5, 6, 7, 8, 9, 10, 11, 12, 13, 14, 0] rfl kJ454
                          · refine x_bipush (pc := 447) C (-33) dL_leaves_447 kb_m33 ?_
                            refine x_goto (pc := 449) C 454 dL_leaves_449 rfl ?_
                            obtain ⟨rfl, rfl⟩ := ret_eq hF
                            exact x_sub [1, 2, 3, 4, 5, 6, 7, 8, 9, 10, 11, 12, 13, 14, 0] rfl kJ454
                  · refine x_aload_n (pc := 299) C 4 dL_leaves_299 rfl rfl ?_
                    refine x_iconst (pc := 300) C 1 dL_leaves_300 ki_1 ?_
                    refine w_ald (pc := 301) C (vA_m 0 (by decide)) hF dL_leaves_301 (fun x360 hF => ?_)
                    refine x_bipush (pc := 302) C 40 dL_leaves_302 kb_40 ?_
                    refine x_icmp_ge (pc := 304) C 418 dL_leaves_304 rfl hF (fun c400 hF => ?_) (fun c400 hF => ?_)
                    · refine x_iload (pc := 418) C 14 dL_leaves_418 rfl ?_
                      refine x_if_eq (pc := 420) C 436 dL_leaves_420 rfl hF (fun c381 hF => ?_) (fun c381 hF => ?_)
                      · refine x_aload_n (pc := 436) C 1 dL_leaves_436 rfl rfl ?_
                        refine x_iload (pc := 437) C 10 dL_leaves_437 rfl ?_
                        refine cL1_2 (pc := 439) C hX hF (fun _ _ h => c_L_rake l _ b hl _ h) wq775 wq104 wq774 hd_L_rake wq773 rfl rfl ⟨Nat.le_of_ble_eq_true rfl, Nat.le_of_ble_eq_true rfl⟩ (Nat.le_of_ble_eq_true rfl) ⟨Nat.le_of_ble_eq_true rfl, Nat.le_of_ble_eq_true rfl⟩ dL_leaves_439 (fun x361 w362 hF => ?_)
                        refine x_iload (pc := 442) C 14 dL_leaves_442 rfl ?_
                        obtain ⟨o364, w363, hL, hF⟩ := bd_some hF
                        refine x_join (P1 := CW G b w363) (pcJ := 454) (lvJ := [(0, .ref (b)), (1, .int (a2)), (2, .int (a3)), (3, .ref (ra b 10 0)), (4, .ref (ra b 10 1)), (5, .ref (ra b 10 2)), (6, .ref (ra b 10 3)), (7, .ref (ra b 10 4)), (8, .ref (ra b 10 5)), (9, .int (x2)), (10, .int (x7)), (11, .int (x9)), (12, .int (x11)), (13, .int (o14)), (14, .int (o17))]) (stJ := [.int (o364), .int (x361)]) 1 6 ?_ (fun kJ454 => ?_)
                        · refine x_icmp_ne (pc := 454) C 461 dL_leaves_454 rfl hF (fun c366 hF => ?_) (fun c366 hF => ?_)
                          · exact none_ne hF
                          · refine x_iconst (pc := 457) C 1 dL_leaves_457 ki_1 ?_
                            refine x_goto (pc := 458) C 462 dL_leaves_458 rfl ?_
                            obtain ⟨rfl, rfl⟩ := ret_eq hF
                            refine xv_ret rfl (Nat.le_of_ble_eq_true rfl) (Nat.le_of_ble_eq_true rfl) ?_
                            exact x_zret (pc := 462) C rfl hr rfl (fun _ h => h) dL_leaves_462
                        · replace hF := hL
                          refine x_if_eq (pc := 444) C 452 dL_leaves_444 rfl hF (fun c365 hF => ?_) (fun c365 hF => ?_)
                          · refine x_bipush (pc := 452) C (-31) dL_leaves_452 kb_m31 ?_
                            obtain ⟨rfl, rfl⟩ := ret_eq hF
                            exact x_sub [1, 2, 3, 4, 5, 6, 7, 8, 9, 10, 11, 12, 13, 14, 0] rfl kJ454
                          · refine x_bipush (pc := 447) C (-33) dL_leaves_447 kb_m33 ?_
                            refine x_goto (pc := 449) C 454 dL_leaves_449 rfl ?_
                            obtain ⟨rfl, rfl⟩ := ret_eq hF
                            exact x_sub [1, 2, 3, 4, 5, 6, 7, 8, 9, 10, 11, 12, 13, 14, 0] rfl kJ454
                      · refine x_iload (pc := 423) C 10 dL_leaves_423 rfl ?_
                        refine x_aload_n (pc := 425) C 4 dL_leaves_425 rfl rfl ?_
                        refine x_aload (pc := 426) C 6 dL_leaves_426 rfl ?_
                        refine x_aload (pc := 428) C 7 dL_leaves_428 rfl ?_
                        refine cS1_4 (pc := 430) (val := Value.int) C hF (fun _ _ h => c_L_heap l _ b _ h) sm_L_heap wq421 rfl rfl ⟨Nat.le_of_ble_eq_true rfl, Nat.le_of_ble_eq_true rfl⟩ (Nat.le_of_ble_eq_true rfl) ⟨Nat.zero_le _, Nat.zero_le _⟩ dL_leaves_430 (fun x368 w367 hF => ?_)
                        refine x_if_ne (pc := 433) C 463 dL_leaves_433 rfl hF (fun c380 hF => ?_) (fun c380 hF => ?_)
                        · refine x_iload (pc := 463) C 10 dL_leaves_463 rfl ?_
                          refine x_aload_n (pc := 465) C 4 dL_leaves_465 rfl rfl ?_
                          refine x_aload (pc := 466) C 6 dL_leaves_466 rfl ?_
                          refine x_aload (pc := 468) C 7 dL_leaves_468 rfl ?_
                          refine x_aload (pc := 470) C 8 dL_leaves_470 rfl ?_
                          refine x_aload (pc := 472) C 9 dL_leaves_472 rfl ?_
                          refine cS1_6 (pc := 474) (val := Value.int) C hF (fun _ _ h => c_L_raked l _ b _ h) sm_L_raked wq752 rfl rfl ⟨Nat.le_of_ble_eq_true rfl, Nat.le_of_ble_eq_true rfl⟩ (Nat.le_of_ble_eq_true rfl) ⟨Nat.zero_le _, Nat.zero_le _⟩ dL_leaves_474 (fun x370 w369 hF => ?_)
                          refine x_istore (pc := 477) C [(15, .int (x370)), (14, .int (o17)), (0, .ref (b)), (1, .int (a2)), (2, .int (a3)), (3, .ref (ra b 10 0)), (4, .ref (ra b 10 1)), (5, .ref (ra b 10 2)), (6, .ref (ra b 10 3)), (7, .ref (ra b 10 4)), (8, .ref (ra b 10 5)), (9, .int (x2)), (10, .int (x7)), (11, .int (x9)), (12, .int (x11)), (13, .int (o14))] dL_leaves_477 (by decide) rfl ?_
                          refine x_aload_n (pc := 479) C 2 dL_leaves_479 rfl rfl ?_
                          refine x_iload (pc := 480) C 11 dL_leaves_480 rfl ?_
                          refine cL1_2 (pc := 482) C hX hF (fun _ _ h => c_L_rake l _ b hl _ h) wq775 wq104 wq774 hd_L_rake wq773 rfl rfl ⟨Nat.le_of_ble_eq_true rfl, Nat.le_of_ble_eq_true rfl⟩ (Nat.le_of_ble_eq_true rfl) ⟨Nat.le_of_ble_eq_true rfl, Nat.le_of_ble_eq_true rfl⟩ dL_leaves_482 (fun x371 w372 hF => ?_)
                          refine x_iload (pc := 485) C 0 dL_leaves_485 rfl ?_
                          refine x_icmp_ne (pc := 487) C 494 dL_leaves_487 rfl hF (fun c373 hF => ?_) (fun c373 hF => ?_)
                          · exact none_ne hF
                          · refine x_iconst (pc := 490) C 1 dL_leaves_490 ki_1 ?_
                            refine x_goto (pc := 491) C 495 dL_leaves_491 rfl ?_
                            obtain ⟨rfl, rfl⟩ := ret_eq hF
                            refine xv_ret rfl (Nat.le_of_ble_eq_true rfl) (Nat.le_of_ble_eq_true rfl) ?_
                            exact x_zret (pc := 495) C rfl hr rfl (fun _ h => h) dL_leaves_495
                        · refine x_aload_n (pc := 436) C 1 dL_leaves_436 rfl rfl ?_
                          refine x_iload (pc := 437) C 10 dL_leaves_437 rfl ?_
                          refine cL1_2 (pc := 439) C hX hF (fun _ _ h => c_L_rake l _ b hl _ h) wq775 wq104 wq774 hd_L_rake wq773 rfl rfl ⟨Nat.le_of_ble_eq_true rfl, Nat.le_of_ble_eq_true rfl⟩ (Nat.le_of_ble_eq_true rfl) ⟨Nat.le_of_ble_eq_true rfl, Nat.le_of_ble_eq_true rfl⟩ dL_leaves_439 (fun x374 w375 hF => ?_)
                          refine x_iload (pc := 442) C 14 dL_leaves_442 rfl ?_
                          obtain ⟨o377, w376, hL, hF⟩ := bd_some hF
                          refine x_join (P1 := CW G b w376) (pcJ := 454) (lvJ := [(0, .ref (b)), (1, .int (a2)), (2, .int (a3)), (3, .ref (ra b 10 0)), (4, .ref (ra b 10 1)), (5, .ref (ra b 10 2)), (6, .ref (ra b 10 3)), (7, .ref (ra b 10 4)), (8, .ref (ra b 10 5)), (9, .int (x2)), (10, .int (x7)), (11, .int (x9)), (12, .int (x11)), (13, .int (o14)), (14, .int (o17))]) (stJ := [.int (o377), .int (x374)]) 1 6 ?_ (fun kJ454 => ?_)
                          · refine x_icmp_ne (pc := 454) C 461 dL_leaves_454 rfl hF (fun c379 hF => ?_) (fun c379 hF => ?_)
                            · exact none_ne hF
                            · refine x_iconst (pc := 457) C 1 dL_leaves_457 ki_1 ?_
                              refine x_goto (pc := 458) C 462 dL_leaves_458 rfl ?_
                              obtain ⟨rfl, rfl⟩ := ret_eq hF
                              refine xv_ret rfl (Nat.le_of_ble_eq_true rfl) (Nat.le_of_ble_eq_true rfl) ?_
                              exact x_zret (pc := 462) C rfl hr rfl (fun _ h => h) dL_leaves_462
                          · replace hF := hL
                            refine x_if_eq (pc := 444) C 452 dL_leaves_444 rfl hF (fun c378 hF => ?_) (fun c378 hF => ?_)
                            · refine x_bipush (pc := 452) C (-31) dL_leaves_452 kb_m31 ?_
                              obtain ⟨rfl, rfl⟩ := ret_eq hF
                              exact x_sub [1, 2, 3, 4, 5, 6, 7, 8, 9, 10, 11, 12, 13, 14, 0] rfl kJ454
                            · refine x_bipush (pc := 447) C (-33) dL_leaves_447 kb_m33 ?_
                              refine x_goto (pc := 449) C 454 dL_leaves_449 rfl ?_
                              obtain ⟨rfl, rfl⟩ := ret_eq hF
                              exact x_sub [1, 2, 3, 4, 5, 6, 7, 8, 9, 10, 11, 12, 13, 14, 0] rfl kJ454
                    · refine x_iload (pc := 307) C 0 dL_leaves_307 rfl ?_
                      refine x_if_ne (pc := 309) C 358 dL_leaves_309 rfl hF (fun c399 hF => ?_) (fun c399 hF => ?_)
                      · refine x_iload (pc := 358) C 10 dL_leaves_358 rfl ?_
                        refine x_iload (pc := 360) C 11 dL_leaves_360 rfl ?_
                        refine x_aload_n (pc := 362) C 4 dL_leaves_362 rfl rfl ?_
                        refine x_aload (pc := 363) C 5 dL_leaves_363 rfl ?_
                        refine x_aload (pc := 365) C 6 dL_leaves_365 rfl ?_
                        refine x_aload (pc := 367) C 7 dL_leaves_367 rfl ?_
                        refine x_aload (pc := 369) C 8 dL_leaves_369 rfl ?_
                        refine x_aload (pc := 371) C 9 dL_leaves_371 rfl ?_
                        refine cS1_8 (pc := 373) (val := Value.int) C hF (fun _ _ h => c_L_taken l _ b _ _ h) sm_L_taken wq749 rfl rfl ⟨Nat.le_of_ble_eq_true rfl, Nat.le_of_ble_eq_true rfl⟩ (Nat.le_of_ble_eq_true rfl) ⟨Nat.zero_le _, Nat.zero_le _⟩ dL_leaves_373 (fun x383 w382 hF => ?_)
                        refine x_istore (pc := 376) C [(15, .int (x383)), (14, .int (o17)), (0, .ref (b)), (1, .int (a2)), (2, .int (a3)), (3, .ref (ra b 10 0)), (4, .ref (ra b 10 1)), (5, .ref (ra b 10 2)), (6, .ref (ra b 10 3)), (7, .ref (ra b 10 4)), (8, .ref (ra b 10 5)), (9, .int (x2)), (10, .int (x7)), (11, .int (x9)), (12, .int (x11)), (13, .int (o14))] dL_leaves_376 (by decide) rfl ?_
                        refine x_iload (pc := 378) C 12 dL_leaves_378 rfl ?_
                        refine x_iload (pc := 380) C 13 dL_leaves_380 rfl ?_
                        refine x_aload_n (pc := 382) C 5 dL_leaves_382 rfl rfl ?_
                        refine x_aload (pc := 383) C 6 dL_leaves_383 rfl ?_
                        refine x_aload (pc := 385) C 7 dL_leaves_385 rfl ?_
                        refine cS1_5 (pc := 387) (val := Value.int) C hF (fun _ _ h => c_L_grown l _ b _ _ h) sm_L_grown wq713 rfl rfl ⟨Nat.le_of_ble_eq_true rfl, Nat.le_of_ble_eq_true rfl⟩ (Nat.le_of_ble_eq_true rfl) ⟨Nat.zero_le _, Nat.zero_le _⟩ dL_leaves_387 (fun x385 w384 hF => ?_)
                        refine x_istore (pc := 390) C [(16, .int (x385)), (15, .int (x383)), (14, .int (o17)), (0, .ref (b)), (1, .int (a2)), (2, .int (a3)), (3, .ref (ra b 10 0)), (4, .ref (ra b 10 1)), (5, .ref (ra b 10 2)), (6, .ref (ra b 10 3)), (7, .ref (ra b 10 4)), (8, .ref (ra b 10 5)), (9, .int (x2)), (10, .int (x7)), (11, .int (x9)), (12, .int (x11)), (13, .int (o14))] dL_leaves_390 (by decide) rfl ?_
                        refine x_iload (pc := 392) C 1 dL_leaves_392 rfl ?_
                        refine x_if_lt (pc := 394) C 416 dL_leaves_394 rfl hF (fun c389 hF => ?_) (fun c389 hF => ?_)
                        · exact none_ne hF
                        · refine x_aload_n (pc := 397) C 3 dL_leaves_397 rfl rfl ?_
                          refine x_iload (pc := 398) C 12 dL_leaves_398 rfl ?_
                          refine x_iload (pc := 400) C 13 dL_leaves_400 rfl ?_
                          refine x_iload (pc := 402) C 14 dL_leaves_402 rfl ?_
                          refine cL1_4 (pc := 404) C hX hF (fun _ _ h => c_L_swap l _ b hl _ _ _ h) wq757 wq104 wq756 hd_L_swap wq755 rfl rfl ⟨Nat.le_of_ble_eq_true rfl, Nat.le_of_ble_eq_true rfl⟩ (Nat.le_of_ble_eq_true rfl) ⟨Nat.le_of_ble_eq_true rfl, Nat.le_of_ble_eq_true rfl⟩ dL_leaves_404 (fun x386 w387 hF => ?_)
                          refine x_iload (pc := 407) C 0 dL_leaves_407 rfl ?_
                          refine x_icmp_ne (pc := 409) C 416 dL_leaves_409 rfl hF (fun c388 hF => ?_) (fun c388 hF => ?_)
                          · exact none_ne hF
                          · refine x_iconst (pc := 412) C 1 dL_leaves_412 ki_1 ?_
                            refine x_goto (pc := 413) C 417 dL_leaves_413 rfl ?_
                            obtain ⟨rfl, rfl⟩ := ret_eq hF
                            refine xv_ret rfl (Nat.le_of_ble_eq_true rfl) (Nat.le_of_ble_eq_true rfl) ?_
                            exact x_zret (pc := 417) C rfl hr rfl (fun _ h => h) dL_leaves_417
                      · refine x_aload_n (pc := 312) C 1 dL_leaves_312 rfl rfl ?_
                        refine x_iload (pc := 313) C 10 dL_leaves_313 rfl ?_
                        refine x_iload (pc := 315) C 11 dL_leaves_315 rfl ?_
                        refine x_iload (pc := 317) C 12 dL_leaves_317 rfl ?_
                        refine cL1_4 (pc := 319) C hX hF (fun _ _ h => c_L_swap l _ b hl _ _ _ h) wq757 wq104 wq756 hd_L_swap wq755 rfl rfl ⟨Nat.le_of_ble_eq_true rfl, Nat.le_of_ble_eq_true rfl⟩ (Nat.le_of_ble_eq_true rfl) ⟨Nat.le_of_ble_eq_true rfl, Nat.le_of_ble_eq_true rfl⟩ dL_leaves_319 (fun x390 w391 hF => ?_)
                        refine x_iload (pc := 322) C 14 dL_leaves_322 rfl ?_
                        obtain ⟨o393, w392, hL, hF⟩ := bd_some hF
                        refine x_join (P1 := CW G b w392) (pcJ := 334) (lvJ := [(0, .ref (b)), (1, .int (a2)), (2, .int (a3)), (3, .ref (ra b 10 0)), (4, .ref (ra b 10 1)), (5, .ref (ra b 10 2)), (6, .ref (ra b 10 3)), (7, .ref (ra b 10 4)), (8, .ref (ra b 10 5)), (9, .int (x2)), (10, .int (x7)), (11, .int (x9)), (12, .int (x11)), (13, .int (o14)), (14, .int (o17))]) (stJ := [.int (o393), .int (x390)]) 1 6 ?_ (fun kJ334 => ?_)
                        · refine x_icmp_ne (pc := 334) C 356 dL_leaves_334 rfl hF (fun c398 hF => ?_) (fun c398 hF => ?_)
                          · exact none_ne hF
                          · refine x_aload_n (pc := 337) C 0 dL_leaves_337 rfl rfl ?_
                            refine x_iload (pc := 338) C 9 dL_leaves_338 rfl ?_
                            refine x_bipush (pc := 340) C 12 dL_leaves_340 kb_12 ?_
                            refine x_iload (pc := 342) C 11 dL_leaves_342 rfl ?_
                            refine cL1_4 (pc := 344) C hX hF (fun _ _ h => c_L_swap l _ b hl _ _ _ h) wq757 wq104 wq756 hd_L_swap wq755 rfl rfl ⟨Nat.le_of_ble_eq_true rfl, Nat.le_of_ble_eq_true rfl⟩ (Nat.le_of_ble_eq_true rfl) ⟨Nat.le_of_ble_eq_true rfl, Nat.le_of_ble_eq_true rfl⟩ dL_leaves_344 (fun x395 w396 hF => ?_)
                            refine x_bipush (pc := 347) C (-31) dL_leaves_347 kb_m31 ?_
                            refine x_icmp_ne (pc := 349) C 356 dL_leaves_349 rfl hF (fun c397 hF => ?_) (fun c397 hF => ?_)
                            · exact none_ne hF
                            · refine x_iconst (pc := 352) C 1 dL_leaves_352 ki_1 ?_
                              refine x_goto (pc := 353) C 357 dL_leaves_353 rfl ?_
                              obtain ⟨rfl, rfl⟩ := ret_eq hF
                              refine xv_ret rfl (Nat.le_of_ble_eq_true rfl) (Nat.le_of_ble_eq_true rfl) ?_
                              exact x_zret (pc := 357) C rfl hr rfl (fun _ h => h) dL_leaves_357
                        · replace hF := hL
                          refine x_if_eq (pc := 324) C 332 dL_leaves_324 rfl hF (fun c394 hF => ?_) (fun c394 hF => ?_)
                          · refine x_bipush (pc := 332) C (-31) dL_leaves_332 kb_m31 ?_
                            obtain ⟨rfl, rfl⟩ := ret_eq hF
                            exact x_sub [1, 2, 3, 4, 5, 6, 7, 8, 9, 10, 11, 12, 13, 14, 0] rfl kJ334
                          · refine x_bipush (pc := 327) C (-33) dL_leaves_327 kb_m33 ?_
                            refine x_goto (pc := 329) C 334 dL_leaves_329 rfl ?_
                            obtain ⟨rfl, rfl⟩ := ret_eq hF
                            exact x_sub [1, 2, 3, 4, 5, 6, 7, 8, 9, 10, 11, 12, 13, 14, 0] rfl kJ334
                · refine x_iload (pc := 220) C 0 dL_leaves_220 rfl ?_
                  refine x_if_ne (pc := 222) C 254 dL_leaves_222 rfl hF (fun c413 hF => ?_) (fun c413 hF => ?_)
                  · refine x_iload (pc := 254) C 10 dL_leaves_254 rfl ?_
                    refine x_iload (pc := 256) C 11 dL_leaves_256 rfl ?_
                    refine x_aload_n (pc := 258) C 4 dL_leaves_258 rfl rfl ?_
                    refine x_aload (pc := 259) C 5 dL_leaves_259 rfl ?_
                    refine x_aload (pc := 261) C 6 dL_leaves_261 rfl ?_
                    refine x_aload (pc := 263) C 7 dL_leaves_263 rfl ?_
                    refine x_aload (pc := 265) C 8 dL_leaves_265 rfl ?_
                    refine x_aload (pc := 267) C 9 dL_leaves_267 rfl ?_
                    refine cS1_8 (pc := 269) (val := Value.int) C hF (fun _ _ h => c_L_taken l _ b _ _ h) sm_L_taken wq749 rfl rfl ⟨Nat.le_of_ble_eq_true rfl, Nat.le_of_ble_eq_true rfl⟩ (Nat.le_of_ble_eq_true rfl) ⟨Nat.zero_le _, Nat.zero_le _⟩ dL_leaves_269 (fun x403 w402 hF => ?_)
                    refine x_istore (pc := 272) C [(15, .int (x403)), (14, .int (o17)), (0, .ref (b)), (1, .int (a2)), (2, .int (a3)), (3, .ref (ra b 10 0)), (4, .ref (ra b 10 1)), (5, .ref (ra b 10 2)), (6, .ref (ra b 10 3)), (7, .ref (ra b 10 4)), (8, .ref (ra b 10 5)), (9, .int (x2)), (10, .int (x7)), (11, .int (x9)), (12, .int (x11)), (13, .int (o14))] dL_leaves_272 (by decide) rfl ?_
                    refine x_aload_n (pc := 274) C 2 dL_leaves_274 rfl rfl ?_
                    refine x_iload (pc := 275) C 11 dL_leaves_275 rfl ?_
                    refine x_iload (pc := 277) C 12 dL_leaves_277 rfl ?_
                    refine cL1_3 (pc := 279) C hX hF (fun _ _ h => c_L_take l _ b hl _ _ h) wq718 wq104 wq717 hd_L_take wq716 rfl rfl ⟨Nat.le_of_ble_eq_true rfl, Nat.le_of_ble_eq_true rfl⟩ (Nat.le_of_ble_eq_true rfl) ⟨Nat.le_of_ble_eq_true rfl, Nat.le_of_ble_eq_true rfl⟩ dL_leaves_279 (fun x404 w405 hF => ?_)
                    refine x_iload (pc := 282) C 0 dL_leaves_282 rfl ?_
                    refine x_icmp_ne (pc := 284) C 291 dL_leaves_284 rfl hF (fun c406 hF => ?_) (fun c406 hF => ?_)
                    · exact none_ne hF
                    · refine x_iconst (pc := 287) C 1 dL_leaves_287 ki_1 ?_
                      refine x_goto (pc := 288) C 292 dL_leaves_288 rfl ?_
                      obtain ⟨rfl, rfl⟩ := ret_eq hF
                      refine xv_ret rfl (Nat.le_of_ble_eq_true rfl) (Nat.le_of_ble_eq_true rfl) ?_
                      exact x_zret (pc := 292) C rfl hr rfl (fun _ h => h) dL_leaves_292
                  · refine x_aload_n (pc := 225) C 1 dL_leaves_225 rfl rfl ?_
                    refine x_iload (pc := 226) C 10 dL_leaves_226 rfl ?_
                    refine x_iload (pc := 228) C 11 dL_leaves_228 rfl ?_
                    refine cL1_3 (pc := 230) C hX hF (fun _ _ h => c_L_take l _ b hl _ _ h) wq718 wq104 wq717 hd_L_take wq716 rfl rfl ⟨Nat.le_of_ble_eq_true rfl, Nat.le_of_ble_eq_true rfl⟩ (Nat.le_of_ble_eq_true rfl) ⟨Nat.le_of_ble_eq_true rfl, Nat.le_of_ble_eq_true rfl⟩ dL_leaves_230 (fun x407 w408 hF => ?_)
                    refine x_iload (pc := 233) C 14 dL_leaves_233 rfl ?_
                    obtain ⟨o410, w409, hL, hF⟩ := bd_some hF
                    refine x_join (P1 := CW G b w409) (pcJ := 245) (lvJ := [(0, .ref (b)), (1, .int (a2)), (2, .int (a3)), (3, .ref (ra b 10 0)), (4, .ref (ra b 10 1)), (5, .ref (ra b 10 2)), (6, .ref (ra b 10 3)), (7, .ref (ra b 10 4)), (8, .ref (ra b 10 5)), (9, .int (x2)), (10, .int (x7)), (11, .int (x9)), (12, .int (x11)), (13, .int (o14)), (14, .int (o17))]) (stJ := [.int (o410), .int (x407)]) 1 6 ?_ (fun kJ245 => ?_)
                    · refine x_icmp_ne (pc := 245) C 252 dL_leaves_245 rfl hF (fun c412 hF => ?_) (fun c412 hF => ?_)
                      · exact none_ne hF
                      · refine x_iconst (pc := 248) C 1 dL_leaves_248 ki_1 ?_
                        refine x_goto (pc := 249) C 253 dL_leaves_249 rfl ?_
                        obtain ⟨rfl, rfl⟩ := ret_eq hF
                        refine xv_ret rfl (Nat.le_of_ble_eq_true rfl) (Nat.le_of_ble_eq_true rfl) ?_
                        exact x_zret (pc := 253) C rfl hr rfl (fun _ h => h) dL_leaves_253
                    · replace hF := hL
                      refine x_if_eq (pc := 235) C 243 dL_leaves_235 rfl hF (fun c411 hF => ?_) (fun c411 hF => ?_)
                      · refine x_bipush (pc := 243) C (-31) dL_leaves_243 kb_m31 ?_
                        obtain ⟨rfl, rfl⟩ := ret_eq hF
                        exact x_sub [1, 2, 3, 4, 5, 6, 7, 8, 9, 10, 11, 12, 13, 14, 0] rfl kJ245
                      · refine x_bipush (pc := 238) C (-33) dL_leaves_238 kb_m33 ?_
                        refine x_goto (pc := 240) C 245 dL_leaves_240 rfl ?_
                        obtain ⟨rfl, rfl⟩ := ret_eq hF
                        exact x_sub [1, 2, 3, 4, 5, 6, 7, 8, 9, 10, 11, 12, 13, 14, 0] rfl kJ245
              · refine x_aload_n (pc := 173) C 4 dL_leaves_173 rfl rfl ?_
                refine x_iconst (pc := 174) C 1 dL_leaves_174 ki_1 ?_
                refine w_ald (pc := 175) C (vA_m 0 (by decide)) hF dL_leaves_175 (fun x415 hF => ?_)
                refine x_bipush (pc := 176) C 40 dL_leaves_176 kb_40 ?_
                refine x_icmp_ge (pc := 178) C 214 dL_leaves_178 rfl hF (fun c497 hF => ?_) (fun c497 hF => ?_)
                · refine x_iload (pc := 214) C 13 dL_leaves_214 rfl ?_
                  refine x_iconst (pc := 216) C 5 dL_leaves_216 ki_5 ?_
                  refine x_icmp_ge (pc := 217) C 293 dL_leaves_217 rfl hF (fun c491 hF => ?_) (fun c491 hF => ?_)
                  · refine x_iload (pc := 293) C 13 dL_leaves_293 rfl ?_
                    refine x_iconst (pc := 295) C 5 dL_leaves_295 ki_5 ?_
                    refine x_icmp_ne (pc := 296) C 418 dL_leaves_296 rfl hF (fun c478 hF => ?_) (fun c478 hF => ?_)
                    · refine x_iload (pc := 418) C 14 dL_leaves_418 rfl ?_
                      refine x_if_eq (pc := 420) C 436 dL_leaves_420 rfl hF (fun c436 hF => ?_) (fun c436 hF => ?_)
                      · refine x_aload_n (pc := 436) C 1 dL_leaves_436 rfl rfl ?_
                        refine x_iload (pc := 437) C 10 dL_leaves_437 rfl ?_
                        refine cL1_2 (pc := 439) C hX hF (fun _ _ h => c_L_rake l _ b hl _ h) wq775 wq104 wq774 hd_L_rake wq773 rfl rfl ⟨Nat.le_of_ble_eq_true rfl, Nat.le_of_ble_eq_true rfl⟩ (Nat.le_of_ble_eq_true rfl) ⟨Nat.le_of_ble_eq_true rfl, Nat.le_of_ble_eq_true rfl⟩ dL_leaves_439 (fun x416 w417 hF => ?_)
                        refine x_iload (pc := 442) C 14 dL_leaves_442 rfl ?_
                        obtain ⟨o419, w418, hL, hF⟩ := bd_some hF
                        refine x_join (P1 := CW G b w418) (pcJ := 454) (lvJ := [(0, .ref (b)), (1, .int (a2)), (2, .int (a3)), (3, .ref (ra b 10 0)), (4, .ref (ra b 10 1)), (5, .ref (ra b 10 2)), (6, .ref (ra b 10 3)), (7, .ref (ra b 10 4)), (8, .ref (ra b 10 5)), (9, .int (x2)), (10, .int (x7)), (11, .int (x9)), (12, .int (x11)), (13, .int (o14)), (14, .int (o17))]) (stJ := [.int (o419), .int (x416)]) 1 6 ?_ (fun kJ454 => ?_)
                        · refine x_icmp_ne (pc := 454) C 461 dL_leaves_454 rfl hF (fun c421 hF => ?_) (fun c421 hF => ?_)
                          · exact none_ne hF
                          · refine x_iconst (pc := 457) C 1 dL_leaves_457 ki_1 ?_
                            refine x_goto (pc := 458) C 462 dL_leaves_458 rfl ?_
                            obtain ⟨rfl, rfl⟩ := ret_eq hF
                            refine xv_ret rfl (Nat.le_of_ble_eq_true rfl) (Nat.le_of_ble_eq_true rfl) ?_
                            exact x_zret (pc := 462) C rfl hr rfl (fun _ h => h) dL_leaves_462
                        · replace hF := hL
                          refine x_if_eq (pc := 444) C 452 dL_leaves_444 rfl hF (fun c420 hF => ?_) (fun c420 hF => ?_)
                          · refine x_bipush (pc := 452) C (-31) dL_leaves_452 kb_m31 ?_
                            obtain ⟨rfl, rfl⟩ := ret_eq hF
                            exact x_sub [1, 2, 3, 4, 5, 6, 7, 8, 9, 10, 11, 12, 13, 14, 0] rfl kJ454
                          · refine x_bipush (pc := 447) C (-33) dL_leaves_447 kb_m33 ?_
                            refine x_goto (pc := 449) C 454 dL_leaves_449 rfl ?_
                            obtain ⟨rfl, rfl⟩ := ret_eq hF
                            exact x_sub [1, 2, 3, 4, 5, 6, 7, 8, 9, 10, 11, 12, 13, 14, 0] rfl kJ454
                      · refine x_iload (pc := 423) C 10 dL_leaves_423 rfl ?_
                        refine x_aload_n (pc := 425) C 4 dL_leaves_425 rfl rfl ?_
                        refine x_aload (pc := 426) C 6 dL_leaves_426 rfl ?_
                        refine x_aload (pc := 428) C 7 dL_leaves_428 rfl ?_
                        refine cS1_4 (pc := 430) (val := Value.int) C hF (fun _ _ h => c_L_heap l _ b _ h) sm_L_heap wq421 rfl rfl ⟨Nat.le_of_ble_eq_true rfl, Nat.le_of_ble_eq_true rfl⟩ (Nat.le_of_ble_eq_true rfl) ⟨Nat.zero_le _, Nat.zero_le _⟩ dL_leaves_430 (fun x423 w422 hF => ?_)
                        refine x_if_ne (pc := 433) C 463 dL_leaves_433 rfl hF (fun c435 hF => ?_) (fun c435 hF => ?_)
                        · refine x_iload (pc := 463) C 10 dL_leaves_463 rfl ?_
                          refine x_aload_n (pc := 465) C 4 dL_leaves_465 rfl rfl ?_
                          refine x_aload (pc := 466) C 6 dL_leaves_466 rfl ?_
                          refine x_aload (pc := 468) C 7 dL_leaves_468 rfl ?_
                          refine x_aload (pc := 470) C 8 dL_leaves_470 rfl ?_
                          refine x_aload (pc := 472) C 9 dL_leaves_472 rfl ?_
                          refine cS1_6 (pc := 474) (val := Value.int) C hF (fun _ _ h => c_L_raked l _ b _ h) sm_L_raked wq752 rfl rfl ⟨Nat.le_of_ble_eq_true rfl, Nat.le_of_ble_eq_true rfl⟩ (Nat.le_of_ble_eq_true rfl) ⟨Nat.zero_le _, Nat.zero_le _⟩ dL_leaves_474 (fun x425 w424 hF => ?_)
                          refine x_istore (pc := 477) C [(15, .int (x425)), (14, .int (o17)), (0, .ref (b)), (1, .int (a2)), (2, .int (a3)), (3, .ref (ra b 10 0)), (4, .ref (ra b 10 1)), (5, .ref (ra b 10 2)), (6, .ref (ra b 10 3)), (7, .ref (ra b 10 4)), (8, .ref (ra b 10 5)), (9, .int (x2)), (10, .int (x7)), (11, .int (x9)), (12, .int (x11)), (13, .int (o14))] dL_leaves_477 (by decide) rfl ?_
                          refine x_aload_n (pc := 479) C 2 dL_leaves_479 rfl rfl ?_
                          refine x_iload (pc := 480) C 11 dL_leaves_480 rfl ?_
                          refine cL1_2 (pc := 482) C hX hF (fun _ _ h => c_L_rake l _ b hl _ h) wq775 wq104 wq774 hd_L_rake wq773 rfl rfl ⟨Nat.le_of_ble_eq_true rfl, Nat.le_of_ble_eq_true rfl⟩ (Nat.le_of_ble_eq_true rfl) ⟨Nat.le_of_ble_eq_true rfl, Nat.le_of_ble_eq_true rfl⟩ dL_leaves_482 (fun x426 w427 hF => ?_)
                          refine x_iload (pc := 485) C 0 dL_leaves_485 rfl ?_
                          refine x_icmp_ne (pc := 487) C 494 dL_leaves_487 rfl hF (fun c428 hF => ?_) (fun c428 hF => ?_)
                          · exact none_ne hF
                          · refine x_iconst (pc := 490) C 1 dL_leaves_490 ki_1 ?_
                            refine x_goto (pc := 491) C 495 dL_leaves_491 rfl ?_
                            obtain ⟨rfl, rfl⟩ := ret_eq hF
                            refine xv_ret rfl (Nat.le_of_ble_eq_true rfl) (Nat.le_of_ble_eq_true rfl) ?_
                            exact x_zret (pc := 495) C rfl hr rfl (fun _ h => h) dL_leaves_495
                        · refine x_aload_n (pc := 436) C 1 dL_leaves_436 rfl rfl ?_
                          refine x_iload (pc := 437) C 10 dL_leaves_437 rfl ?_
                          refine cL1_2 (pc := 439) C hX hF (fun _ _ h => c_L_rake l _ b hl _ h) wq775 wq104 wq774 hd_L_rake wq773 rfl rfl ⟨Nat.le_of_ble_eq_true rfl, Nat.le_of_ble_eq_true rfl⟩ (Nat.le_of_ble_eq_true rfl) ⟨Nat.le_of_ble_eq_true rfl, Nat.le_of_ble_eq_true rfl⟩ dL_leaves_439 (fun x429 w430 hF => ?_)
                          refine x_iload (pc := 442) C 14 dL_leaves_442 rfl ?_
                          obtain ⟨o432, w431, hL, hF⟩ := bd_some hF
                          refine x_join (P1 := CW G b w431) (pcJ := 454) (lvJ := [(0, .ref (b)), (1, .int (a2)), (2, .int (a3)), (3, .ref (ra b 10 0)), (4, .ref (ra b 10 1)), (5, .ref (ra b 10 2)), (6, .ref (ra b 10 3)), (7, .ref (ra b 10 4)), (8, .ref (ra b 10 5)), (9, .int (x2)), (10, .int (x7)), (11, .int (x9)), (12, .int (x11)), (13, .int (o14)), (14, .int (o17))]) (stJ := [.int (o432), .int (x429)]) 1 6 ?_ (fun kJ454 => ?_)
                          · refine x_icmp_ne (pc := 454) C 461 dL_leaves_454 rfl hF (fun c434 hF => ?_) (fun c434 hF => ?_)
                            · exact none_ne hF
                            · refine x_iconst (pc := 457) C 1 dL_leaves_457 ki_1 ?_
                              refine x_goto (pc := 458) C 462 dL_leaves_458 rfl ?_
                              obtain ⟨rfl, rfl⟩ := ret_eq hF
                              refine xv_ret rfl (Nat.le_of_ble_eq_true rfl) (Nat.le_of_ble_eq_true rfl) ?_
                              exact x_zret (pc := 462) C rfl hr rfl (fun _ h => h) dL_leaves_462
                          · replace hF := hL
                            refine x_if_eq (pc := 444) C 452 dL_leaves_444 rfl hF (fun c433 hF => ?_) (fun c433 hF => ?_)
                            · refine x_bipush (pc := 452) C (-31) dL_leaves_452 kb_m31 ?_
                              obtain ⟨rfl, rfl⟩ := ret_eq hF
                              exact x_sub [1, 2, 3, 4, 5, 6, 7, 8, 9, 10, 11, 12, 13, 14, 0] rfl kJ454
                            · refine x_bipush (pc := 447) C (-33) dL_leaves_447 kb_m33 ?_
                              refine x_goto (pc := 449) C 454 dL_leaves_449 rfl ?_
                              obtain ⟨rfl, rfl⟩ := ret_eq hF
                              exact x_sub [1, 2, 3, 4, 5, 6, 7, 8, 9, 10, 11, 12, 13, 14, 0] rfl kJ454
                    · refine x_aload_n (pc := 299) C 4 dL_leaves_299 rfl rfl ?_
                      refine x_iconst (pc := 300) C 1 dL_leaves_300 ki_1 ?_
                      refine w_ald (pc := 301) C (vA_m 0 (by decide)) hF dL_leaves_301 (fun x437 hF => ?_)
                      refine x_bipush (pc := 302) C 40 dL_leaves_302 kb_40 ?_
                      refine x_icmp_ge (pc := 304) C 418 dL_leaves_304 rfl hF (fun c477 hF => ?_) (fun c477 hF => ?_)
                      · refine x_iload (pc := 418) C 14 dL_leaves_418 rfl ?_
                        refine x_if_eq (pc := 420) C 436 dL_leaves_420 rfl hF (fun c458 hF => ?_) (fun c458 hF => ?_)
                        · refine x_aload_n (pc := 436) C 1 dL_leaves_436 rfl rfl ?_
                          refine x_iload (pc := 437) C 10 dL_leaves_437 rfl ?_
                          refine cL1_2 (pc := 439) C hX hF (fun _ _ h => c_L_rake l _ b hl _ h) wq775 wq104 wq774 hd_L_rake wq773 rfl rfl ⟨Nat.le_of_ble_eq_true rfl, Nat.le_of_ble_eq_true rfl⟩ (Nat.le_of_ble_eq_true rfl) ⟨Nat.le_of_ble_eq_true rfl, Nat.le_of_ble_eq_true rfl⟩ dL_leaves_439 (fun x438 w439 hF => ?_)
                          refine x_iload (pc := 442) C 14 dL_leaves_442 rfl ?_
                          obtain ⟨o441, w440, hL, hF⟩ := bd_some hF
                          refine x_join (P1 := CW G b w440) (pcJ := 454) (lvJ := [(0, .ref (b)), (1, .int (a2)), (2, .int (a3)), (3, .ref (ra b 10 0)), (4, .ref (ra b 10 1)), (5, .ref (ra b 10 2)), (6, .ref (ra b 10 3)), (7, .ref (ra b 10 4)), (8, .ref (ra b 10 5)), (9, .int (x2)), (10, .int (x7)), (11, .int (x9)), (12, .int (x11)), (13, .int (o14)), (14, .int (o17))]) (stJ := [.int (o441), .int (x438)]) 1 6 ?_ (fun kJ454 => ?_)
                          · refine x_icmp_ne (pc := 454) C 461 dL_leaves_454 rfl hF (fun c443 hF => ?_) (fun c443 hF => ?_)
                            · exact none_ne hF
                            · refine x_iconst (pc := 457) C 1 dL_leaves_457 ki_1 ?_
                              refine x_goto (pc := 458) C 462 dL_leaves_458 rfl ?_
                              obtain ⟨rfl, rfl⟩ := ret_eq hF
                              refine xv_ret rfl (Nat.le_of_ble_eq_true rfl) (Nat.le_of_ble_eq_true rfl) ?_
                              exact x_zret (pc := 462) C rfl hr rfl (fun _ h => h) dL_leaves_462
                          · replace hF := hL
                            refine x_if_eq (pc := 444) C 452 dL_leaves_444 rfl hF (fun c442 hF => ?_) (fun c442 hF => ?_)
                            · refine x_bipush (pc := 452) C (-31) dL_leaves_452 kb_m31 ?_
                              obtain ⟨rfl, rfl⟩ := ret_eq hF
                              exact x_sub [1, 2, 3, 4, 5, 6, 7, 8, 9, 10, 11, 12, 13, 14, 0] rfl kJ454
                            · refine x_bipush (pc := 447) C (-33) dL_leaves_447 kb_m33 ?_
                              refine x_goto (pc := 449) C 454 dL_leaves_449 rfl ?_
                              obtain ⟨rfl, rfl⟩ := ret_eq hF
                              exact x_sub [1, 2, 3, 4, 5, 6, 7, 8, 9, 10, 11, 12, 13, 14, 0] rfl kJ454
                        · refine x_iload (pc := 423) C 10 dL_leaves_423 rfl ?_
                          refine x_aload_n (pc := 425) C 4 dL_leaves_425 rfl rfl ?_
                          refine x_aload (pc := 426) C 6 dL_leaves_426 rfl ?_
                          refine x_aload (pc := 428) C 7 dL_leaves_428 rfl ?_
                          refine cS1_4 (pc := 430) (val := Value.int) C hF (fun _ _ h => c_L_heap l _ b _ h) sm_L_heap wq421 rfl rfl ⟨Nat.le_of_ble_eq_true rfl, Nat.le_of_ble_eq_true rfl⟩ (Nat.le_of_ble_eq_true rfl) ⟨Nat.zero_le _, Nat.zero_le _⟩ dL_leaves_430 (fun x445 w444 hF => ?_)
                          refine x_if_ne (pc := 433) C 463 dL_leaves_433 rfl hF (fun c457 hF => ?_) (fun c457 hF => ?_)
                          · refine x_iload (pc := 463) C 10 dL_leaves_463 rfl ?_
                            refine x_aload_n (pc := 465) C 4 dL_leaves_465 rfl rfl ?_
                            refine x_aload (pc := 466) C 6 dL_leaves_466 rfl ?_
                            refine x_aload (pc := 468) C 7 dL_leaves_468 rfl ?_
                            refine x_aload (pc := 470) C 8 dL_leaves_470 rfl ?_
                            refine x_aload (pc := 472) C 9 dL_leaves_472 rfl ?_
                            refine cS1_6 (pc := 474) (val := Value.int) C hF (fun _ _ h => c_L_raked l _ b _ h) sm_L_raked wq752 rfl rfl ⟨Nat.le_of_ble_eq_true rfl, Nat.le_of_ble_eq_true rfl⟩ (Nat.le_of_ble_eq_true rfl) ⟨Nat.zero_le _, Nat.zero_le _⟩ dL_leaves_474 (fun x447 w446 hF => ?_)
                            refine x_istore (pc := 477) C [(15, .int (x447)), (14, .int (o17)), (0, .ref (b)), (1, .int (a2)), (2, .int (a3)), (3, .ref (ra b 10 0)), (4, .ref (ra b 10 1)), (5, .ref (ra b 10 2)), (6, .ref (ra b 10 3)), (7, .ref (ra b 10 4)), (8, .ref (ra b 10 5)), (9, .int (x2)), (10, .int (x7)), (11, .int (x9)), (12, .int (x11)), (13, .int (o14))] dL_leaves_477 (by decide) rfl ?_
                            refine x_aload_n (pc := 479) C 2 dL_leaves_479 rfl rfl ?_
                            refine x_iload (pc := 480) C 11 dL_leaves_480 rfl ?_
                            refine cL1_2 (pc := 482) C hX hF (fun _ _ h => c_L_rake l _ b hl _ h) wq775 wq104 wq774 hd_L_rake wq773 rfl rfl ⟨Nat.le_of_ble_eq_true rfl, Nat.le_of_ble_eq_true rfl⟩ (Nat.le_of_ble_eq_true rfl) ⟨Nat.le_of_ble_eq_true rfl, Nat.le_of_ble_eq_true rfl⟩ dL_leaves_482 (fun x448 w449 hF => ?_)
                            refine x_iload (pc := 485) C 0 dL_leaves_485 rfl ?_
                            refine x_icmp_ne (pc := 487) C 494 dL_leaves_487 rfl hF (fun c450 hF => ?_) (fun c450 hF => ?_)
                            · exact none_ne hF
                            · refine x_iconst (pc := 490) C 1 dL_leaves_490 ki_1 ?_
                              refine x_goto (pc := 491) C 495 dL_leaves_491 rfl ?_
                              obtain ⟨rfl, rfl⟩ := ret_eq hF
                              refine xv_ret rfl (Nat.le_of_ble_eq_true rfl) (Nat.le_of_ble_eq_true rfl) ?_
                              exact x_zret (pc := 495) C rfl hr rfl (fun _ h => h) dL_leaves_495
                          · refine x_aload_n (pc := 436) C 1 dL_leaves_436 rfl rfl ?_
                            refine x_iload (pc := 437) C 10 dL_leaves_437 rfl ?_
                            refine cL1_2 (pc := 439) C hX hF (fun _ _ h => c_L_rake l _ b hl _ h) wq775 wq104 wq774 hd_L_rake wq773 rfl rfl ⟨Nat.le_of_ble_eq_true rfl, Nat.le_of_ble_eq_true rfl⟩ (Nat.le_of_ble_eq_true rfl) ⟨Nat.le_of_ble_eq_true rfl, Nat.le_of_ble_eq_true rfl⟩ dL_leaves_439 (fun x451 w452 hF => ?_)
                            refine x_iload (pc := 442) C 14 dL_leaves_442 rfl ?_
                            obtain ⟨o454, w453, hL, hF⟩ := bd_some hF
                            refine x_join (P1 := CW G b w453) (pcJ := 454) (lvJ := [(0, .ref (b)), (1, .int (a2)), (2, .int (a3)), (3, .ref (ra b 10 0)), (4, .ref (ra b 10 1)), (5, .ref (ra b 10 2)), (6, .ref (ra b 10 3)), (7, .ref (ra b 10 4)), (8, .ref (ra b 10 5)), (9, .int (x2)), (10, .int (x7)), (11, .int (x9)), (12, .int (x11)), (13, .int (o14)), (14, .int (o17))]) (stJ := [.int (o454), .int (x451)]) 1 6 ?_ (fun kJ454 => ?_)
                            · refine x_icmp_ne (pc := 454) C 461 dL_leaves_454 rfl hF (fun c456 hF => ?_) (fun c456 hF => ?_)
                              · exact none_ne hF
                              · refine x_iconst (pc := 457) C 1 dL_leaves_457 ki_1 ?_
                                refine x_goto (pc := 458) C 462 dL_leaves_458 rfl ?_
                                obtain ⟨rfl, rfl⟩ := ret_eq hF
                                refine xv_ret rfl (Nat.le_of_ble_eq_true rfl) (Nat.le_of_ble_eq_true rfl) ?_
                                exact x_zret (pc := 462) C rfl hr rfl (fun _ h => h) dL_leaves_462
                            · replace hF := hL
                              refine x_if_eq (pc := 444) C 452 dL_leaves_444 rfl hF (fun c455 hF => ?_) (fun c455 hF => ?_)
                              · refine x_bipush (pc := 452) C (-31) dL_leaves_452 kb_m31 ?_
                                obtain ⟨rfl, rfl⟩ := ret_eq hF
                                exact x_sub [1, 2, 3, 4, 5, 6, 7, 8, 9, 10, 11, 12, 13, 14, 0] rfl kJ454
                              · refine x_bipush (pc := 447) C (-33) dL_leaves_447 kb_m33 ?_
                                refine x_goto (pc := 449) C 454 dL_leaves_449 rfl ?_
                                obtain ⟨rfl, rfl⟩ := ret_eq hF
                                exact x_sub [1, 2, 3, 4, 5, 6, 7, 8, 9, 10, 11, 12, 13, 14, 0] rfl kJ454
                      · refine x_iload (pc := 307) C 0 dL_leaves_307 rfl ?_
                        refine x_if_ne (pc := 309) C 358 dL_leaves_309 rfl hF (fun c476 hF => ?_) (fun c476 hF => ?_)
                        · refine x_iload (pc := 358) C 10 dL_leaves_358 rfl ?_
                          refine x_iload (pc := 360) C 11 dL_leaves_360 rfl ?_
                          refine x_aload_n (pc := 362) C 4 dL_leaves_362 rfl rfl ?_
                          refine x_aload (pc := 363) C 5 dL_leaves_363 rfl ?_
                          refine x_aload (pc := 365) C 6 dL_leaves_365 rfl ?_
                          refine x_aload (pc := 367) C 7 dL_leaves_367 rfl ?_
                          refine x_aload (pc := 369) C 8 dL_leaves_369 rfl ?_
                          refine x_aload (pc := 371) C 9 dL_leaves_371 rfl ?_
                          refine cS1_8 (pc := 373) (val := Value.int) C hF (fun _ _ h => c_L_taken l _ b _ _ h) sm_L_taken wq749 rfl rfl ⟨Nat.le_of_ble_eq_true rfl, Nat.le_of_ble_eq_true rfl⟩ (Nat.le_of_ble_eq_true rfl) ⟨Nat.zero_le _, Nat.zero_le _⟩ dL_leaves_373 (fun x460 w459 hF => ?_)
                          refine x_istore (pc := 376) C [(15, .int (x460)), (14, .int (o17)), (0, .ref (b)), (1, .int (a2)), (2, .int (a3)), (3, .ref (ra b 10 0)), (4, .ref (ra b 10 1)), (5, .ref (ra b 10 2)), (6, .ref (ra b 10 3)), (7, .ref (ra b 10 4)), (8, .ref (ra b 10 5)), (9, .int (x2)), (10, .int (x7)), (11, .int (x9)), (12, .int (x11)), (13, .int (o14))] dL_leaves_376 (by decide) rfl ?_
                          refine x_iload (pc := 378) C 12 dL_leaves_378 rfl ?_
                          refine x_iload (pc := 380) C 13 dL_leaves_380 rfl ?_
                          refine x_aload_n (pc := 382) C 5 dL_leaves_382 rfl rfl ?_
                          refine x_aload (pc := 383) C 6 dL_leaves_383 rfl ?_
                          refine x_aload (pc := 385) C 7 dL_leaves_385 rfl ?_
                          refine cS1_5 (pc := 387) (val := Value.int) C hF (fun _ _ h => c_L_grown l _ b _ _ h) sm_L_grown wq713 rfl rfl ⟨Nat.le_of_ble_eq_true rfl, Nat.le_of_ble_eq_true rfl⟩ (Nat.le_of_ble_eq_true rfl) ⟨Nat.zero_le _, Nat.zero_le _⟩ dL_leaves_387 (fun x462 w461 hF => ?_)
                          refine x_istore (pc := 390) C [(16, .int (x462)), (15, .int (x460)), (14, .int (o17)), (0, .ref (b)), (1, .int (a2)), (2, .int (a3)), (3, .ref (ra b 10 0)), (4, .ref (ra b 10 1)), (5, .ref (ra b 10 2)), (6, .ref (ra b 10 3)), (7, .ref (ra b 10 4)), (8, .ref (ra b 10 5)), (9, .int (x2)), (10, .int (x7)), (11, .int (x9)), (12, .int (x11)), (13, .int (o14))] dL_leaves_390 (by decide) rfl ?_
                          refine x_iload (pc := 392) C 1 dL_leaves_392 rfl ?_
                          refine x_if_lt (pc := 394) C 416 dL_leaves_394 rfl hF (fun c466 hF => ?_) (fun c466 hF => ?_)
                          · exact none_ne hF
                          · refine x_aload_n (pc := 397) C 3 dL_leaves_397 rfl rfl ?_
                            refine x_iload (pc := 398) C 12 dL_leaves_398 rfl ?_
                            refine x_iload (pc := 400) C 13 dL_leaves_400 rfl ?_
                            refine x_iload (pc := 402) C 14 dL_leaves_402 rfl ?_
                            refine cL1_4 (pc := 404) C hX hF (fun _ _ h => c_L_swap l _ b hl _ _ _ h) wq757 wq104 wq756 hd_L_swap wq755 rfl rfl ⟨Nat.le_of_ble_eq_true rfl, Nat.le_of_ble_eq_true rfl⟩ (Nat.le_of_ble_eq_true rfl) ⟨Nat.le_of_ble_eq_true rfl, Nat.le_of_ble_eq_true rfl⟩ dL_leaves_404 (fun x463 w464 hF => ?_)
                            refine x_iload (pc := 407) C 0 dL_leaves_407 rfl ?_
                            refine x_icmp_ne (pc := 409) C 416 dL_leaves_409 rfl hF (fun c465 hF => ?_) (fun c465 hF => ?_)
                            · exact none_ne hF
                            · refine x_iconst (pc := 412) C 1 dL_leaves_412 ki_1 ?_
                              refine x_goto (pc := 413) C 417 dL_leaves_413 rfl ?_
                              obtain ⟨rfl, rfl⟩ := ret_eq hF
                              refine xv_ret rfl (Nat.le_of_ble_eq_true rfl) (Nat.le_of_ble_eq_true rfl) ?_
                              exact x_zret (pc := 417) C rfl hr rfl (fun _ h => h) dL_leaves_417
                        · refine x_aload_n (pc := 312) C 1 dL_leaves_312 rfl rfl ?_
                          refine x_iload (pc := 313) C 10 dL_leaves_313 rfl ?_
                          refine x_iload (pc := 315) C 11 dL_leaves_315 rfl ?_
                          refine x_iload (pc := 317) C 12 dL_leaves_317 rfl ?_
                          refine cL1_4 (pc := 319) C hX hF (fun _ _ h => c_L_swap l _ b hl _ _ _ h) wq757 wq104 wq756 hd_L_swap wq755 rfl rfl ⟨Nat.le_of_ble_eq_true rfl, Nat.le_of_ble_eq_true rfl⟩ (Nat.le_of_ble_eq_true rfl) ⟨Nat.le_of_ble_eq_true rfl, Nat.le_of_ble_eq_true rfl⟩ dL_leaves_319 (fun x467 w468 hF => ?_)
                          refine x_iload (pc := 322) C 14 dL_leaves_322 rfl ?_
                          obtain ⟨o470, w469, hL, hF⟩ := bd_some hF
                          refine x_join (P1 := CW G b w469) (pcJ := 334) (lvJ := [(0, .ref (b)), (1, .int (a2)), (2, .int (a3)), (3, .ref (ra b 10 0)), (4, .ref (ra b 10 1)), (5, .ref (ra b 10 2)), (6, .ref (ra b 10 3)), (7, .ref (ra b 10 4)), (8, .ref (ra b 10 5)), (9, .int (x2)), (10, .int (x7)), (11, .int (x9)), (12, .int (x11)), (13, .int (o14)), (14, .int (o17))]) (stJ := [.int (o470), .int (x467)]) 1 6 ?_ (fun kJ334 => ?_)
                          · refine x_icmp_ne (pc := 334) C 356 dL_leaves_334 rfl hF (fun c475 hF => ?_) (fun c475 hF => ?_)
                            · exact none_ne hF
                            · refine x_aload_n (pc := 337) C 0 dL_leaves_337 rfl rfl ?_
                              refine x_iload (pc := 338) C 9 dL_leaves_338 rfl ?_
                              refine x_bipush (pc := 340) C 12 dL_leaves_340 kb_12 ?_
                              refine x_iload (pc := 342) C 11 dL_leaves_342 rfl ?_
                              refine cL1_4 (pc := 344) C hX hF (fun _ _ h => c_L_swap l _ b hl _ _ _ h) wq757 wq104 wq756 hd_L_swap wq755 rfl rfl ⟨Nat.le_of_ble_eq_true rfl, Nat.le_of_ble_eq_true rfl⟩ (Nat.le_of_ble_eq_true rfl) ⟨Nat.le_of_ble_eq_true rfl, Nat.le_of_ble_eq_true rfl⟩ dL_leaves_344 (fun x472 w473 hF => ?_)
                              refine x_bipush (pc := 347) C (-31) dL_leaves_347 kb_m31 ?_
                              refine x_icmp_ne (pc := 349) C 356 dL_leaves_349 rfl hF (fun c474 hF => ?_) (fun c474 hF => ?_)
                              · exact none_ne hF
                              · refine x_iconst (pc := 352) C 1 dL_leaves_352 ki_1 ?_
                                refine x_goto (pc := 353) C 357 dL_leaves_353 rfl ?_
                                obtain ⟨rfl, rfl⟩ := ret_eq hF
                                refine xv_ret rfl (Nat.le_of_ble_eq_true rfl) (Nat.le_of_ble_eq_true rfl) ?_
                                exact x_zret (pc := 357) C rfl hr rfl (fun _ h => h) dL_leaves_357
                          · replace hF := hL
                            refine x_if_eq (pc := 324) C 332 dL_leaves_324 rfl hF (fun c471 hF => ?_) (fun c471 hF => ?_)
                            · refine x_bipush (pc := 332) C (-31) dL_leaves_332 kb_m31 ?_
                              obtain ⟨rfl, rfl⟩ := ret_eq hF
                              exact x_sub [1, 2, 3, 4, 5, 6, 7, 8, 9, 10, 11, 12, 13, 14, 0] rfl kJ334
                            · refine x_bipush (pc := 327) C (-33) dL_leaves_327 kb_m33 ?_
                              refine x_goto (pc := 329) C 334 dL_leaves_329 rfl ?_
                              obtain ⟨rfl, rfl⟩ := ret_eq hF
                              exact x_sub [1, 2, 3, 4, 5, 6, 7, 8, 9, 10, 11, 12, 13, 14, 0] rfl kJ334
                  · refine x_iload (pc := 220) C 0 dL_leaves_220 rfl ?_
                    refine x_if_ne (pc := 222) C 254 dL_leaves_222 rfl hF (fun c490 hF => ?_) (fun c490 hF => ?_)
                    · refine x_iload (pc := 254) C 10 dL_leaves_254 rfl ?_
                      refine x_iload (pc := 256) C 11 dL_leaves_256 rfl ?_
                      refine x_aload_n (pc := 258) C 4 dL_leaves_258 rfl rfl ?_
                      refine x_aload (pc := 259) C 5 dL_leaves_259 rfl ?_
                      refine x_aload (pc := 261) C 6 dL_leaves_261 rfl ?_
                      refine x_aload (pc := 263) C 7 dL_leaves_263 rfl ?_
                      refine x_aload (pc := 265) C 8 dL_leaves_265 rfl ?_
                      refine x_aload (pc := 267) C 9 dL_leaves_267 rfl ?_
                      refine cS1_8 (pc := 269) (val := Value.int) C hF (fun _ _ h => c_L_taken l _ b _ _ h) sm_L_taken wq749 rfl rfl ⟨Nat.le_of_ble_eq_true rfl, Nat.le_of_ble_eq_true rfl⟩ (Nat.le_of_ble_eq_true rfl) ⟨Nat.zero_le _, Nat.zero_le _⟩ dL_leaves_269 (fun x480 w479 hF => ?_)
                      refine x_istore (pc := 272) C [(15, .int (x480)), (14, .int (o17)), (0, .ref (b)), (1, .int (a2)), (2, .int (a3)), (3, .ref (ra b 10 0)), (4, .ref (ra b 10 1)), (5, .ref (ra b 10 2)), (6, .ref (ra b 10 3)), (7, .ref (ra b 10 4)), (8, .ref (ra b 10 5)), (9, .int (x2)), (10, .int (x7)), (11, .int (x9)), (12, .int (x11)), (13, .int (o14))] dL_leaves_272 (by decide) rfl ?_
                      refine x_aload_n (pc := 274) C 2 dL_leaves_274 rfl rfl ?_
                      refine x_iload (pc := 275) C 11 dL_leaves_275 rfl ?_
                      refine x_iload (pc := 277) C 12 dL_leaves_277 rfl ?_
                      refine cL1_3 (pc := 279) C hX hF (fun _ _ h => c_L_take l _ b hl _ _ h) wq718 wq104 wq717 hd_L_take wq716 rfl rfl ⟨Nat.le_of_ble_eq_true rfl, Nat.le_of_ble_eq_true rfl⟩ (Nat.le_of_ble_eq_true rfl) ⟨Nat.le_of_ble_eq_true rfl, Nat.le_of_ble_eq_true rfl⟩ dL_leaves_279 (fun x481 w482 hF => ?_)
                      refine x_iload (pc := 282) C 0 dL_leaves_282 rfl ?_
                      refine x_icmp_ne (pc := 284) C 291 dL_leaves_284 rfl hF (fun c483 hF => ?_) (fun c483 hF => ?_)
                      · exact none_ne hF
                      · refine x_iconst (pc := 287) C 1 dL_leaves_287 ki_1 ?_
                        refine x_goto (pc := 288) C 292 dL_leaves_288 rfl ?_
                        obtain ⟨rfl, rfl⟩ := ret_eq hF
                        refine xv_ret rfl (Nat.le_of_ble_eq_true rfl) (Nat.le_of_ble_eq_true rfl) ?_
                        exact x_zret (pc := 292) C rfl hr rfl (fun _ h => h) dL_leaves_292
                    · refine x_aload_n (pc := 225) C 1 dL_leaves_225 rfl rfl ?_
                      refine x_iload (pc := 226) C 10 dL_leaves_226 rfl ?_
                      refine x_iload (pc := 228) C 11 dL_leaves_228 rfl ?_
                      refine cL1_3 (pc := 230) C hX hF (fun _ _ h => c_L_take l _ b hl _ _ h) wq718 wq104 wq717 hd_L_take wq716 rfl rfl ⟨Nat.le_of_ble_eq_true rfl, Nat.le_of_ble_eq_true rfl⟩ (Nat.le_of_ble_eq_true rfl) ⟨Nat.le_of_ble_eq_true rfl, Nat.le_of_ble_eq_true rfl⟩ dL_leaves_230 (fun x484 w485 hF => ?_)
                      refine x_iload (pc := 233) C 14 dL_leaves_233 rfl ?_
                      obtain ⟨o487, w486, hL, hF⟩ := bd_some hF
                      refine x_join (P1 := CW G b w486) (pcJ := 245) (lvJ := [(0, .ref (b)), (1, .int (a2)), (2, .int (a3)), (3, .ref (ra b 10 0)), (4, .ref (ra b 10 1)), (5, .ref (ra b 10 2)), (6, .ref (ra b 10 3)), (7, .ref (ra b 10 4)), (8, .ref (ra b 10 5)), (9, .int (x2)), (10, .int (x7)), (11, .int (x9)), (12, .int (x11)), (13, .int (o14)), (14, .int (o17))]) (stJ := [.int (o487), .int (x484)]) 1 6 ?_ (fun kJ245 => ?_)
                      · refine x_icmp_ne (pc := 245) C 252 dL_leaves_245 rfl hF (fun c489 hF => ?_) (fun c489 hF => ?_)
                        · exact none_ne hF
                        · refine x_iconst (pc := 248) C 1 dL_leaves_248 ki_1 ?_
                          refine x_goto (pc := 249) C 253 dL_leaves_249 rfl ?_
                          obtain ⟨rfl, rfl⟩ := ret_eq hF
                          refine xv_ret rfl (Nat.le_of_ble_eq_true rfl) (Nat.le_of_ble_eq_true rfl) ?_
                          exact x_zret (pc := 253) C rfl hr rfl (fun _ h => h) dL_leaves_253
                      · replace hF := hL
                        refine x_if_eq (pc := 235) C 243 dL_leaves_235 rfl hF (fun c488 hF => ?_) (fun c488 hF => ?_)
                        · refine x_bipush (pc := 243) C (-31) dL_leaves_243 kb_m31 ?_
                          obtain ⟨rfl, rfl⟩ := ret_eq hF
                          exact x_sub [1, 2, 3, 4, 5, 6, 7, 8, 9, 10, 11, 12, 13, 14, 0] rfl kJ245
                        · refine x_bipush (pc := 238) C (-33) dL_leaves_238 kb_m33 ?_
                          refine x_goto (pc := 240) C 245 dL_leaves_240 rfl ?_
                          obtain ⟨rfl, rfl⟩ := ret_eq hF
                          exact x_sub [1, 2, 3, 4, 5, 6, 7, 8, 9, 10, 11, 12, 13, 14, 0] rfl kJ245
                · refine x_iload (pc := 181) C 11 dL_leaves_181 rfl ?_
                  refine x_iload (pc := 183) C 12 dL_leaves_183 rfl ?_
                  refine x_aload_n (pc := 185) C 4 dL_leaves_185 rfl rfl ?_
                  refine x_aload (pc := 186) C 5 dL_leaves_186 rfl ?_
                  refine x_aload (pc := 188) C 6 dL_leaves_188 rfl ?_
                  refine cS1_5 (pc := 190) (val := Value.int) C hF (fun _ _ h => c_L_grown l _ b _ _ h) sm_L_grown wq713 rfl rfl ⟨Nat.le_of_ble_eq_true rfl, Nat.le_of_ble_eq_true rfl⟩ (Nat.le_of_ble_eq_true rfl) ⟨Nat.zero_le _, Nat.zero_le _⟩ dL_leaves_190 (fun x493 w492 hF => ?_)
                  refine x_istore (pc := 193) C [(15, .int (x493)), (14, .int (o17)), (0, .ref (b)), (1, .int (a2)), (2, .int (a3)), (3, .ref (ra b 10 0)), (4, .ref (ra b 10 1)), (5, .ref (ra b 10 2)), (6, .ref (ra b 10 3)), (7, .ref (ra b 10 4)), (8, .ref (ra b 10 5)), (9, .int (x2)), (10, .int (x7)), (11, .int (x9)), (12, .int (x11)), (13, .int (o14))] dL_leaves_193 (by decide) rfl ?_
                  refine x_aload_n (pc := 195) C 2 dL_leaves_195 rfl rfl ?_
                  refine x_iload (pc := 196) C 12 dL_leaves_196 rfl ?_
                  refine x_iload (pc := 198) C 13 dL_leaves_198 rfl ?_
                  refine cL1_3 (pc := 200) C hX hF (fun _ _ h => c_L_grow l _ b hl _ _ h) wq696 wq104 wq695 hd_L_grow wq694 rfl rfl ⟨Nat.le_of_ble_eq_true rfl, Nat.le_of_ble_eq_true rfl⟩ (Nat.le_of_ble_eq_true rfl) ⟨Nat.le_of_ble_eq_true rfl, Nat.le_of_ble_eq_true rfl⟩ dL_leaves_200 (fun x494 w495 hF => ?_)
                  refine x_iload (pc := 203) C 0 dL_leaves_203 rfl ?_
                  refine x_icmp_ne (pc := 205) C 212 dL_leaves_205 rfl hF (fun c496 hF => ?_) (fun c496 hF => ?_)
                  · exact none_ne hF
                  · refine x_iconst (pc := 208) C 1 dL_leaves_208 ki_1 ?_
                    refine x_goto (pc := 209) C 213 dL_leaves_209 rfl ?_
                    obtain ⟨rfl, rfl⟩ := ret_eq hF
                    refine xv_ret rfl (Nat.le_of_ble_eq_true rfl) (Nat.le_of_ble_eq_true rfl) ?_
                    exact x_zret (pc := 213) C rfl hr rfl (fun _ h => h) dL_leaves_213
          · refine x_aload_n (pc := 115) C 1 dL_leaves_115 rfl rfl ?_
            refine x_iload (pc := 116) C 11 dL_leaves_116 rfl ?_
            refine x_iload (pc := 118) C 12 dL_leaves_118 rfl ?_
            refine cL1_3 (pc := 120) C hX hF (fun _ _ h => c_L_grow l _ b hl _ _ h) wq696 wq104 wq695 hd_L_grow wq694 rfl rfl ⟨Nat.le_of_ble_eq_true rfl, Nat.le_of_ble_eq_true rfl⟩ (Nat.le_of_ble_eq_true rfl) ⟨Nat.le_of_ble_eq_true rfl, Nat.le_of_ble_eq_true rfl⟩ dL_leaves_120 (fun x500 w501 hF => ?_)
            refine x_bipush (pc := 123) C (-33) dL_leaves_123 kb_m33 ?_
            refine x_icmp_ne (pc := 125) C 157 dL_leaves_125 rfl hF (fun c508 hF => ?_) (fun c508 hF => ?_)
            · exact none_ne hF
            · refine x_aload_n (pc := 128) C 1 dL_leaves_128 rfl rfl ?_
              refine x_bipush (pc := 129) C 12 dL_leaves_129 kb_12 ?_
              refine x_iconst (pc := 131) C 0 dL_leaves_131 ki_0 ?_
              refine cL1_3 (pc := 132) C hX hF (fun _ _ h => c_L_grow l _ b hl _ _ h) wq696 wq104 wq695 hd_L_grow wq694 rfl rfl ⟨Nat.le_of_ble_eq_true rfl, Nat.le_of_ble_eq_true rfl⟩ (Nat.le_of_ble_eq_true rfl) ⟨Nat.le_of_ble_eq_true rfl, Nat.le_of_ble_eq_true rfl⟩ dL_leaves_132 (fun x502 w503 hF => ?_)
              refine x_bipush (pc := 135) C (-31) dL_leaves_135 kb_m31 ?_
              refine x_icmp_ne (pc := 137) C 157 dL_leaves_137 rfl hF (fun c507 hF => ?_) (fun c507 hF => ?_)
              · exact none_ne hF
              · refine x_aload_n (pc := 140) C 1 dL_leaves_140 rfl rfl ?_
                refine x_iload (pc := 141) C 11 dL_leaves_141 rfl ?_
                refine x_bipush (pc := 143) C 10 dL_leaves_143 kb_10 ?_
                refine cL1_3 (pc := 145) C hX hF (fun _ _ h => c_L_grow l _ b hl _ _ h) wq696 wq104 wq695 hd_L_grow wq694 rfl rfl ⟨Nat.le_of_ble_eq_true rfl, Nat.le_of_ble_eq_true rfl⟩ (Nat.le_of_ble_eq_true rfl) ⟨Nat.le_of_ble_eq_true rfl, Nat.le_of_ble_eq_true rfl⟩ dL_leaves_145 (fun x504 w505 hF => ?_)
                refine x_bipush (pc := 148) C (-32) dL_leaves_148 kb_m32 ?_
                refine x_icmp_ne (pc := 150) C 157 dL_leaves_150 rfl hF (fun c506 hF => ?_) (fun c506 hF => ?_)
                · exact none_ne hF
                · refine x_iconst (pc := 153) C 1 dL_leaves_153 ki_1 ?_
                  refine x_goto (pc := 154) C 158 dL_leaves_154 rfl ?_
                  obtain ⟨rfl, rfl⟩ := ret_eq hF
                  refine xv_ret rfl (Nat.le_of_ble_eq_true rfl) (Nat.le_of_ble_eq_true rfl) ?_
                  exact x_zret (pc := 158) C rfl hr rfl (fun _ h => h) dL_leaves_158
      · replace hF := hL
        refine x_if_eq (pc := 69) C 98 dL_leaves_69 rfl hF (fun c22 hF => ?_) (fun c22 hF => ?_)
        · refine x_iconst (pc := 98) C 0 dL_leaves_98 ki_0 ?_
          obtain ⟨rfl, rfl⟩ := ret_eq hF
          exact x_sub [1, 2, 3, 4, 5, 6, 7, 8, 9, 10, 11, 12, 13, 0] rfl kJ99
        · refine x_aload (pc := 72) C 8 dL_leaves_72 rfl ?_
          refine x_bipush (pc := 74) C 6 dL_leaves_74 kb_6 ?_
          refine x_iload (pc := 76) C 10 dL_leaves_76 rfl ?_
          refine x_imul (pc := 78) C dL_leaves_78 ?_
          refine x_iconst (pc := 79) C 1 dL_leaves_79 ki_1 ?_
          refine x_iadd (pc := 80) C dL_leaves_80 ?_
          refine w_ald (pc := 81) C (vA_m 4 (by decide)) hF dL_leaves_81 (fun x18 hF => ?_)
          refine x_iconst (pc := 82) C 1 dL_leaves_82 ki_1 ?_
          refine x_icmp_ne (pc := 83) C 98 dL_leaves_83 rfl hF (fun c21 hF => ?_) (fun c21 hF => ?_)
          · refine x_iconst (pc := 98) C 0 dL_leaves_98 ki_0 ?_
            obtain ⟨rfl, rfl⟩ := ret_eq hF
            exact x_sub [1, 2, 3, 4, 5, 6, 7, 8, 9, 10, 11, 12, 13, 0] rfl kJ99
          · refine x_aload (pc := 86) C 5 dL_leaves_86 rfl ?_
            refine x_iload (pc := 88) C 11 dL_leaves_88 rfl ?_
            refine w_ald (pc := 90) C (vA_m 1 (by decide)) hF dL_leaves_90 (fun x19 hF => ?_)
            refine x_if_lt (pc := 91) C 98 dL_leaves_91 rfl hF (fun c20 hF => ?_) (fun c20 hF => ?_)
            · refine x_iconst (pc := 98) C 0 dL_leaves_98 ki_0 ?_
              obtain ⟨rfl, rfl⟩ := ret_eq hF
              exact x_sub [1, 2, 3, 4, 5, 6, 7, 8, 9, 10, 11, 12, 13, 0] rfl kJ99
            · refine x_iconst (pc := 94) C 1 dL_leaves_94 ki_1 ?_
              refine x_goto (pc := 95) C 99 dL_leaves_95 rfl ?_
              obtain ⟨rfl, rfl⟩ := ret_eq hF
              exact x_sub [1, 2, 3, 4, 5, 6, 7, 8, 9, 10, 11, 12, 13, 0] rfl kJ99
    · replace hF := hL
      refine x_icmp_ne (pc := 57) C 64 dL_leaves_57 rfl hF (fun c15 hF => ?_) (fun c15 hF => ?_)
      · refine x_iconst (pc := 64) C 0 dL_leaves_64 ki_0 ?_
        obtain ⟨rfl, rfl⟩ := ret_eq hF
        exact x_sub [3, 4, 5, 6, 7, 8, 9, 10, 11, 12, 2, 1, 0] rfl kJ65
      · refine x_iconst (pc := 60) C 1 dL_leaves_60 ki_1 ?_
        refine x_goto (pc := 61) C 65 dL_leaves_61 rfl ?_
        obtain ⟨rfl, rfl⟩ := ret_eq hF
        exact x_sub [3, 4, 5, 6, 7, 8, 9, 10, 11, 12, 2, 1, 0] rfl kJ65
  · replace hF := hL
    refine x_if_ne (pc := 15) C 22 dL_leaves_15 rfl hF (fun c5 hF => ?_) (fun c5 hF => ?_)
    · refine x_bipush (pc := 22) C 12 dL_leaves_22 kb_12 ?_
      obtain ⟨rfl, rfl⟩ := ret_eq hF
      exact x_sub [1, 2, 3, 4, 5, 6, 7, 8, 9, 0] rfl kJ24
    · refine x_iconst (pc := 18) C 4 dL_leaves_18 ki_4 ?_
      refine x_goto (pc := 19) C 24 dL_leaves_19 rfl ?_
      obtain ⟨rfl, rfl⟩ := ret_eq hF
      exact x_sub [1, 2, 3, 4, 5, 6, 7, 8, 9, 0] rfl kJ24
end WalkM
