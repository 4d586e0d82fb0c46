section LawWalk
variable {p : Program} {l : Launch} {e : Env} {s : State} {m : MethodId} {args : Array Value} {below : List Frame} {meth : Method} {c : Code} {Q : State → Prop} {b sb L : Nat} {xs : Nat → Int32} {G : xG}
set_option maxRecDepth 4000 in
theorem s_L_law_50 (C : xC p m c s args meth G b cL_law 13 RL) (hl : l.stackTraces = false) (hX : xF b s) : ∀ (n9 : Nat) (l8 : Int32) (w : xWt) (o : (Int32)) (w' : xWt), L_L_law_50 n9 l8 w = some (o, w') → xW p l e room_1 s m args below meth c Q b 13 (CW G b w') 300 10887 68 [(0, .ref (sb)), (1, .ref (b)), (2, .ref (ra b 10 0)), (3, .ref (ra b 10 1)), (4, .ref (ra b 10 2)), (5, .ref (ra b 10 3)), (6, .ref (ra b 10 4)), (7, .ref (ra b 10 5)), (8, .int (o))] [] → xW p l e room_1 s m args below meth c Q b 13 (CW G b w) 300 10887 50 [(0, .ref (sb)), (1, .ref (b)), (2, .ref (ra b 10 0)), (3, .ref (ra b 10 1)), (4, .ref (ra b 10 2)), (5, .ref (ra b 10 3)), (6, .ref (ra b 10 4)), (7, .ref (ra b 10 5)), (8, .int (l8))] [] := by
  intro n9
  induction n9 with
  | zero => intro l8 w o w' hF; exact none_ne (show none = some _ from hF)
  | succ n9 ih =>
    intro l8 w o w' hF kx
    replace hF : B_L_law_50 (L_L_law_50 n9) l8 w = some (o, w') := hF
    unfold B_L_law_50 at hF
    refine x_iload (pc := 50) C 8 dL_law_50 rfl ?_
    refine x_bipush (pc := 52) C 12 dL_law_52 kb_12 ?_
    refine x_icmp_ge (pc := 54) C 68 dL_law_54 rfl hF (fun c36 hF => ?_) (fun c36 hF => ?_)
    · obtain ⟨rfl, rfl⟩ := ret_eq hF
      exact x_sub [0, 1, 2, 3, 4, 5, 6, 7, 8] rfl kx
    · refine x_aload_n (pc := 57) C 3 dL_law_57 rfl rfl ?_
      refine x_iload (pc := 58) C 8 dL_law_58 rfl ?_
      refine x_iconst (pc := 60) C (-1) dL_law_60 ki_m1 ?_
      refine w_ast (pc := 61) C (vA_m 1 (by decide)) hF dL_law_61 (fun w35 hF => ?_)
      refine x_iinc (pc := 62) C 8 [(8, .int ((l8 + 1))), (0, .ref (sb)), (1, .ref (b)), (2, .ref (ra b 10 0)), (3, .ref (ra b 10 1)), (4, .ref (ra b 10 2)), (5, .ref (ra b 10 3)), (6, .ref (ra b 10 4)), (7, .ref (ra b 10 5))] dL_law_62 rfl rfl (by decide) rfl ?_
      refine x_goto (pc := 65) C 50 dL_law_65 rfl ?_
      exact x_sub [1, 2, 3, 4, 5, 6, 7, 8, 0] rfl (ih _ _ _ _ hF kx)
set_option maxRecDepth 4000 in
theorem s_L_law_71 (C : xC p m c s args meth G b cL_law 13 RL) (hl : l.stackTraces = false) (hX : xF b s) : ∀ (n9 : Nat) (l8 : Int32) (w : xWt) (o : (Int32)) (w' : xWt), L_L_law_71 n9 l8 w = some (o, w') → xW p l e room_1 s m args below meth c Q b 13 (CW G b w') 300 10887 92 [(0, .ref (sb)), (1, .ref (b)), (2, .ref (ra b 10 0)), (3, .ref (ra b 10 1)), (4, .ref (ra b 10 2)), (5, .ref (ra b 10 3)), (6, .ref (ra b 10 4)), (7, .ref (ra b 10 5)), (8, .int (o))] [] → xW p l e room_1 s m args below meth c Q b 13 (CW G b w) 300 10887 71 [(0, .ref (sb)), (1, .ref (b)), (2, .ref (ra b 10 0)), (3, .ref (ra b 10 1)), (4, .ref (ra b 10 2)), (5, .ref (ra b 10 3)), (6, .ref (ra b 10 4)), (7, .ref (ra b 10 5)), (8, .int (l8))] [] := by
  intro n9
  induction n9 with
  | zero => intro l8 w o w' hF; exact none_ne (show none = some _ from hF)
  | succ n9 ih =>
    intro l8 w o w' hF kx
    replace hF : B_L_law_71 (L_L_law_71 n9) l8 w = some (o, w') := hF
    unfold B_L_law_71 at hF
    refine x_iload (pc := 71) C 8 dL_law_71 rfl ?_
    refine x_iconst (pc := 73) C 5 dL_law_73 ki_5 ?_
    refine x_icmp_ge (pc := 74) C 92 dL_law_74 rfl hF (fun c40 hF => ?_) (fun c40 hF => ?_)
    · obtain ⟨rfl, rfl⟩ := ret_eq hF
      exact x_sub [0, 1, 2, 3, 4, 5, 6, 7, 8] rfl kx
    · refine x_iload (pc := 77) C 8 dL_law_77 rfl ?_
      refine x_aload (pc := 79) C 6 dL_law_79 rfl ?_
      refine x_aload (pc := 81) C 7 dL_law_81 rfl ?_
      refine cS0_3 (pc := 83) C hF (fun _ _ h => c_L_without l _ b _ h) sm_L_without wq102 rfl rfl ⟨Nat.le_of_ble_eq_true rfl, Nat.le_of_ble_eq_true rfl⟩ (Nat.le_of_ble_eq_true rfl) ⟨Nat.le_of_ble_eq_true rfl, Nat.le_of_ble_eq_true rfl⟩ dL_law_83 (fun _ w39 hF => ?_)
      refine x_iinc (pc := 86) C 8 [(8, .int ((l8 + 1))), (0, .ref (sb)), (1, .ref (b)), (2, .ref (ra b 10 0)), (3, .ref (ra b 10 1)), (4, .ref (ra b 10 2)), (5, .ref (ra b 10 3)), (6, .ref (ra b 10 4)), (7, .ref (ra b 10 5))] dL_law_86 rfl rfl (by decide) rfl ?_
      refine x_goto (pc := 89) C 71 dL_law_89 rfl ?_
      exact x_sub [1, 2, 3, 4, 5, 6, 7, 8, 0] rfl (ih _ _ _ _ hF kx)
set_option maxRecDepth 8000 in
theorem s_law (C : xC p m c s args meth G b cL_law 13 RL) (hl : l.stackTraces = false) (hX : xF b s) (hS : xS b sb L xs s) : ∀ (n9 cells slots : Nat) (l8 : Int32) (w : xWt), cells + 10 * n9 ≤ 600130 → slots + 100 * n9 ≤ 7301080 → L_law xs L n9 l8 w = some () → (∀ (cells slots : Nat) (w' : xWt), cells ≤ 600130 → slots ≤ 7301080 → xW p l e room_1 s m args below meth c Q b 13 (CW G b w') cells slots 336 [(0, .ref (sb)), (1, .ref (b)), (2, .ref (ra b 10 0)), (3, .ref (ra b 10 1)), (4, .ref (ra b 10 2)), (5, .ref (ra b 10 3)), (6, .ref (ra b 10 4)), (7, .ref (ra b 10 5))] [.int 1]) → xW p l e room_1 s m args below meth c Q b 13 (CW G b w) cells slots 134 [(0, .ref (sb)), (1, .ref (b)), (2, .ref (ra b 10 0)), (3, .ref (ra b 10 1)), (4, .ref (ra b 10 2)), (5, .ref (ra b 10 3)), (6, .ref (ra b 10 4)), (7, .ref (ra b 10 5)), (8, .int (l8))] [] := by
  intro n9
  induction n9 with
  | zero => intro cells slots l8 w hc hs hF; exact none_ne (show none = some _ from hF)
  | succ n9 ih =>
    intro cells slots l8 w hc hs hF kx
    replace hF : B_law xs L (L_law xs L n9) l8 w = some () := hF
    unfold B_law at hF
    refine x_iload (pc := 134) C 8 dL_law_134 rfl ?_
    refine x_bipush (pc := 136) C 44 dL_law_136 kb_44 ?_
    refine x_icmp_ge (pc := 138) C 311 dL_law_138 rfl hF (fun c33 hF => ?_) (fun c33 hF => ?_)
    · refine x_aload_n (pc := 311) C 1 dL_law_311 rfl rfl ?_
      refine x_bipush (pc := 312) C 15 dL_law_312 kb_15 ?_
      refine cF1_1 (pc := 314) (val := Value.int) C hX hF (fun _ _ h => c_X7_count l _ b hl _ h) vm_X7_count wq115 ⟨Nat.le_of_ble_eq_true rfl, Nat.le_of_ble_eq_true rfl⟩ rfl rfl (fun _ h => CW.pl h) (Nat.le_of_ble_eq_true rfl) ⟨show _ ≤ 600130 by omega, show _ ≤ 7301080 by omega⟩ dL_law_314 (fun x1 w2 hF => ?_)
      refine x_bipush (pc := 317) C 6 dL_law_317 kb_6 ?_
      refine x_icmp_gt (pc := 319) C 335 dL_law_319 rfl hF (fun c6 hF => ?_) (fun c6 hF => ?_)
      · exact none_ne hF
      · refine x_aload_n (pc := 322) C 1 dL_law_322 rfl rfl ?_
        refine x_bipush (pc := 323) C 15 dL_law_323 kb_15 ?_
        refine cF1_1 (pc := 325) (val := Value.int) C hX hF (fun _ _ h => c_X7_count l _ b hl _ h) vm_X7_count wq115 ⟨Nat.le_of_ble_eq_true rfl, Nat.le_of_ble_eq_true rfl⟩ rfl rfl (fun _ h => CW.pl h) (Nat.le_of_ble_eq_true rfl) ⟨show _ ≤ 600130 by omega, show _ ≤ 7301080 by omega⟩ dL_law_325 (fun x3 w4 hF => ?_)
        refine x_if_le (pc := 328) C 335 dL_law_328 rfl hF (fun c5 hF => ?_) (fun c5 hF => ?_)
        · exact none_ne hF
        · refine x_iconst (pc := 331) C 1 dL_law_331 ki_1 ?_
          refine x_goto (pc := 332) C 336 dL_law_332 rfl ?_
          exact x_sub [0, 1, 2, 3, 4, 5, 6, 7] rfl (kx _ _ _ (by omega) (by omega))
    · refine x_aload_n (pc := 141) C 0 dL_law_141 rfl rfl ?_
      refine x_iconst (pc := 142) C 2 dL_law_142 ki_2 ?_
      refine x_iload (pc := 143) C 8 dL_law_143 rfl ?_
      refine x_imul (pc := 145) C dL_law_145 ?_
      refine cSS_2 (pc := 146) C hS hF (fun _ _ h => c_L_cell l _ b sb L xs _ h) sm_L_cell wq481 rfl rfl ⟨Nat.le_of_ble_eq_true rfl, Nat.le_of_ble_eq_true rfl⟩ (Nat.le_of_ble_eq_true rfl) ⟨show _ ≤ 600130 by omega, show _ ≤ 7301080 by omega⟩ dL_law_146 (fun x7 w8 hF => ?_)
      refine x_istore (pc := 149) C [(9, .int (x7)), (0, .ref (sb)), (1, .ref (b)), (2, .ref (ra b 10 0)), (3, .ref (ra b 10 1)), (4, .ref (ra b 10 2)), (5, .ref (ra b 10 3)), (6, .ref (ra b 10 4)), (7, .ref (ra b 10 5)), (8, .int (l8))] dL_law_149 (by decide) rfl ?_
      refine x_aload_n (pc := 151) C 1 dL_law_151 rfl rfl ?_
      refine x_iconst (pc := 152) C 2 dL_law_152 ki_2 ?_
      refine x_iload (pc := 153) C 9 dL_law_153 rfl ?_
      refine x_imul (pc := 155) C dL_law_155 ?_
      refine x_iconst (pc := 156) C 1 dL_law_156 ki_1 ?_
      refine x_iadd (pc := 157) C dL_law_157 ?_
      refine cSS_2 (pc := 158) C hS hF (fun _ _ h => c_L_cell l _ b sb L xs _ h) sm_L_cell wq481 rfl rfl ⟨Nat.le_of_ble_eq_true rfl, Nat.le_of_ble_eq_true rfl⟩ (Nat.le_of_ble_eq_true rfl) ⟨show _ ≤ 600130 by omega, show _ ≤ 7301080 by omega⟩ dL_law_158 (fun x9 w10 hF => ?_)
      refine x_istore (pc := 161) C [(10, .int (x9)), (9, .int (x7)), (0, .ref (sb)), (1, .ref (b)), (2, .ref (ra b 10 0)), (3, .ref (ra b 10 1)), (4, .ref (ra b 10 2)), (5, .ref (ra b 10 3)), (6, .ref (ra b 10 4)), (7, .ref (ra b 10 5)), (8, .int (l8))] dL_law_161 (by decide) rfl ?_
      refine x_iload (pc := 163) C 10 dL_law_163 rfl ?_
      refine x_iconst (pc := 165) C 2 dL_law_165 ki_2 ?_
      obtain ⟨o12, w11, hL, hF⟩ := bd_some hF
      refine x_join (P1 := CW G b w11) (pcJ := 183) (lvJ := [(0, .ref (sb)), (1, .ref (b)), (2, .ref (ra b 10 0)), (3, .ref (ra b 10 1)), (4, .ref (ra b 10 2)), (5, .ref (ra b 10 3)), (6, .ref (ra b 10 4)), (7, .ref (ra b 10 5)), (8, .int (l8)), (9, .int (x7)), (10, .int (x9))]) (stJ := [.int (o12)]) (cells + 0) (slots + 0) ?_ (fun kJ183 => ?_)
      · refine x_istore (pc := 183) C [(11, .int (o12)), (0, .ref (sb)), (1, .ref (b)), (2, .ref (ra b 10 0)), (3, .ref (ra b 10 1)), (4, .ref (ra b 10 2)), (5, .ref (ra b 10 3)), (6, .ref (ra b 10 4)), (7, .ref (ra b 10 5)), (8, .int (l8)), (9, .int (x7)), (10, .int (x9))] dL_law_183 (by decide) rfl ?_
        refine x_iload (pc := 185) C 9 dL_law_185 rfl ?_
        refine x_iconst (pc := 187) C 2 dL_law_187 ki_2 ?_
        obtain ⟨o17, w16, hL, hF⟩ := bd_some hF
        refine x_join (P1 := CW G b w16) (pcJ := 279) (lvJ := [(0, .ref (sb)), (1, .ref (b)), (2, .ref (ra b 10 0)), (3, .ref (ra b 10 1)), (4, .ref (ra b 10 2)), (5, .ref (ra b 10 3)), (6, .ref (ra b 10 4)), (7, .ref (ra b 10 5)), (8, .int (l8)), (9, .int (x7)), (10, .int (x9)), (11, .int (o12))]) (stJ := [.int (o17)]) (cells + 4) (slots + 58) ?_ (fun kJ279 => ?_)
        · refine x_istore (pc := 279) C [(12, .int (o17)), (0, .ref (sb)), (1, .ref (b)), (2, .ref (ra b 10 0)), (3, .ref (ra b 10 1)), (4, .ref (ra b 10 2)), (5, .ref (ra b 10 3)), (6, .ref (ra b 10 4)), (7, .ref (ra b 10 5)), (8, .int (l8)), (9, .int (x7)), (10, .int (x9)), (11, .int (o12))] dL_law_279 (by decide) rfl ?_
          refine x_iload (pc := 281) C 0 dL_law_281 rfl ?_
          refine x_if_eq (pc := 283) C 303 dL_law_283 rfl hF (fun c32 hF => ?_) (fun c32 hF => ?_)
          · exact none_ne hF
          · refine x_aload_n (pc := 286) C 2 dL_law_286 rfl rfl ?_
            refine x_aload_n (pc := 287) C 3 dL_law_287 rfl rfl ?_
            refine x_aload_n (pc := 288) C 4 dL_law_288 rfl rfl ?_
            refine x_aload (pc := 289) C 5 dL_law_289 rfl ?_
            refine x_aload (pc := 291) C 6 dL_law_291 rfl ?_
            refine x_aload (pc := 293) C 7 dL_law_293 rfl ?_
            refine x_aload (pc := 295) C 8 dL_law_295 rfl ?_
            refine cX1_7 (pc := 297) C hX hF (fun _ _ h => c_L_isSo l _ b hl h) sm_L_isSo wq106 rfl rfl ⟨Nat.le_of_ble_eq_true rfl, Nat.le_of_ble_eq_true rfl⟩ (Nat.le_of_ble_eq_true rfl) ⟨show _ ≤ 600130 by omega, show _ ≤ 7301080 by omega⟩ dL_law_297 (fun x30 w29 hF => ?_)
            refine x_if_ne (pc := 300) C 305 dL_law_300 rfl hF (fun c31 hF => ?_) (fun c31 hF => ?_)
            · refine x_iinc (pc := 305) C 9 [(8, .int ((l8 + 1))), (12, .int (o17)), (0, .ref (sb)), (1, .ref (b)), (2, .ref (ra b 10 0)), (3, .ref (ra b 10 1)), (4, .ref (ra b 10 2)), (5, .ref (ra b 10 3)), (6, .ref (ra b 10 4)), (7, .ref (ra b 10 5)), (9, .int (x7)), (10, .int (x9)), (11, .int (o12))] dL_law_305 rfl rfl (by decide) rfl ?_
              refine x_goto (pc := 308) C 134 dL_law_308 rfl ?_
              exact x_sub [2, 3, 4, 5, 6, 7, 8, 9, 0] rfl (ih _ _ _ _ (by omega) (by omega) hF kx)
            · exact none_ne hF
        · replace hF := hL
          refine x_icmp_ge (pc := 188) C 210 dL_law_188 rfl hF (fun c28 hF => ?_) (fun c28 hF => ?_)
          · refine x_iload (pc := 210) C 0 dL_law_210 rfl ?_
            refine x_iconst (pc := 212) C 2 dL_law_212 ki_2 ?_
            refine x_icmp_ge (pc := 213) C 236 dL_law_213 rfl hF (fun c25 hF => ?_) (fun c25 hF => ?_)
            · refine x_iload (pc := 236) C 0 dL_law_236 rfl ?_
              refine x_iconst (pc := 238) C 5 dL_law_238 ki_5 ?_
              refine x_icmp_ge (pc := 239) C 261 dL_law_239 rfl hF (fun c22 hF => ?_) (fun c22 hF => ?_)
              · refine x_aload_n (pc := 261) C 2 dL_law_261 rfl rfl ?_
                refine x_iload (pc := 262) C 10 dL_law_262 rfl ?_
                refine x_iload (pc := 264) C 11 dL_law_264 rfl ?_
                refine x_aload_n (pc := 266) C 3 dL_law_266 rfl rfl ?_
                refine x_aload_n (pc := 267) C 4 dL_law_267 rfl rfl ?_
                refine x_aload (pc := 268) C 5 dL_law_268 rfl ?_
                refine x_aload (pc := 270) C 6 dL_law_270 rfl ?_
                refine x_aload (pc := 272) C 7 dL_law_272 rfl ?_
                refine x_aload (pc := 274) C 8 dL_law_274 rfl ?_
                refine cX1_9 (pc := 276) C hX hF (fun _ _ h => c_L_leaves l _ b hl _ _ h) sm_L_leaves wq691 rfl rfl ⟨Nat.le_of_ble_eq_true rfl, Nat.le_of_ble_eq_true rfl⟩ (Nat.le_of_ble_eq_true rfl) ⟨show _ ≤ 600130 by omega, show _ ≤ 7301080 by omega⟩ dL_law_276 (fun x19 w18 hF => ?_)
                obtain ⟨rfl, rfl⟩ := ret_eq hF
                exact x_sub [1, 2, 3, 4, 5, 6, 7, 8, 9, 10, 11, 0] rfl kJ279
              · refine x_aload_n (pc := 242) C 2 dL_law_242 rfl rfl ?_
                refine x_iload (pc := 243) C 10 dL_law_243 rfl ?_
                refine x_iload (pc := 245) C 11 dL_law_245 rfl ?_
                refine x_aload_n (pc := 247) C 3 dL_law_247 rfl rfl ?_
                refine x_aload_n (pc := 248) C 4 dL_law_248 rfl rfl ?_
                refine x_aload (pc := 249) C 5 dL_law_249 rfl ?_
                refine x_aload (pc := 251) C 7 dL_law_251 rfl ?_
                refine x_aload (pc := 253) C 8 dL_law_253 rfl ?_
                refine cX1_8 (pc := 255) C hX hF (fun _ _ h => c_L_hooks l _ b hl _ _ h) sm_L_hooks wq621 rfl rfl ⟨Nat.le_of_ble_eq_true rfl, Nat.le_of_ble_eq_true rfl⟩ (Nat.le_of_ble_eq_true rfl) ⟨show _ ≤ 600130 by omega, show _ ≤ 7301080 by omega⟩ dL_law_255 (fun x21 w20 hF => ?_)
                refine x_goto (pc := 258) C 279 dL_law_258 rfl ?_
                obtain ⟨rfl, rfl⟩ := ret_eq hF
                exact x_sub [1, 2, 3, 4, 5, 6, 7, 8, 9, 10, 11, 0] rfl kJ279
            · refine x_aload_n (pc := 216) C 2 dL_law_216 rfl rfl ?_
              refine x_iload (pc := 217) C 10 dL_law_217 rfl ?_
              refine x_iload (pc := 219) C 11 dL_law_219 rfl ?_
              refine x_aload_n (pc := 221) C 3 dL_law_221 rfl rfl ?_
              refine x_aload (pc := 222) C 5 dL_law_222 rfl ?_
              refine x_aload (pc := 224) C 6 dL_law_224 rfl ?_
              refine x_aload (pc := 226) C 7 dL_law_226 rfl ?_
              refine x_aload (pc := 228) C 8 dL_law_228 rfl ?_
              refine cX1_8 (pc := 230) C hX hF (fun _ _ h => c_L_goes l _ b hl _ _ h) sm_L_goes wq489 rfl rfl ⟨Nat.le_of_ble_eq_true rfl, Nat.le_of_ble_eq_true rfl⟩ (Nat.le_of_ble_eq_true rfl) ⟨show _ ≤ 600130 by omega, show _ ≤ 7301080 by omega⟩ dL_law_230 (fun x24 w23 hF => ?_)
              refine x_goto (pc := 233) C 279 dL_law_233 rfl ?_
              obtain ⟨rfl, rfl⟩ := ret_eq hF
              exact x_sub [1, 2, 3, 4, 5, 6, 7, 8, 9, 10, 11, 0] rfl kJ279
          · refine x_aload_n (pc := 191) C 2 dL_law_191 rfl rfl ?_
            refine x_iconst (pc := 192) C 0 dL_law_192 ki_0 ?_
            refine x_iload (pc := 193) C 9 dL_law_193 rfl ?_
            refine x_aload_n (pc := 195) C 3 dL_law_195 rfl rfl ?_
            refine x_aload (pc := 196) C 5 dL_law_196 rfl ?_
            refine x_aload (pc := 198) C 6 dL_law_198 rfl ?_
            refine x_aload (pc := 200) C 7 dL_law_200 rfl ?_
            refine x_aload (pc := 202) C 8 dL_law_202 rfl ?_
            refine cX1_8 (pc := 204) C hX hF (fun _ _ h => c_L_goes l _ b hl _ _ h) sm_L_goes wq489 rfl rfl ⟨Nat.le_of_ble_eq_true rfl, Nat.le_of_ble_eq_true rfl⟩ (Nat.le_of_ble_eq_true rfl) ⟨show _ ≤ 600130 by omega, show _ ≤ 7301080 by omega⟩ dL_law_204 (fun x27 w26 hF => ?_)
            refine x_goto (pc := 207) C 279 dL_law_207 rfl ?_
            obtain ⟨rfl, rfl⟩ := ret_eq hF
            exact x_sub [1, 2, 3, 4, 5, 6, 7, 8, 9, 10, 11, 0] rfl kJ279
      · replace hF := hL
        refine x_icmp_ge (pc := 166) C 173 dL_law_166 rfl hF (fun c15 hF => ?_) (fun c15 hF => ?_)
        · refine x_iload (pc := 173) C 1 dL_law_173 rfl ?_
          refine x_bipush (pc := 175) C 12 dL_law_175 kb_12 ?_
          refine x_ishr (pc := 177) C dL_law_177 ?_
          refine x_bipush (pc := 178) C 9 dL_law_178 kb_9 ?_
          refine cS1_2 (pc := 180) (val := Value.int) C hF (fun _ _ h => c_L_low l _ b _ _ h) sm_L_low wq485 rfl rfl ⟨Nat.le_of_ble_eq_true rfl, Nat.le_of_ble_eq_true rfl⟩ (Nat.le_of_ble_eq_true rfl) ⟨show _ ≤ 600130 by omega, show _ ≤ 7301080 by omega⟩ dL_law_180 (fun x14 w13 hF => ?_)
          obtain ⟨rfl, rfl⟩ := ret_eq hF
          exact x_sub [2, 3, 4, 5, 6, 7, 8, 9, 10, 1, 0] rfl kJ183
        · refine x_iconst (pc := 169) C 0 dL_law_169 ki_0 ?_
          refine x_goto (pc := 170) C 183 dL_law_170 rfl ?_
          obtain ⟨rfl, rfl⟩ := ret_eq hF
          exact x_sub [2, 3, 4, 5, 6, 7, 8, 9, 10, 1, 0] rfl kJ183
set_option maxRecDepth 8000 in
theorem s_law0 (C : xC p m c s args meth G b cL_law 13 RL) (hl : l.stackTraces = false) (hX : xF b s) (hS : xS b sb L xs s) (w : xWt) (hF : F_law xs L w = some ()) (kx : (∀ (cells slots : Nat) (w' : xWt), cells ≤ 600130 → slots ≤ 7301080 → xW p l e room_1 s m args below meth c Q b 13 (CW G b w') cells slots 336 [(0, .ref (sb)), (1, .ref (b)), (2, .ref (ra b 10 0)), (3, .ref (ra b 10 1)), (4, .ref (ra b 10 2)), (5, .ref (ra b 10 3)), (6, .ref (ra b 10 4)), (7, .ref (ra b 10 5))] [.int 1])) : xW p l e room_1 s m args below meth c Q b 13 (CW G b w) 300 10887 42 [(0, .ref (sb)), (1, .ref (b)), (2, .ref (ra b 10 0)), (3, .ref (ra b 10 1)), (4, .ref (ra b 10 2)), (5, .ref (ra b 10 3)), (6, .ref (ra b 10 4)), (7, .ref (ra b 10 5))] [] := by
  unfold F_law at hF
  refine x_aload_n (pc := 42) C 2 dL_law_42 rfl rfl ?_
  refine x_bipush (pc := 43) C 7 dL_law_43 kb_7 ?_
  refine x_iconst (pc := 45) C 4 dL_law_45 ki_4 ?_
  refine w_ast (pc := 46) C (vA_m 0 (by decide)) hF dL_law_46 (fun w34 hF => ?_)
  refine x_iconst (pc := 47) C 0 dL_law_47 ki_0 ?_
  refine x_istore (pc := 48) C [(8, .int (0)), (0, .ref (sb)), (1, .ref (b)), (2, .ref (ra b 10 0)), (3, .ref (ra b 10 1)), (4, .ref (ra b 10 2)), (5, .ref (ra b 10 3)), (6, .ref (ra b 10 4)), (7, .ref (ra b 10 5))] dL_law_48 (by decide) rfl ?_
  obtain ⟨o37, w38, hL, hF⟩ := bd_some hF
  refine x_sub [1, 2, 3, 4, 5, 6, 7, 8, 0] rfl (s_L_law_50 C hl hX _ _ _ _ _ hL ?_)
  refine x_iconst (pc := 68) C 0 dL_law_68 ki_0 ?_
  refine x_istore (pc := 69) C [(8, .int (0)), (0, .ref (sb)), (1, .ref (b)), (2, .ref (ra b 10 0)), (3, .ref (ra b 10 1)), (4, .ref (ra b 10 2)), (5, .ref (ra b 10 3)), (6, .ref (ra b 10 4)), (7, .ref (ra b 10 5))] dL_law_69 (by decide) rfl ?_
  obtain ⟨o41, w42, hL, hF⟩ := bd_some hF
  refine x_sub [1, 2, 3, 4, 5, 6, 7, 8, 0] rfl (s_L_law_71 C hl hX _ _ _ _ _ hL ?_)
  refine x_aload (pc := 92) C 6 dL_law_92 rfl ?_
  refine x_iconst (pc := 94) C 0 dL_law_94 ki_0 ?_
  refine x_iconst (pc := 95) C 1 dL_law_95 ki_1 ?_
  refine w_ast (pc := 96) C (vA_m 4 (by decide)) hF dL_law_96 (fun w43 hF => ?_)
  refine x_aload (pc := 97) C 6 dL_law_97 rfl ?_
  refine x_bipush (pc := 99) C 6 dL_law_99 kb_6 ?_
  refine x_iconst (pc := 101) C 1 dL_law_101 ki_1 ?_
  refine w_ast (pc := 102) C (vA_m 4 (by decide)) hF dL_law_102 (fun w44 hF => ?_)
  refine x_aload_n (pc := 103) C 1 dL_law_103 rfl rfl ?_
  refine x_aload_n (pc := 104) C 2 dL_law_104 rfl rfl ?_
  refine x_aload_n (pc := 105) C 3 dL_law_105 rfl rfl ?_
  refine x_aload (pc := 106) C 4 dL_law_106 rfl ?_
  refine x_aload (pc := 108) C 5 dL_law_108 rfl ?_
  refine x_aload (pc := 110) C 6 dL_law_110 rfl ?_
  refine x_aload (pc := 112) C 7 dL_law_112 rfl ?_
  refine cX1_7 (pc := 114) C hX hF (fun _ _ h => c_L_isSo l _ b hl h) sm_L_isSo wq106 rfl rfl ⟨Nat.le_of_ble_eq_true rfl, Nat.le_of_ble_eq_true rfl⟩ (Nat.le_of_ble_eq_true rfl) ⟨Nat.le_of_ble_eq_true rfl, Nat.le_of_ble_eq_true rfl⟩ dL_law_114 (fun x46 w45 hF => ?_)
  refine x_if_eq (pc := 117) C 129 dL_law_117 rfl hF (fun c50 hF => ?_) (fun c50 hF => ?_)
  · exact none_ne hF
  · refine x_aload_n (pc := 120) C 1 dL_law_120 rfl rfl ?_
    refine cL1_1 (pc := 121) C hX hF (fun _ _ h => c_L_undo l _ b hl h) wq434 wq104 wq433 hd_L_undo wq432 rfl rfl ⟨Nat.le_of_ble_eq_true rfl, Nat.le_of_ble_eq_true rfl⟩ (Nat.le_of_ble_eq_true rfl) ⟨Nat.le_of_ble_eq_true rfl, Nat.le_of_ble_eq_true rfl⟩ dL_law_121 (fun x47 w48 hF => ?_)
    refine x_bipush (pc := 124) C (-33) dL_law_124 kb_m33 ?_
    refine x_icmp_eq (pc := 126) C 131 dL_law_126 rfl hF (fun c49 hF => ?_) (fun c49 hF => ?_)
    · refine x_iconst (pc := 131) C 0 dL_law_131 ki_0 ?_
      refine x_istore (pc := 132) C [(8, .int (0)), (0, .ref (sb)), (1, .ref (b)), (2, .ref (ra b 10 0)), (3, .ref (ra b 10 1)), (4, .ref (ra b 10 2)), (5, .ref (ra b 10 3)), (6, .ref (ra b 10 4)), (7, .ref (ra b 10 5))] dL_law_132 (by decide) rfl ?_
      exact x_sub [1, 2, 3, 4, 5, 6, 7, 8, 0] rfl (s_law C hl hX hS 45 _ _ _ _ (by omega) (by omega) hF kx)
    · exact none_ne hF
end LawWalk
