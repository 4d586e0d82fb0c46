section
-- ===== PART A: goes FIRST, ahead of the names: the tables' words, and 'selects' of the private methods out of them =====
/-- a private method of a class that the tables say can be made, by its rows of tables_1 -/
def lw_okq (q : MethodName × Nat) : Prop := (q.1.cls ≠ "java/lang/invoke/MethodHandle" ∧ q.1.cls ≠ "java/lang/invoke/VarHandle") ∧ Cond.instantiable q.1.cls q.2 ∈ tables_1 ∧ Cond.privateMethod q.1 ∈ tables_1 ∧ Cond.instanceMethod q.1 ∈ tables_1
theorem lw_p0 : lw_okq (⟨"PinnedLeaves$OrderText", "fits", "(II)Z"⟩, 2) := ⟨⟨by decide +kernel, by decide +kernel⟩, List.mem_of_getElem? (i := 207) (by decide +kernel), List.mem_of_getElem? (i := 254) (by decide +kernel), List.mem_of_getElem? (i := 255) (by decide +kernel)⟩
theorem lw_p1 : lw_okq (⟨"PinnedLeaves", "counted", "(I)I"⟩, 5) := ⟨⟨by decide +kernel, by decide +kernel⟩, List.mem_of_getElem? (i := 21) (by decide +kernel), List.mem_of_getElem? (i := 395) (by decide +kernel), List.mem_of_getElem? (i := 396) (by decide +kernel)⟩
theorem lw_p2 : lw_okq (⟨"PinnedLeaves", "mixedLeaf", "(JI)J"⟩, 5) := ⟨⟨by decide +kernel, by decide +kernel⟩, List.mem_of_getElem? (i := 21) (by decide +kernel), List.mem_of_getElem? (i := 438) (by decide +kernel), List.mem_of_getElem? (i := 439) (by decide +kernel)⟩
theorem lw_p3 : lw_okq (⟨"PinnedLeaves", "mixedChild", "(JI)J"⟩, 5) := ⟨⟨by decide +kernel, by decide +kernel⟩, List.mem_of_getElem? (i := 21) (by decide +kernel), List.mem_of_getElem? (i := 464) (by decide +kernel), List.mem_of_getElem? (i := 465) (by decide +kernel)⟩
theorem lw_p4 : lw_okq (⟨"PinnedLeaves", "mixedText", "(J)J"⟩, 5) := ⟨⟨by decide +kernel, by decide +kernel⟩, List.mem_of_getElem? (i := 21) (by decide +kernel), List.mem_of_getElem? (i := 516) (by decide +kernel), List.mem_of_getElem? (i := 517) (by decide +kernel)⟩
theorem lw_p5 : lw_okq (⟨"java/lang/Throwable", "fillInStackTrace", "(I)Ljava/lang/Throwable;"⟩, 6) := ⟨⟨by decide +kernel, by decide +kernel⟩, List.mem_of_getElem? (i := 575) (by decide +kernel), List.mem_of_getElem? (i := 573) (by decide +kernel), List.mem_of_getElem? (i := 574) (by decide +kernel)⟩
theorem lw_p6 : lw_okq (⟨"PinnedLeaves$SavedYards", "placeAt", "(I)LPinnedLeaves$Yard;"⟩, 3) := ⟨⟨by decide +kernel, by decide +kernel⟩, List.mem_of_getElem? (i := 188) (by decide +kernel), List.mem_of_getElem? (i := 609) (by decide +kernel), List.mem_of_getElem? (i := 610) (by decide +kernel)⟩
theorem lw_p7 : lw_okq (⟨"PinnedLeaves", "needChild", "(I)V"⟩, 5) := ⟨⟨by decide +kernel, by decide +kernel⟩, List.mem_of_getElem? (i := 21) (by decide +kernel), List.mem_of_getElem? (i := 632) (by decide +kernel), List.mem_of_getElem? (i := 633) (by decide +kernel)⟩
theorem lw_p8 : lw_okq (⟨"PinnedLeaves", "needHook", "(II)V"⟩, 5) := ⟨⟨by decide +kernel, by decide +kernel⟩, List.mem_of_getElem? (i := 21) (by decide +kernel), List.mem_of_getElem? (i := 783) (by decide +kernel), List.mem_of_getElem? (i := 784) (by decide +kernel)⟩
theorem lw_p9 : lw_okq (⟨"PinnedLeaves", "carryOut", "(I)I"⟩, 5) := ⟨⟨by decide +kernel, by decide +kernel⟩, List.mem_of_getElem? (i := 21) (by decide +kernel), List.mem_of_getElem? (i := 967) (by decide +kernel), List.mem_of_getElem? (i := 968) (by decide +kernel)⟩
theorem lw_p10 : lw_okq (⟨"PinnedLeaves", "needLeaf", "(I)V"⟩, 5) := ⟨⟨by decide +kernel, by decide +kernel⟩, List.mem_of_getElem? (i := 21) (by decide +kernel), List.mem_of_getElem? (i := 1013) (by decide +kernel), List.mem_of_getElem? (i := 1014) (by decide +kernel)⟩
theorem lw_p11 : lw_okq (⟨"PinnedLeavesModel", "clearChild", "(I)V"⟩, 11) := ⟨⟨by decide +kernel, by decide +kernel⟩, List.mem_of_getElem? (i := 1087) (by decide +kernel), List.mem_of_getElem? (i := 1093) (by decide +kernel), List.mem_of_getElem? (i := 1094) (by decide +kernel)⟩
theorem lw_p12 : lw_okq (⟨"PinnedLeavesModel", "setChild", "(III)V"⟩, 11) := ⟨⟨by decide +kernel, by decide +kernel⟩, List.mem_of_getElem? (i := 1087) (by decide +kernel), List.mem_of_getElem? (i := 1097) (by decide +kernel), List.mem_of_getElem? (i := 1098) (by decide +kernel)⟩
theorem lw_p13 : lw_okq (⟨"PinnedLeavesModel", "emptyHooks", "(I)V"⟩, 11) := ⟨⟨by decide +kernel, by decide +kernel⟩, List.mem_of_getElem? (i := 1087) (by decide +kernel), List.mem_of_getElem? (i := 1101) (by decide +kernel), List.mem_of_getElem? (i := 1102) (by decide +kernel)⟩
theorem lw_p14 : lw_okq (⟨"PinnedLeavesModel", "setHook", "(IIIII)V"⟩, 11) := ⟨⟨by decide +kernel, by decide +kernel⟩, List.mem_of_getElem? (i := 1087) (by decide +kernel), List.mem_of_getElem? (i := 1105) (by decide +kernel), List.mem_of_getElem? (i := 1106) (by decide +kernel)⟩
theorem lw_p15 : lw_okq (⟨"PinnedLeavesModel", "record", "()V"⟩, 11) := ⟨⟨by decide +kernel, by decide +kernel⟩, List.mem_of_getElem? (i := 1087) (by decide +kernel), List.mem_of_getElem? (i := 1159) (by decide +kernel), List.mem_of_getElem? (i := 1160) (by decide +kernel)⟩
def lw_privs_1 : List (MethodName × Nat) := [(⟨"PinnedLeaves$OrderText", "fits", "(II)Z"⟩, 2), (⟨"PinnedLeaves", "counted", "(I)I"⟩, 5), (⟨"PinnedLeaves", "mixedLeaf", "(JI)J"⟩, 5), (⟨"PinnedLeaves", "mixedChild", "(JI)J"⟩, 5), (⟨"PinnedLeaves", "mixedText", "(J)J"⟩, 5), (⟨"java/lang/Throwable", "fillInStackTrace", "(I)Ljava/lang/Throwable;"⟩, 6), (⟨"PinnedLeaves$SavedYards", "placeAt", "(I)LPinnedLeaves$Yard;"⟩, 3), (⟨"PinnedLeaves", "needChild", "(I)V"⟩, 5), (⟨"PinnedLeaves", "needHook", "(II)V"⟩, 5), (⟨"PinnedLeaves", "carryOut", "(I)I"⟩, 5), (⟨"PinnedLeaves", "needLeaf", "(I)V"⟩, 5), (⟨"PinnedLeavesModel", "clearChild", "(I)V"⟩, 11), (⟨"PinnedLeavesModel", "setChild", "(III)V"⟩, 11), (⟨"PinnedLeavesModel", "emptyHooks", "(I)V"⟩, 11), (⟨"PinnedLeavesModel", "setHook", "(IIIII)V"⟩, 11), (⟨"PinnedLeavesModel", "record", "()V"⟩, 11)]
theorem lw_r1 : ∀ q ∈ lw_privs_1, lw_okq q := List.forall_mem_cons.mpr ⟨lw_p0, List.forall_mem_cons.mpr ⟨lw_p1, List.forall_mem_cons.mpr ⟨lw_p2, List.forall_mem_cons.mpr ⟨lw_p3, List.forall_mem_cons.mpr ⟨lw_p4, List.forall_mem_cons.mpr ⟨lw_p5, List.forall_mem_cons.mpr ⟨lw_p6, List.forall_mem_cons.mpr ⟨lw_p7, List.forall_mem_cons.mpr ⟨lw_p8, List.forall_mem_cons.mpr ⟨lw_p9, List.forall_mem_cons.mpr ⟨lw_p10, List.forall_mem_cons.mpr ⟨lw_p11, List.forall_mem_cons.mpr ⟨lw_p12, List.forall_mem_cons.mpr ⟨lw_p13, List.forall_mem_cons.mpr ⟨lw_p14, List.forall_mem_cons.mpr ⟨lw_p15, fun _ h => absurd h List.not_mem_nil⟩⟩⟩⟩⟩⟩⟩⟩⟩⟩⟩⟩⟩⟩⟩⟩
theorem lw_p16 : lw_okq (⟨"PinnedLeavesModel", "children", "()I"⟩, 11) := ⟨⟨by decide +kernel, by decide +kernel⟩, List.mem_of_getElem? (i := 1087) (by decide +kernel), List.mem_of_getElem? (i := 1167) (by decide +kernel), List.mem_of_getElem? (i := 1168) (by decide +kernel)⟩
theorem lw_p17 : lw_okq (⟨"PinnedLeavesModel", "ofChild", "(II)I"⟩, 11) := ⟨⟨by decide +kernel, by decide +kernel⟩, List.mem_of_getElem? (i := 1087) (by decide +kernel), List.mem_of_getElem? (i := 1171) (by decide +kernel), List.mem_of_getElem? (i := 1172) (by decide +kernel)⟩
theorem lw_p18 : lw_okq (⟨"PinnedLeavesModel", "isChild", "(I)Z"⟩, 11) := ⟨⟨by decide +kernel, by decide +kernel⟩, List.mem_of_getElem? (i := 1087) (by decide +kernel), List.mem_of_getElem? (i := 1179) (by decide +kernel), List.mem_of_getElem? (i := 1180) (by decide +kernel)⟩
theorem lw_p19 : lw_okq (⟨"PinnedLeavesModel", "onHeap", "(II)I"⟩, 11) := ⟨⟨by decide +kernel, by decide +kernel⟩, List.mem_of_getElem? (i := 1087) (by decide +kernel), List.mem_of_getElem? (i := 1186) (by decide +kernel), List.mem_of_getElem? (i := 1187) (by decide +kernel)⟩
theorem lw_p20 : lw_okq (⟨"PinnedLeavesModel", "isOnHeap", "(II)Z"⟩, 11) := ⟨⟨by decide +kernel, by decide +kernel⟩, List.mem_of_getElem? (i := 1087) (by decide +kernel), List.mem_of_getElem? (i := 1190) (by decide +kernel), List.mem_of_getElem? (i := 1191) (by decide +kernel)⟩
theorem lw_p21 : lw_okq (⟨"PinnedLeavesModel", "of", "(II)I"⟩, 11) := ⟨⟨by decide +kernel, by decide +kernel⟩, List.mem_of_getElem? (i := 1087) (by decide +kernel), List.mem_of_getElem? (i := 1194) (by decide +kernel), List.mem_of_getElem? (i := 1195) (by decide +kernel)⟩
theorem lw_p22 : lw_okq (⟨"PinnedLeavesModel", "putOnHeap", "(II)V"⟩, 11) := ⟨⟨by decide +kernel, by decide +kernel⟩, List.mem_of_getElem? (i := 1087) (by decide +kernel), List.mem_of_getElem? (i := 1198) (by decide +kernel), List.mem_of_getElem? (i := 1199) (by decide +kernel)⟩
theorem lw_p23 : lw_okq (⟨"PinnedLeavesModel", "setLeaf", "(III)V"⟩, 11) := ⟨⟨by decide +kernel, by decide +kernel⟩, List.mem_of_getElem? (i := 1087) (by decide +kernel), List.mem_of_getElem? (i := 1202) (by decide +kernel), List.mem_of_getElem? (i := 1203) (by decide +kernel)⟩
theorem lw_p24 : lw_okq (⟨"PinnedLeavesModel", "whyNotEnter", "(I)I"⟩, 11) := ⟨⟨by decide +kernel, by decide +kernel⟩, List.mem_of_getElem? (i := 1087) (by decide +kernel), List.mem_of_getElem? (i := 1210) (by decide +kernel), List.mem_of_getElem? (i := 1211) (by decide +kernel)⟩
theorem lw_p25 : lw_okq (⟨"PinnedLeavesModel", "isInYard", "(I)Z"⟩, 11) := ⟨⟨by decide +kernel, by decide +kernel⟩, List.mem_of_getElem? (i := 1087) (by decide +kernel), List.mem_of_getElem? (i := 1214) (by decide +kernel), List.mem_of_getElem? (i := 1215) (by decide +kernel)⟩
theorem lw_p26 : lw_okq (⟨"PinnedLeavesModel", "doEnter", "(I)I"⟩, 11) := ⟨⟨by decide +kernel, by decide +kernel⟩, List.mem_of_getElem? (i := 1087) (by decide +kernel), List.mem_of_getElem? (i := 1218) (by decide +kernel), List.mem_of_getElem? (i := 1219) (by decide +kernel)⟩
theorem lw_p27 : lw_okq (⟨"PinnedLeavesModel", "whyNotRest", "(I)I"⟩, 11) := ⟨⟨by decide +kernel, by decide +kernel⟩, List.mem_of_getElem? (i := 1087) (by decide +kernel), List.mem_of_getElem? (i := 1226) (by decide +kernel), List.mem_of_getElem? (i := 1227) (by decide +kernel)⟩
theorem lw_p28 : lw_okq (⟨"PinnedLeavesModel", "doRest", "(I)I"⟩, 11) := ⟨⟨by decide +kernel, by decide +kernel⟩, List.mem_of_getElem? (i := 1087) (by decide +kernel), List.mem_of_getElem? (i := 1230) (by decide +kernel), List.mem_of_getElem? (i := 1231) (by decide +kernel)⟩
theorem lw_p29 : lw_okq (⟨"PinnedLeavesModel", "hooksOf", "(II)I"⟩, 11) := ⟨⟨by decide +kernel, by decide +kernel⟩, List.mem_of_getElem? (i := 1087) (by decide +kernel), List.mem_of_getElem? (i := 1234) (by decide +kernel), List.mem_of_getElem? (i := 1235) (by decide +kernel)⟩
theorem lw_p30 : lw_okq (⟨"PinnedLeavesModel", "ofHook", "(III)I"⟩, 11) := ⟨⟨by decide +kernel, by decide +kernel⟩, List.mem_of_getElem? (i := 1087) (by decide +kernel), List.mem_of_getElem? (i := 1238) (by decide +kernel), List.mem_of_getElem? (i := 1239) (by decide +kernel)⟩
theorem lw_p31 : lw_okq (⟨"PinnedLeavesModel", "lateOnes", "()I"⟩, 11) := ⟨⟨by decide +kernel, by decide +kernel⟩, List.mem_of_getElem? (i := 1087) (by decide +kernel), List.mem_of_getElem? (i := 1246) (by decide +kernel), List.mem_of_getElem? (i := 1247) (by decide +kernel)⟩
def lw_privs_2 : List (MethodName × Nat) := [(⟨"PinnedLeavesModel", "children", "()I"⟩, 11), (⟨"PinnedLeavesModel", "ofChild", "(II)I"⟩, 11), (⟨"PinnedLeavesModel", "isChild", "(I)Z"⟩, 11), (⟨"PinnedLeavesModel", "onHeap", "(II)I"⟩, 11), (⟨"PinnedLeavesModel", "isOnHeap", "(II)Z"⟩, 11), (⟨"PinnedLeavesModel", "of", "(II)I"⟩, 11), (⟨"PinnedLeavesModel", "putOnHeap", "(II)V"⟩, 11), (⟨"PinnedLeavesModel", "setLeaf", "(III)V"⟩, 11), (⟨"PinnedLeavesModel", "whyNotEnter", "(I)I"⟩, 11), (⟨"PinnedLeavesModel", "isInYard", "(I)Z"⟩, 11), (⟨"PinnedLeavesModel", "doEnter", "(I)I"⟩, 11), (⟨"PinnedLeavesModel", "whyNotRest", "(I)I"⟩, 11), (⟨"PinnedLeavesModel", "doRest", "(I)I"⟩, 11), (⟨"PinnedLeavesModel", "hooksOf", "(II)I"⟩, 11), (⟨"PinnedLeavesModel", "ofHook", "(III)I"⟩, 11), (⟨"PinnedLeavesModel", "lateOnes", "()I"⟩, 11)]
theorem lw_r2 : ∀ q ∈ lw_privs_2, lw_okq q := List.forall_mem_cons.mpr ⟨lw_p16, List.forall_mem_cons.mpr ⟨lw_p17, List.forall_mem_cons.mpr ⟨lw_p18, List.forall_mem_cons.mpr ⟨lw_p19, List.forall_mem_cons.mpr ⟨lw_p20, List.forall_mem_cons.mpr ⟨lw_p21, List.forall_mem_cons.mpr ⟨lw_p22, List.forall_mem_cons.mpr ⟨lw_p23, List.forall_mem_cons.mpr ⟨lw_p24, List.forall_mem_cons.mpr ⟨lw_p25, List.forall_mem_cons.mpr ⟨lw_p26, List.forall_mem_cons.mpr ⟨lw_p27, List.forall_mem_cons.mpr ⟨lw_p28, List.forall_mem_cons.mpr ⟨lw_p29, List.forall_mem_cons.mpr ⟨lw_p30, List.forall_mem_cons.mpr ⟨lw_p31, fun _ h => absurd h List.not_mem_nil⟩⟩⟩⟩⟩⟩⟩⟩⟩⟩⟩⟩⟩⟩⟩⟩
theorem lw_p32 : lw_okq (⟨"PinnedLeavesModel", "doRing", "()I"⟩, 11) := ⟨⟨by decide +kernel, by decide +kernel⟩, List.mem_of_getElem? (i := 1087) (by decide +kernel), List.mem_of_getElem? (i := 1250) (by decide +kernel), List.mem_of_getElem? (i := 1251) (by decide +kernel)⟩
theorem lw_p33 : lw_okq (⟨"PinnedLeavesModel", "whyNotGrow", "(II)I"⟩, 11) := ⟨⟨by decide +kernel, by decide +kernel⟩, List.mem_of_getElem? (i := 1087) (by decide +kernel), List.mem_of_getElem? (i := 1258) (by decide +kernel), List.mem_of_getElem? (i := 1259) (by decide +kernel)⟩
theorem lw_p34 : lw_okq (⟨"PinnedLeavesModel", "doGrow", "(II)I"⟩, 11) := ⟨⟨by decide +kernel, by decide +kernel⟩, List.mem_of_getElem? (i := 1087) (by decide +kernel), List.mem_of_getElem? (i := 1268) (by decide +kernel), List.mem_of_getElem? (i := 1269) (by decide +kernel)⟩
theorem lw_p35 : lw_okq (⟨"PinnedLeavesModel", "whyNotNote", "(III)I"⟩, 11) := ⟨⟨by decide +kernel, by decide +kernel⟩, List.mem_of_getElem? (i := 1087) (by decide +kernel), List.mem_of_getElem? (i := 1276) (by decide +kernel), List.mem_of_getElem? (i := 1277) (by decide +kernel)⟩
theorem lw_p36 : lw_okq (⟨"PinnedLeavesModel", "doNote", "(III)I"⟩, 11) := ⟨⟨by decide +kernel, by decide +kernel⟩, List.mem_of_getElem? (i := 1087) (by decide +kernel), List.mem_of_getElem? (i := 1283) (by decide +kernel), List.mem_of_getElem? (i := 1284) (by decide +kernel)⟩
theorem lw_p37 : lw_okq (⟨"PinnedLeavesModel", "whyNotPin", "(II)I"⟩, 11) := ⟨⟨by decide +kernel, by decide +kernel⟩, List.mem_of_getElem? (i := 1087) (by decide +kernel), List.mem_of_getElem? (i := 1291) (by decide +kernel), List.mem_of_getElem? (i := 1292) (by decide +kernel)⟩
theorem lw_p38 : lw_okq (⟨"PinnedLeavesModel", "doPin", "(II)I"⟩, 11) := ⟨⟨by decide +kernel, by decide +kernel⟩, List.mem_of_getElem? (i := 1087) (by decide +kernel), List.mem_of_getElem? (i := 1295) (by decide +kernel), List.mem_of_getElem? (i := 1296) (by decide +kernel)⟩
theorem lw_p39 : lw_okq (⟨"PinnedLeavesModel", "whyNotUse", "(II)I"⟩, 11) := ⟨⟨by decide +kernel, by decide +kernel⟩, List.mem_of_getElem? (i := 1087) (by decide +kernel), List.mem_of_getElem? (i := 1303) (by decide +kernel), List.mem_of_getElem? (i := 1304) (by decide +kernel)⟩
theorem lw_p40 : lw_okq (⟨"PinnedLeavesModel", "doLoosen", "(II)I"⟩, 11) := ⟨⟨by decide +kernel, by decide +kernel⟩, List.mem_of_getElem? (i := 1087) (by decide +kernel), List.mem_of_getElem? (i := 1307) (by decide +kernel), List.mem_of_getElem? (i := 1308) (by decide +kernel)⟩
theorem lw_p41 : lw_okq (⟨"PinnedLeavesModel", "whyNotTake", "(II)I"⟩, 11) := ⟨⟨by decide +kernel, by decide +kernel⟩, List.mem_of_getElem? (i := 1087) (by decide +kernel), List.mem_of_getElem? (i := 1319) (by decide +kernel), List.mem_of_getElem? (i := 1320) (by decide +kernel)⟩
theorem lw_p42 : lw_okq (⟨"PinnedLeavesModel", "doTake", "(II)I"⟩, 11) := ⟨⟨by decide +kernel, by decide +kernel⟩, List.mem_of_getElem? (i := 1087) (by decide +kernel), List.mem_of_getElem? (i := 1323) (by decide +kernel), List.mem_of_getElem? (i := 1324) (by decide +kernel)⟩
theorem lw_p43 : lw_okq (⟨"PinnedLeavesModel", "heapOf", "(I)I"⟩, 11) := ⟨⟨by decide +kernel, by decide +kernel⟩, List.mem_of_getElem? (i := 1087) (by decide +kernel), List.mem_of_getElem? (i := 1327) (by decide +kernel), List.mem_of_getElem? (i := 1328) (by decide +kernel)⟩
theorem lw_p44 : lw_okq (⟨"PinnedLeavesModel", "doRake", "(I)I"⟩, 11) := ⟨⟨by decide +kernel, by decide +kernel⟩, List.mem_of_getElem? (i := 1087) (by decide +kernel), List.mem_of_getElem? (i := 1331) (by decide +kernel), List.mem_of_getElem? (i := 1332) (by decide +kernel)⟩
theorem lw_p45 : lw_okq (⟨"PinnedLeavesModel", "mayBurn", "(II)Z"⟩, 11) := ⟨⟨by decide +kernel, by decide +kernel⟩, List.mem_of_getElem? (i := 1087) (by decide +kernel), List.mem_of_getElem? (i := 1335) (by decide +kernel), List.mem_of_getElem? (i := 1336) (by decide +kernel)⟩
theorem lw_p46 : lw_okq (⟨"PinnedLeavesModel", "holders", "(II)I"⟩, 11) := ⟨⟨by decide +kernel, by decide +kernel⟩, List.mem_of_getElem? (i := 1087) (by decide +kernel), List.mem_of_getElem? (i := 1339) (by decide +kernel), List.mem_of_getElem? (i := 1340) (by decide +kernel)⟩
theorem lw_p47 : lw_okq (⟨"PinnedLeavesModel", "leavesAt", "(I)I"⟩, 11) := ⟨⟨by decide +kernel, by decide +kernel⟩, List.mem_of_getElem? (i := 1087) (by decide +kernel), List.mem_of_getElem? (i := 1343) (by decide +kernel), List.mem_of_getElem? (i := 1344) (by decide +kernel)⟩
def lw_privs_3 : List (MethodName × Nat) := [(⟨"PinnedLeavesModel", "doRing", "()I"⟩, 11), (⟨"PinnedLeavesModel", "whyNotGrow", "(II)I"⟩, 11), (⟨"PinnedLeavesModel", "doGrow", "(II)I"⟩, 11), (⟨"PinnedLeavesModel", "whyNotNote", "(III)I"⟩, 11), (⟨"PinnedLeavesModel", "doNote", "(III)I"⟩, 11), (⟨"PinnedLeavesModel", "whyNotPin", "(II)I"⟩, 11), (⟨"PinnedLeavesModel", "doPin", "(II)I"⟩, 11), (⟨"PinnedLeavesModel", "whyNotUse", "(II)I"⟩, 11), (⟨"PinnedLeavesModel", "doLoosen", "(II)I"⟩, 11), (⟨"PinnedLeavesModel", "whyNotTake", "(II)I"⟩, 11), (⟨"PinnedLeavesModel", "doTake", "(II)I"⟩, 11), (⟨"PinnedLeavesModel", "heapOf", "(I)I"⟩, 11), (⟨"PinnedLeavesModel", "doRake", "(I)I"⟩, 11), (⟨"PinnedLeavesModel", "mayBurn", "(II)Z"⟩, 11), (⟨"PinnedLeavesModel", "holders", "(II)I"⟩, 11), (⟨"PinnedLeavesModel", "leavesAt", "(I)I"⟩, 11)]
theorem lw_r3 : ∀ q ∈ lw_privs_3, lw_okq q := List.forall_mem_cons.mpr ⟨lw_p32, List.forall_mem_cons.mpr ⟨lw_p33, List.forall_mem_cons.mpr ⟨lw_p34, List.forall_mem_cons.mpr ⟨lw_p35, List.forall_mem_cons.mpr ⟨lw_p36, List.forall_mem_cons.mpr ⟨lw_p37, List.forall_mem_cons.mpr ⟨lw_p38, List.forall_mem_cons.mpr ⟨lw_p39, List.forall_mem_cons.mpr ⟨lw_p40, List.forall_mem_cons.mpr ⟨lw_p41, List.forall_mem_cons.mpr ⟨lw_p42, List.forall_mem_cons.mpr ⟨lw_p43, List.forall_mem_cons.mpr ⟨lw_p44, List.forall_mem_cons.mpr ⟨lw_p45, List.forall_mem_cons.mpr ⟨lw_p46, List.forall_mem_cons.mpr ⟨lw_p47, fun _ h => absurd h List.not_mem_nil⟩⟩⟩⟩⟩⟩⟩⟩⟩⟩⟩⟩⟩⟩⟩⟩
theorem lw_p48 : lw_okq (⟨"PinnedLeavesModel", "whyNotSwap", "(III)I"⟩, 11) := ⟨⟨by decide +kernel, by decide +kernel⟩, List.mem_of_getElem? (i := 1087) (by decide +kernel), List.mem_of_getElem? (i := 1351) (by decide +kernel), List.mem_of_getElem? (i := 1352) (by decide +kernel)⟩
theorem lw_p49 : lw_okq (⟨"PinnedLeavesModel", "doSwap", "(III)I"⟩, 11) := ⟨⟨by decide +kernel, by decide +kernel⟩, List.mem_of_getElem? (i := 1087) (by decide +kernel), List.mem_of_getElem? (i := 1355) (by decide +kernel), List.mem_of_getElem? (i := 1356) (by decide +kernel)⟩
theorem lw_p50 : lw_okq (⟨"PinnedLeavesModel", "whyNotRake", "(I)I"⟩, 11) := ⟨⟨by decide +kernel, by decide +kernel⟩, List.mem_of_getElem? (i := 1087) (by decide +kernel), List.mem_of_getElem? (i := 1363) (by decide +kernel), List.mem_of_getElem? (i := 1364) (by decide +kernel)⟩
theorem lw_p51 : lw_okq (⟨"PinnedLeavesModel", "findError", "()I"⟩, 11) := ⟨⟨by decide +kernel, by decide +kernel⟩, List.mem_of_getElem? (i := 1087) (by decide +kernel), List.mem_of_getElem? (i := 1383) (by decide +kernel), List.mem_of_getElem? (i := 1384) (by decide +kernel)⟩
theorem lw_p52 : lw_okq (⟨"PinnedLeavesModel", "readOrder", "(I)I"⟩, 11) := ⟨⟨by decide +kernel, by decide +kernel⟩, List.mem_of_getElem? (i := 1087) (by decide +kernel), List.mem_of_getElem? (i := 1387) (by decide +kernel), List.mem_of_getElem? (i := 1388) (by decide +kernel)⟩
theorem lw_p53 : lw_okq (⟨"PinnedLeavesModel", "canDo", "()Z"⟩, 11) := ⟨⟨by decide +kernel, by decide +kernel⟩, List.mem_of_getElem? (i := 1087) (by decide +kernel), List.mem_of_getElem? (i := 1401) (by decide +kernel), List.mem_of_getElem? (i := 1402) (by decide +kernel)⟩
theorem lw_p54 : lw_okq (⟨"PinnedLeavesModel", "doOrder", "()I"⟩, 11) := ⟨⟨by decide +kernel, by decide +kernel⟩, List.mem_of_getElem? (i := 1087) (by decide +kernel), List.mem_of_getElem? (i := 1405) (by decide +kernel), List.mem_of_getElem? (i := 1406) (by decide +kernel)⟩
theorem lw_p55 : lw_okq (⟨"PinnedLeavesModel", "isLeaf", "(I)Z"⟩, 11) := ⟨⟨by decide +kernel, by decide +kernel⟩, List.mem_of_getElem? (i := 1087) (by decide +kernel), List.mem_of_getElem? (i := 1417) (by decide +kernel), List.mem_of_getElem? (i := 1418) (by decide +kernel)⟩
theorem lw_p56 : lw_okq (⟨"PinnedLeavesModel", "leafNow", "(II)I"⟩, 11) := ⟨⟨by decide +kernel, by decide +kernel⟩, List.mem_of_getElem? (i := 1087) (by decide +kernel), List.mem_of_getElem? (i := 1421) (by decide +kernel), List.mem_of_getElem? (i := 1422) (by decide +kernel)⟩
theorem lw_p57 : lw_okq (⟨"PinnedLeavesModel", "hooksOn", "(II)I"⟩, 11) := ⟨⟨by decide +kernel, by decide +kernel⟩, List.mem_of_getElem? (i := 1087) (by decide +kernel), List.mem_of_getElem? (i := 1425) (by decide +kernel), List.mem_of_getElem? (i := 1426) (by decide +kernel)⟩
theorem lw_p58 : lw_okq (⟨"PinnedLeavesModel", "childNow", "(II)I"⟩, 11) := ⟨⟨by decide +kernel, by decide +kernel⟩, List.mem_of_getElem? (i := 1087) (by decide +kernel), List.mem_of_getElem? (i := 1433) (by decide +kernel), List.mem_of_getElem? (i := 1434) (by decide +kernel)⟩
theorem lw_p59 : lw_okq (⟨"PinnedLeavesModel", "countNow", "(I)I"⟩, 11) := ⟨⟨by decide +kernel, by decide +kernel⟩, List.mem_of_getElem? (i := 1087) (by decide +kernel), List.mem_of_getElem? (i := 1449) (by decide +kernel), List.mem_of_getElem? (i := 1450) (by decide +kernel)⟩
theorem lw_p60 : lw_okq (⟨"PinnedLeavesModel", "whyNot", "(I)I"⟩, 11) := ⟨⟨by decide +kernel, by decide +kernel⟩, List.mem_of_getElem? (i := 1087) (by decide +kernel), List.mem_of_getElem? (i := 1461) (by decide +kernel), List.mem_of_getElem? (i := 1462) (by decide +kernel)⟩
theorem lw_p61 : lw_okq (⟨"PinnedLeavesModel", "burnable", "(II)I"⟩, 11) := ⟨⟨by decide +kernel, by decide +kernel⟩, List.mem_of_getElem? (i := 1087) (by decide +kernel), List.mem_of_getElem? (i := 1469) (by decide +kernel), List.mem_of_getElem? (i := 1470) (by decide +kernel)⟩
theorem lw_p62 : lw_okq (⟨"PinnedLeavesModel", "findBestRake", "()I"⟩, 11) := ⟨⟨by decide +kernel, by decide +kernel⟩, List.mem_of_getElem? (i := 1087) (by decide +kernel), List.mem_of_getElem? (i := 1477) (by decide +kernel), List.mem_of_getElem? (i := 1478) (by decide +kernel)⟩
theorem lw_p63 : lw_okq (⟨"PinnedLeavesModel", "freedBy", "(II)I"⟩, 11) := ⟨⟨by decide +kernel, by decide +kernel⟩, List.mem_of_getElem? (i := 1087) (by decide +kernel), List.mem_of_getElem? (i := 1485) (by decide +kernel), List.mem_of_getElem? (i := 1486) (by decide +kernel)⟩
def lw_privs_4 : List (MethodName × Nat) := [(⟨"PinnedLeavesModel", "whyNotSwap", "(III)I"⟩, 11), (⟨"PinnedLeavesModel", "doSwap", "(III)I"⟩, 11), (⟨"PinnedLeavesModel", "whyNotRake", "(I)I"⟩, 11), (⟨"PinnedLeavesModel", "findError", "()I"⟩, 11), (⟨"PinnedLeavesModel", "readOrder", "(I)I"⟩, 11), (⟨"PinnedLeavesModel", "canDo", "()Z"⟩, 11), (⟨"PinnedLeavesModel", "doOrder", "()I"⟩, 11), (⟨"PinnedLeavesModel", "isLeaf", "(I)Z"⟩, 11), (⟨"PinnedLeavesModel", "leafNow", "(II)I"⟩, 11), (⟨"PinnedLeavesModel", "hooksOn", "(II)I"⟩, 11), (⟨"PinnedLeavesModel", "childNow", "(II)I"⟩, 11), (⟨"PinnedLeavesModel", "countNow", "(I)I"⟩, 11), (⟨"PinnedLeavesModel", "whyNot", "(I)I"⟩, 11), (⟨"PinnedLeavesModel", "burnable", "(II)I"⟩, 11), (⟨"PinnedLeavesModel", "findBestRake", "()I"⟩, 11), (⟨"PinnedLeavesModel", "freedBy", "(II)I"⟩, 11)]
theorem lw_r4 : ∀ q ∈ lw_privs_4, lw_okq q := List.forall_mem_cons.mpr ⟨lw_p48, List.forall_mem_cons.mpr ⟨lw_p49, List.forall_mem_cons.mpr ⟨lw_p50, List.forall_mem_cons.mpr ⟨lw_p51, List.forall_mem_cons.mpr ⟨lw_p52, List.forall_mem_cons.mpr ⟨lw_p53, List.forall_mem_cons.mpr ⟨lw_p54, List.forall_mem_cons.mpr ⟨lw_p55, List.forall_mem_cons.mpr ⟨lw_p56, List.forall_mem_cons.mpr ⟨lw_p57, List.forall_mem_cons.mpr ⟨lw_p58, List.forall_mem_cons.mpr ⟨lw_p59, List.forall_mem_cons.mpr ⟨lw_p60, List.forall_mem_cons.mpr ⟨lw_p61, List.forall_mem_cons.mpr ⟨lw_p62, List.forall_mem_cons.mpr ⟨lw_p63, fun _ h => absurd h List.not_mem_nil⟩⟩⟩⟩⟩⟩⟩⟩⟩⟩⟩⟩⟩⟩⟩⟩
theorem lw_p64 : lw_okq (⟨"PinnedLeavesModel", "burnableWithout", "(I)I"⟩, 11) := ⟨⟨by decide +kernel, by decide +kernel⟩, List.mem_of_getElem? (i := 1087) (by decide +kernel), List.mem_of_getElem? (i := 1497) (by decide +kernel), List.mem_of_getElem? (i := 1498) (by decide +kernel)⟩
theorem lw_p65 : lw_okq (⟨"PinnedLeavesModel", "findMostHeld", "()I"⟩, 11) := ⟨⟨by decide +kernel, by decide +kernel⟩, List.mem_of_getElem? (i := 1087) (by decide +kernel), List.mem_of_getElem? (i := 1509) (by decide +kernel), List.mem_of_getElem? (i := 1510) (by decide +kernel)⟩
theorem lw_p66 : lw_okq (⟨"PinnedLeavesModel", "shareOfBurnt", "()D"⟩, 11) := ⟨⟨by decide +kernel, by decide +kernel⟩, List.mem_of_getElem? (i := 1087) (by decide +kernel), List.mem_of_getElem? (i := 1517) (by decide +kernel), List.mem_of_getElem? (i := 1518) (by decide +kernel)⟩
theorem lw_p67 : lw_okq (⟨"PinnedLeavesModel", "fullnessNow", "()F"⟩, 11) := ⟨⟨by decide +kernel, by decide +kernel⟩, List.mem_of_getElem? (i := 1087) (by decide +kernel), List.mem_of_getElem? (i := 1525) (by decide +kernel), List.mem_of_getElem? (i := 1526) (by decide +kernel)⟩
theorem lw_p68 : lw_okq (⟨"PinnedLeavesModel", "digestOf", "(IJ)J"⟩, 11) := ⟨⟨by decide +kernel, by decide +kernel⟩, List.mem_of_getElem? (i := 1087) (by decide +kernel), List.mem_of_getElem? (i := 1535) (by decide +kernel), List.mem_of_getElem? (i := 1536) (by decide +kernel)⟩
def lw_privs_5 : List (MethodName × Nat) := [(⟨"PinnedLeavesModel", "burnableWithout", "(I)I"⟩, 11), (⟨"PinnedLeavesModel", "findMostHeld", "()I"⟩, 11), (⟨"PinnedLeavesModel", "shareOfBurnt", "()D"⟩, 11), (⟨"PinnedLeavesModel", "fullnessNow", "()F"⟩, 11), (⟨"PinnedLeavesModel", "digestOf", "(IJ)J"⟩, 11)]
theorem lw_r5 : ∀ q ∈ lw_privs_5, lw_okq q := List.forall_mem_cons.mpr ⟨lw_p64, List.forall_mem_cons.mpr ⟨lw_p65, List.forall_mem_cons.mpr ⟨lw_p66, List.forall_mem_cons.mpr ⟨lw_p67, List.forall_mem_cons.mpr ⟨lw_p68, fun _ h => absurd h List.not_mem_nil⟩⟩⟩⟩⟩
def lw_privs : List (MethodName × Nat) := lw_privs_1 ++ (lw_privs_2 ++ (lw_privs_3 ++ (lw_privs_4 ++ (lw_privs_5))))
def lw_tbl : List Cond := k2_sels lw_privs ++ tables_1
theorem lw_privs_ok : ∀ q ∈ lw_privs, lw_okq q := by
  show ∀ q ∈ lw_privs_1 ++ (lw_privs_2 ++ (lw_privs_3 ++ (lw_privs_4 ++ (lw_privs_5)))), lw_okq q
  exact List.forall_mem_append.mpr ⟨lw_r1, List.forall_mem_append.mpr ⟨lw_r2, List.forall_mem_append.mpr ⟨lw_r3, List.forall_mem_append.mpr ⟨lw_r4, lw_r5⟩⟩⟩⟩
/-- the streams that the claim lets the run draw from -/
abbrev lw_cs : List Choice := [Jvm.Choice.named "NaN.bits"]
theorem lw_bits : nanBits ∈ lw_cs := by first | decide | exact List.mem_cons_self | simp [lw_cs, nanBits]
/-! ===== BEGIN words of one list among another's, by their places ===== -/
theorem goodIn_r {big : List Cond} (ws : List Cond) (ps : List Nat) (hp : ws = ps.filterMap (fun i => big[i]?)) (h : ws.all goodWord = true) : GoodIn big ws := by
  intro w hw
  have h1 := List.all_eq_true.mp h w hw
  rw [hp] at hw
  obtain ⟨i, -, hi⟩ := List.mem_filterMap.mp hw
  have hm : w ∈ big := by first | exact List.mem_of_getElem? hi | exact List.getElem?_mem hi
  exact ⟨hm, good_of_word h1⟩
theorem goodIn_app {big a b : List Cond} (ha : GoodIn big a) (hb : GoodIn big b) : GoodIn big (a ++ b) := fun w h => (List.mem_append.mp h).elim (ha w) (hb w)
theorem goodIn_ca {big a b : List Cond} {c : Cond} (ha : GoodIn big (c :: a)) (hb : GoodIn big b) : GoodIn big (c :: (a ++ b)) := fun w h => (List.mem_cons.mp h).elim (fun e => ha w (List.mem_cons.mpr (Or.inl e))) (fun h => (List.mem_append.mp h).elim (fun h => ha w (List.mem_cons.mpr (Or.inr h))) (hb w))
theorem goodIn_sub {big ws : List Cond} (hm : ∀ w ∈ ws, w ∈ big) (h : ws.all goodWord = true) : GoodIn big ws := fun w hw => ⟨hm w hw, good_of_word (List.all_eq_true.mp h w hw)⟩
/-! ===== END ===== -/

/-! ===== BEGIN exceptions that leave a method, and their catching by the caller (launches without stack traces) ===== -/
section VXA
/-! The laws vx_back, vx_callV, vx_callS, vx_callSW, vx_throw0, vx_throwS follow proofs of the library, with one case more: JvmDerived/Free/Laws.lean (Back.of_free), Shelf42/LK1.lean (callV, callS), Shelf/KitTraced.lean (throwNew0V, throwNewS). -/
/-- where a method has thrown q: the class by its name, the cell, what was written, the world -/
def vx_T (XC : String → State → State → Prop) (st : State) (q : Addr) (t : State) (mc ms : Nat) (free : Addr → Prop) : Prop :=
  ∃ (E : String) (ce : Cell) (L : List Loc), XC E st t ∧ t.heap[q]? = some ce ∧ ce.vm = .none ∧ st.vm.findClass E = some ce.cls ∧ st.WarmedH t.vm ∧ st.sameButNew ({ t with vm := st.vm } : State) L mc ms ∧ ∀ z ∈ L, free z.base
def vx_Q (Qc : Array Value → State → Outcome → State → Prop) (XC : String → State → State → Prop) (mc ms : Nat) (free : Addr → Prop) : Array Value → State → Outcome → State → Prop := fun a st o t =>
  (Qc a st o t ∧ ∃ L, FrameEnd st o t L mc ms ∧ ∀ q ∈ L, free q.base) ∨ ∃ q, o = .threw q ∧ vx_T XC st q t mc ms free
/-- a callee that returns or throws -/
def vx_Met (l : Launch) (y : MethodName) (ws : List Cond) (rm : Room) (Pc : Array Value → State → Prop) (Qc : Array Value → State → Outcome → State → Prop) (XC : String → State → State → Prop) (mc ms : Nat) (free : Addr → Prop) : Prop :=
  MetFree l y (headSpec ws rm) Pc (fun _ _ _ _ _ => True) (vx_Q Qc XC mc ms free)
def vx_Post (XC : String → State → State → Prop) (mc ms : Nat) (free : Addr → Prop) : Pt → Array Value → Addr → Pt → Prop := fun A a q B =>
  ∃ (g : JFrame) (mk : MethodId) (t : State) (L : List Loc) (E : String) (ce : Cell), B.U.heap = t.heap ∧ B.U.vm = t.vm ∧ XC E (A.U.calling g mk a) t ∧ t.heap[q]? = some ce ∧ ce.vm = .none ∧ A.U.vm.findClass E = some ce.cls ∧ B.locs = A.locs ++ L ∧ (∀ z ∈ L, free z.base) ∧ B.cells = A.cells + mc ∧ B.slots = A.slots + ms
def vx_Back (l : Launch) (R : Room) (p : Program) (e : Env) (below : List Frame) (s : State) (sargs : Array Value) (y : MethodName) (len W9 : Nat)
    (Pre : Pt → Array Value → Prop) (Post : Pt → Array Value → Option Value → Pt → Prop) (PostX : Pt → Array Value → Addr → Pt → Prop) : Prop :=
  ∀ (m : MethodId) (meth : Method) (c : Code) (A : Pt) (g : JFrame) (ig : Instr) (mk : MethodId) (a : Array Value),
    Stand p l e R s m sargs below meth c A.U A.locs A.cells A.slots → g.method = m → g.locals.size = c.maxLocals → decode c.code g.pc = .ok (ig, len) →
    2 * g.monitorRoom + (g.stack.map fun v => v.category).sum ≤ W9 → A.U.methodNamed? y = some mk → Pre A a →
    (∃ (v : Option Value) (B : Pt), Stand p l e R s m sargs below meth c B.U B.locs B.cells B.slots ∧ Post A a v B ∧
      Steps p.tables e below (doInvoke e (A.U.setTop g) [] mk a).1 (B.U.setTop { g with pc := g.pc + len, stack := v.toList ++ g.stack })) ∨
    (∃ (q : Addr) (B : Pt), Stand p l e R s m sargs below meth c B.U B.locs B.cells B.slots ∧ PostX A a q B ∧
      Steps p.tables e below (doInvoke e (A.U.setTop g) [] mk a).1 ((B.U.setTop g).pushFrame (.throwing q)))
section Payer
variable {l : Launch} {R : Room} {p : Program} {e : Env} {below : List Frame} {s : State} {sargs : Array Value} {y : MethodName} {len W9 : Nat}
theorem vx_back {ws : List Cond} {rm : Room} {Pc : Array Value → State → Prop} {Qc : Array Value → State → Outcome → State → Prop} {XC : String → State → State → Prop} {mc ms : Nat} {free : Addr → Prop} {bytes : ByteArray} {maxL : Nat} {ret : Option FieldType}
    (hM : vx_Met l y ws rm Pc Qc XC mc ms free) (hblind : FrameBlind Pc) (hrc : rm.cells = mc) (hrs : rm.slots = ms)
    (hframes : rm.frames + 1 ≤ R.frames) (hlocals : W9 + (maxL + 11) + rm.locals ≤ R.locals)
    (hws : ∀ w ∈ ws, ∀ a' U, s.WarmedH U.vm → w.before a' U = true) (hcode : Cond.code y bytes maxL ret ∈ ws) (hinit : ∀ a' U, s.WarmedH U.vm → (Cond.initialized y.cls).before a' U = true) :
    vx_Back l R p e below s sargs y len W9 (PreOf R mc ms Pc) (PostOf Qc mc ms free) (vx_Post XC mc ms free) := by
  intro m meth c A g ig mk a X hg hsize hdg hW hn hp
  have h1 : (headSpec ws rm).pre.before a A.U = true := atoms_intro fun w hw => hws w hw _ _ X.warmed
  have h2 : (Cond.code y bytes maxL ret).before a A.U = true := hws _ hcode _ _ X.warmed
  have h3 : (Cond.initialized y.cls).before a A.U = true := hinit _ _ X.warmed
  have h4 : A.cells + (headSpec ws rm).room.cells ≤ R.cells := by rw [show (headSpec ws rm).room.cells = mc from hrc]; exact hp.1
  have h5 : A.slots + (headSpec ws rm).room.slots ≤ R.slots := by rw [show (headSpec ws rm).room.slots = ms from hrs]; exact hp.2.1
  have hPc : Pc a (A.U.calling g mk a) := hblind _ _ _ _ hp.2.2
  obtain ⟨U, Ls, c0, s0⟩ := A
  dsimp only [Pt.U, Pt.locs, Pt.cells, Pt.slots] at h1 h2 h3 h4 h5 X hn hPc ⊢
  obtain ⟨methY, cY, hmY, hcY, -, hlY, -, -, -, -⟩ := Cond.code_spec hn h2
  obtain ⟨kY, hkY, -⟩ := className_of_methodNamed hn
  have hinitY : kY.init = .initialized := Cond.initialized_spec (findClass_of_methodNamed hn) hkY h3
  have h : At U g.method c below := by rw [hg]; exact X.here
  have hlocals9 : W9 + (maxL + 11) + (headSpec ws rm).room.locals ≤ R.locals := hlocals
  have happ : (headSpec ws rm).appliesLoose y e.platform (U.calling g mk a) = true :=
    Spec.appliesLoose_calling (g := g) h hdg hn hkY hinitY
      (X.room_calling (g := g) (R' := (headSpec ws rm).room) hsize hmY hcY hframes (by rw [hlY]; omega) h4 h5) h1
  obtain ⟨mid, hmid⟩ := h.above
  have hfr : (U.setTop g).frames = (.java g :: mid) ++ below := by rw [State.frames_setTop' g h.top, hmid]; rfl
  obtain ⟨o, s₂, hsteps, -, hend, hq⟩ := Steps.callFree hM p X.admits X.cas X.clock (acts := []) hfr happ hPc trivial
  have hq' : vx_Q Qc XC mc ms free a (U.calling g mk a) o s₂ := hq
  rw [State.frames_setTop' g h.top] at hend
  obtain ⟨g₀, hg0⟩ := Option.isSome_iff_exists.mp h.top
  obtain ⟨r, hr⟩ := State.topJava?_eq_some.mp hg0
  have hr' : (({ U with heap := s₂.heap, slotsUsed := s₂.slotsUsed } : State).setVm s₂.vm).frames = .java g₀ :: r := hr
  rcases hq' with ⟨hqc, L, hfe, hL⟩ | ⟨q, rfl, E, ce, L, hx, hce, hcv, hcl, hW₂, hsm, hL⟩
  · obtain ⟨⟨v, rfl⟩, hW₂, e2, q2, q3, q4, q5, q6⟩ := id hfe
    have e3 : s₂ = ({ (U.calling g mk a).setFrames s₂.frames with heap := s₂.heap, slotsUsed := s₂.slotsUsed } : State).setVm s₂.vm := by
      have : s₂ = ({ s₂ with vm := (U.calling g mk a).vm } : State).setVm s₂.vm := rfl
      rw [e2] at this
      exact this
    obtain ⟨c₂, i₂, len₂, hc₂, hd₂, hf₂⟩ := hend
    have hW' : U.WarmedH s₂.vm := hW₂
    have hcc : c₂ = c := by
      have h1 : s₂.code? g.method = U.code? g.method := by
        rw [State.code?_eq, State.code?_eq, hW'.alike.method?]
      exact Option.some.inj (hc₂.symm.trans (h1.trans h.code))
    subst hcc
    have hlen : len₂ = len := by rw [hdg] at hd₂; cases hd₂; rfl
    subst hlen
    have hs₂ : s₂ = (({ U with heap := s₂.heap, slotsUsed := s₂.slotsUsed } : State).setVm s₂.vm).setTop { g with pc := g.pc + len₂, stack := v.toList ++ g.stack } := by
      refine e3.trans ?_
      rw [hf₂, State.calling_eq h.top, State.setFrames_setFrames, State.setTop_of_frames _ hr', hr]
      rfl
    have hsame : U.sameButNew ({ U with heap := s₂.heap, slotsUsed := s₂.slotsUsed } : State) L mc ms := by
      refine ⟨?_, q2, q3, q4, q5, q6⟩
      obtain ⟨t, ht, -⟩ := State.frames_cons hr
      show ({ U with heap := s₂.heap, slotsUsed := s₂.slotsUsed } : State) = { U.setFrames U.frames with heap := s₂.heap, slotsUsed := s₂.slotsUsed }
      rw [State.setFrames_self ht]
    subst hg
    refine Or.inl ⟨v, ⟨(({ U with heap := s₂.heap, slotsUsed := s₂.slotsUsed } : State).setVm s₂.vm), Ls ++ L, c0 + mc, s0 + ms⟩,
      ⟨X.admits, X.cas, X.clock, X.frames, X.room, X.hears, X.method, X.code, (X.here.setHeapUsed s₂.heap s₂.slotsUsed).setVm hW'.alike, X.tail, State.WarmedH.trans X.warmed hW', X.limits, X.bytes, X.same.trans (hsame.setVm s.vm)⟩,
      ⟨g, mk, s₂, L, rfl, rfl, hqc, rfl, hL, rfl, rfl⟩, ?_⟩
    show Steps p.tables e below _ ((({ U with heap := s₂.heap, slotsUsed := s₂.slotsUsed } : State).setVm s₂.vm).setTop { g with pc := g.pc + len₂, stack := v.toList ++ g.stack })
    rw [← hs₂]
    exact hsteps
  · obtain ⟨e2, q2, q3, q4, q5, q6⟩ := id hsm
    have e3 : s₂ = ({ (U.calling g mk a).setFrames s₂.frames with heap := s₂.heap, slotsUsed := s₂.slotsUsed } : State).setVm s₂.vm := by
      have : s₂ = ({ s₂ with vm := (U.calling g mk a).vm } : State).setVm s₂.vm := rfl
      rw [e2] at this
      exact this
    have hf₂ : s₂.frames = .throwing q :: .java g :: U.frames.tail := hend
    have hW' : U.WarmedH s₂.vm := hW₂
    have hs₂ : s₂ = ((({ U with heap := s₂.heap, slotsUsed := s₂.slotsUsed } : State).setVm s₂.vm).setTop g).pushFrame (.throwing q) := by
      refine e3.trans ?_
      rw [hf₂, State.calling_eq h.top, State.setFrames_setFrames, State.pushFrame, State.frames_setTop _ hr', State.setTop_of_frames _ hr', State.setFrames_setFrames, hr]
      rfl
    have hsame : U.sameButNew ({ U with heap := s₂.heap, slotsUsed := s₂.slotsUsed } : State) L mc ms := by
      refine ⟨?_, q2, q3, q4, q5, q6⟩
      obtain ⟨t, ht, -⟩ := State.frames_cons hr
      show ({ U with heap := s₂.heap, slotsUsed := s₂.slotsUsed } : State) = { U.setFrames U.frames with heap := s₂.heap, slotsUsed := s₂.slotsUsed }
      rw [State.setFrames_self ht]
    subst hg
    refine Or.inr ⟨q, ⟨(({ U with heap := s₂.heap, slotsUsed := s₂.slotsUsed } : State).setVm s₂.vm), Ls ++ L, c0 + mc, s0 + ms⟩,
      ⟨X.admits, X.cas, X.clock, X.frames, X.room, X.hears, X.method, X.code, (X.here.setHeapUsed s₂.heap s₂.slotsUsed).setVm hW'.alike, X.tail, State.WarmedH.trans X.warmed hW', X.limits, X.bytes, X.same.trans (hsame.setVm s.vm)⟩,
      ⟨g, mk, s₂, L, E, ce, rfl, rfl, hx, hce, hcv, hcl, rfl, hL, rfl, rfl⟩, ?_⟩
    show Steps p.tables e below _ (((({ U with heap := s₂.heap, slotsUsed := s₂.slotsUsed } : State).setVm s₂.vm).setTop g).pushFrame (.throwing q))
    rw [← hs₂]
    exact hsteps
end Payer
section Calls
variable {p : Program} {l : Launch} {e : Env} {R : Room} {s : State} {m : MethodId} {args : Array Value} {below : List Frame} {meth : Method} {c : Code} {T : State} {locs : List Loc} {cells slots : Nat}
theorem vx_callV (X : Stand p l e R s m args below meth c T locs cells slots) (hexec : p.tables.exec = Jvm.exec) {own C : String} {index : Nat} {y : MethodName} {bytes : ByteArray} {maxL : Nat} {ret : Option FieldType}
    (hown : s.vm.findClass own = some m.cls) (hlink : (Cond.methodLink own index y).before args s = true) (hinst : (Cond.instanceMethod y).before args s = true) (hsel : (Cond.selects C y y).before args s = true)
    (hcode : (Cond.code y bytes maxL ret).before args s = true) (hy : y.cls ≠ "java/lang/invoke/MethodHandle" ∧ y.cls ≠ "java/lang/invoke/VarHandle")
    {W9 : Nat} {Pre : Pt → Array Value → Prop} {Post : Pt → Array Value → Option Value → Pt → Prop} {PostX : Pt → Array Value → Addr → Pt → Prop} (hK : vx_Back l R p e below s args y 3 W9 Pre Post PostX)
    {b : Addr} {cellB : Cell} (hcell : T.heap[b]? = some cellB) (hobj : cellB.vm.isStatics = false) (hcls : s.vm.findClass C = some cellB.cls)
    {g : JFrame} (hg : g.method = m) (hsize : g.locals.size = c.maxLocals) {argsL rest : List Value} (hlen : ∀ sig, parseMethodDescriptor y.desc = some sig → argsL.length = sig.parameters.length)
    (hstack : g.stack = argsL.reverse ++ .ref b :: rest) (hW : 2 * g.monitorRoom + (rest.map fun v => v.category).sum ≤ W9) (hdg : decode c.code g.pc = .ok (.invokevirtual index, 3))
    (hpre : ∀ vm₁, s.WarmedH vm₁ → Pre ⟨T.setVm vm₁, locs, cells, slots⟩ (Value.ref b :: argsL).toArray) :
    (∃ (v : Option Value) (vm₁ : Vm) (B : Pt), s.WarmedH vm₁ ∧ Stand p l e R s m args below meth c B.U B.locs B.cells B.slots ∧ Post ⟨T.setVm vm₁, locs, cells, slots⟩ (Value.ref b :: argsL).toArray v B ∧
      ∀ target, Steps p.tables e below (B.U.setTop { g with pc := g.pc + 3, stack := v.toList ++ rest }) target → Steps p.tables e below (T.setTop g) target) ∨
    (∃ (q : Addr) (vm₁ : Vm) (B : Pt), s.WarmedH vm₁ ∧ Stand p l e R s m args below meth c B.U B.locs B.cells B.slots ∧ PostX ⟨T.setVm vm₁, locs, cells, slots⟩ (Value.ref b :: argsL).toArray q B ∧
      Steps p.tables e below (T.setTop g) ((B.U.setTop { g with stack := rest }).pushFrame (.throwing q))) := by
  obtain ⟨mk, methM, hnamed, hmethM, hstM, habM⟩ := Cond.instanceMethod_spec hinst
  obtain ⟨methM', cM, hmethM', -, -, -, -, -, -, hsigM⟩ := Cond.code_spec hnamed hcode
  cases hmethM.symm.trans hmethM'
  obtain ⟨c2, r2, m2, q1, q2, q3, q4, kP, hkP, hkPi⟩ := Cond.selects_spec hsel
  cases hcls.symm.trans q1
  cases (State.methodFound?_of_named hnamed hy).symm.trans q2
  cases hnamed.symm.trans q3
  have hselP : selectMethod e.platform s.vm cellB.cls mk = .method mk := by rw [Launch.admits_selectMethod X.admits]; exact q4
  obtain ⟨vm₁, X₁, hstep₁⟩ := X.invokevirtual hexec hown hlink hnamed hmethM hstM hkP hkPi hy (a := b) (cell := cellB) hcell
    (fun z h => by rw [h] at hobj; cases hobj) hselP hmethM habM hkP hkPi (g := g) hg (argsL := argsL) (rest := rest) (hlen _ hsigM) hstack hdg
  rcases hK m meth c ⟨T.setVm vm₁, locs, cells, slots⟩ { g with stack := rest } (.invokevirtual index) mk (Value.ref b :: argsL).toArray X₁ hg hsize hdg hW (X₁.named hnamed) (hpre vm₁ X₁.warmed) with ⟨v, B, X', hpost, hsteps⟩ | ⟨q, B, X', hpost, hsteps⟩
  · exact Or.inl ⟨v, vm₁, B, X₁.warmed, X', hpost, fun target h => hstep₁ _ fun acts => by rw [doInvoke_state]; exact hsteps.trans h⟩
  · exact Or.inr ⟨q, vm₁, B, X₁.warmed, X', hpost, hstep₁ _ fun acts => by rw [doInvoke_state]; exact hsteps⟩
theorem vx_callS (X : Stand p l e R s m args below meth c T locs cells slots) (hexec : p.tables.exec = Jvm.exec) {own : String} {index : Nat} {y : MethodName} {bytes : ByteArray} {maxL : Nat} {ret : Option FieldType}
    (hown : s.vm.findClass own = some m.cls) (hlink : (Cond.methodLink own index y).before args s = true) (hstat : (Cond.static y).before args s = true) (hinit : (Cond.initialized y.cls).before args s = true)
    (hcode : (Cond.code y bytes maxL ret).before args s = true) (hy : y.cls ≠ "java/lang/invoke/MethodHandle" ∧ y.cls ≠ "java/lang/invoke/VarHandle")
    {W9 : Nat} {Pre : Pt → Array Value → Prop} {Post : Pt → Array Value → Option Value → Pt → Prop} {PostX : Pt → Array Value → Addr → Pt → Prop} (hK : vx_Back l R p e below s args y 3 W9 Pre Post PostX)
    {g : JFrame} (hg : g.method = m) (hsize : g.locals.size = c.maxLocals) {argsL rest : List Value} (hlen : ∀ sig, parseMethodDescriptor y.desc = some sig → argsL.length = sig.parameters.length)
    (hstack : g.stack = argsL.reverse ++ rest) (hW : 2 * g.monitorRoom + (rest.map fun v => v.category).sum ≤ W9) (hdg : decode c.code g.pc = .ok (.invokestatic index, 3))
    (hpre : ∀ vm₁, s.WarmedH vm₁ → Pre ⟨T.setVm vm₁, locs, cells, slots⟩ argsL.toArray) :
    (∃ (v : Option Value) (vm₁ : Vm) (B : Pt), s.WarmedH vm₁ ∧ Stand p l e R s m args below meth c B.U B.locs B.cells B.slots ∧ Post ⟨T.setVm vm₁, locs, cells, slots⟩ argsL.toArray v B ∧
      ∀ target, Steps p.tables e below (B.U.setTop { g with pc := g.pc + 3, stack := v.toList ++ rest }) target → Steps p.tables e below (T.setTop g) target) ∨
    (∃ (q : Addr) (vm₁ : Vm) (B : Pt), s.WarmedH vm₁ ∧ Stand p l e R s m args below meth c B.U B.locs B.cells B.slots ∧ PostX ⟨T.setVm vm₁, locs, cells, slots⟩ argsL.toArray q B ∧
      Steps p.tables e below (T.setTop g) ((B.U.setTop { g with stack := rest }).pushFrame (.throwing q))) := by
  obtain ⟨mk, hnamed⟩ := Cond.code_named hcode
  obtain ⟨methM, cM, hmethM, -, -, -, -, -, -, hsigM⟩ := Cond.code_spec hnamed hcode
  have hstatic : methM.isStatic = true := Cond.static_spec hnamed hmethM hstat
  obtain ⟨kP, hkP, -⟩ := className_of_methodNamed hnamed
  have hinitP : kP.init = .initialized := Cond.initialized_spec (findClass_of_methodNamed hnamed) hkP hinit
  obtain ⟨vm₁, X₁, hstep₁⟩ := X.invokestatic hexec hown hlink hnamed hmethM hstatic hkP hinitP hy (g := g) hg (argsL := argsL) (rest := rest) (hlen _ hsigM) hstack hdg
  rcases hK m meth c ⟨T.setVm vm₁, locs, cells, slots⟩ { g with stack := rest } (.invokestatic index) mk argsL.toArray X₁ hg hsize hdg hW (X₁.named hnamed) (hpre vm₁ X₁.warmed) with ⟨v, B, X', hpost, hsteps⟩ | ⟨q, B, X', hpost, hsteps⟩
  · exact Or.inl ⟨v, vm₁, B, X₁.warmed, X', hpost, fun target h => hstep₁ _ fun acts => by rw [doInvoke_state]; exact hsteps.trans h⟩
  · exact Or.inr ⟨q, vm₁, B, X₁.warmed, X', hpost, hstep₁ _ fun acts => by rw [doInvoke_state]; exact hsteps⟩
end Calls
theorem vx_cls {s : State} {T : State} {vm₁ : Vm} {E : String} {k : ClassId} (hW : s.WarmedH vm₁) (h : (T.setVm vm₁).vm.findClass E = some k) : s.vm.findClass E = some k := by
  have h1 : vm₁.findClass E = some k := h
  rw [hW.alike.findClass] at h1
  exact h1
/-- the method's frame g, with q thrown over it -/
def vx_W (p : Program) (l : Launch) (e : Env) (R : Room) (s : State) (m : MethodId) (args : Array Value) (below : List Frame) (meth : Method) (c : Code) (H : Heap) (locs : List Loc) (cells slots : Nat) (Q : State → Prop) (g : JFrame) (q : Addr) : Prop :=
  ∀ T : State, T.heap = H → Stand p l e R s m args below meth c T locs cells slots → ∃ t, Steps p.tables e below ((T.setTop g).pushFrame (.throwing q)) t ∧ Q t
def vx_Run (p : Program) (l : Launch) (e : Env) (R : Room) (s : State) (m : MethodId) (args : Array Value) (below : List Frame) (meth : Method) (c : Code) (H : Heap) (locs : List Loc) (cells slots mc ms : Nat) (g : JFrame) (rest : List Value) (Qa : State → Outcome → State → Prop) (XC : String → State → State → Prop) (free : Addr → Prop) : Prop :=
  ∀ T : State, T.heap = H → Stand p l e R s m args below meth c T locs cells slots →
    (∃ (v : Option Value) (st₀ t T' : State) (L : List Loc), st₀.heap = H ∧ Stand p l e R s m args below meth c T' (locs ++ L) (cells + mc) (slots + ms) ∧ (∀ q ∈ L, free q.base) ∧ T'.heap = t.heap ∧ T'.vm = t.vm ∧ Qa st₀ (.returned v) t ∧
      Goes p e below T g T' { g with pc := g.pc + 3, stack := v.toList ++ rest }) ∨
    (∃ (q : Addr) (st₀ t T' : State) (L : List Loc) (E : String) (ce : Cell), st₀.heap = H ∧ Stand p l e R s m args below meth c T' (locs ++ L) (cells + mc) (slots + ms) ∧ (∀ z ∈ L, free z.base) ∧ T'.heap = t.heap ∧ T'.vm = t.vm ∧ XC E st₀ t ∧ t.heap[q]? = some ce ∧ ce.vm = .none ∧ s.vm.findClass E = some ce.cls ∧
      Steps p.tables e below (T.setTop g) ((T'.setTop { g with stack := rest }).pushFrame (.throwing q)))
def vx_X {S : Type} (px : S → Prop) (B : String → S → State → Prop) (A : Nat → Prop) : String → State → State → Prop := fun E st t => ∃ u : S, px u ∧ B E u t ∧ va_F A st t
section Runs
variable {p : Program} {l : Launch} {e : Env} {R : Room} {s : State} {m : MethodId} {args : Array Value} {below : List Frame} {meth : Method} {c : Code} {H : Heap} {locs : List Loc} {cells slots : Nat}
variable {y : MethodName} {bytes cc : ByteArray} {maxL nL mc ms n index : Nat} {ret : Option FieldType} {ws : List Cond} {rm : Room} {Pc : Array Value → State → Prop} {Qc : Array Value → State → Outcome → State → Prop} {XC : String → State → State → Prop} {free : Addr → Prop} {Ts : List Cond} {own C : String} {b : Addr} {As rest : List Value} {g : JFrame}
theorem vx_callBack (cb : CallB R s args own index y bytes maxL ret ws rm mc ms n) (hM : vx_Met l y ws rm Pc Qc XC mc ms free) (hbl : FrameBlind Pc) : vx_Back l R p e below s args y 3 8 (PreOf R mc ms Pc) (PostOf Qc mc ms free) (vx_Post XC mc ms free) := by
  obtain ⟨hrc, hrs, hfr, hlo, hws, hcw, -, hini, -⟩ := cb
  exact vx_back (bytes := bytes) (maxL := maxL) (ret := ret) hM hbl hrc hrs hfr hlo hws hcw (fun a' U hW => word_at hW (Or.inl (by first | rfl | simp [Cond.onTables, Cond.keeps, Cond.steady])) hini)
theorem vx_runV (S : CallFix p m c cc nL s args Ts own) (hM : vx_Met l y ws rm Pc Qc XC mc ms free) (cw : CallW R s args own C index y bytes maxL ret ws rm mc ms n) (hp : PreV s H C b Pc As)
    (hg : g.method = m) (hn : As.length = n) (hsize : g.locals.size = nL) (hstack : g.stack = As.reverse ++ .ref b :: rest) (hW : 2 * g.monitorRoom + (rest.map fun v => v.category).sum ≤ 8) (hdg : decode cc g.pc = .ok (.invokevirtual index, 3)) (hf : cells + mc ≤ R.cells ∧ slots + ms ≤ R.slots) :
    vx_Run p l e R s m args below meth c H locs cells slots mc ms g rest (Qc (Value.ref b :: As).toArray) XC free := by
  have hK : vx_Back l R p e below s args y 3 8 (PreOf R mc ms Pc) (PostOf Qc mc ms free) (vx_Post XC mc ms free) := vx_callBack cw.1 hM hp.1
  obtain ⟨⟨-, -, -, -, -, -, hcode, -, hy, hlen, hl⟩, hin, hse⟩ := cw
  obtain ⟨hx, hb, hml, ho, -⟩ := S
  obtain ⟨-, ⟨cellB, hcB, hoB, hclB⟩, hPc⟩ := hp
  intro T hT X
  rcases vx_callV X hx (C := C) (bytes := bytes) (maxL := maxL) (ret := ret) ho hl hin hse hcode hy hK (by rw [hT]; exact hcB) hoB hclB hg (hsize.trans hml.symm) (argsL := As) (rest := rest) (fun sig h => hn.trans (hlen sig h)) hstack hW (by rw [hb]; exact hdg)
    (fun vm₁ hW₁ => ⟨hf.1, hf.2, hPc (T.setVm vm₁) hT hW₁⟩) with ⟨v, vm₁, ⟨U', l2, c2, s2⟩, hW₁, X', ⟨g', mk, t, L, e1, e2, hq, h1, hL, h2, h3⟩, st⟩ | ⟨q, vm₁, ⟨U', l2, c2, s2⟩, hW₁, X', ⟨g', mk, t, L, E, ce, e1, e2, hq, hce, hcv, hcl, h1, hL, h2, h3⟩, st⟩
  · dsimp only [Pt.U, Pt.locs, Pt.cells, Pt.slots] at X' e1 e2 h1 h2 h3 st
    subst h1; subst h2; subst h3
    exact Or.inl ⟨v, (T.setVm vm₁).calling g' mk (Value.ref b :: As).toArray, t, U', L, hT, X', hL, e1, e2, hq, st⟩
  · dsimp only [Pt.U, Pt.locs, Pt.cells, Pt.slots] at X' e1 e2 h1 h2 h3 st hcl
    subst h1; subst h2; subst h3
    exact Or.inr ⟨q, (T.setVm vm₁).calling g' mk (Value.ref b :: As).toArray, t, U', L, E, ce, hT, X', hL, e1, e2, hq, hce, hcv, vx_cls hW₁ hcl, st⟩
theorem vx_runS (S : CallFix p m c cc nL s args Ts own) (hM : vx_Met l y ws rm Pc Qc XC mc ms free) (cw : CallB R s args own index y bytes maxL ret ws rm mc ms n ∧ (Cond.static y).before args s = true) (hp : PreS s H Pc As)
    (hg : g.method = m) (hn : As.length = n) (hsize : g.locals.size = nL) (hstack : g.stack = As.reverse ++ rest) (hW : 2 * g.monitorRoom + (rest.map fun v => v.category).sum ≤ 8) (hdg : decode cc g.pc = .ok (.invokestatic index, 3)) (hf : cells + mc ≤ R.cells ∧ slots + ms ≤ R.slots) :
    vx_Run p l e R s m args below meth c H locs cells slots mc ms g rest (Qc As.toArray) XC free := by
  have hK : vx_Back l R p e below s args y 3 8 (PreOf R mc ms Pc) (PostOf Qc mc ms free) (vx_Post XC mc ms free) := vx_callBack cw.1 hM hp.1
  obtain ⟨⟨-, -, -, -, -, -, hcode, hini, hy, hlen, hl⟩, hstt⟩ := cw
  obtain ⟨hx, hb, hml, ho, -⟩ := S
  intro T hT X
  rcases vx_callS X hx (bytes := bytes) (maxL := maxL) (ret := ret) ho hl hstt hini hcode hy hK hg (hsize.trans hml.symm) (argsL := As) (rest := rest) (fun sig h => hn.trans (hlen sig h)) hstack hW (by rw [hb]; exact hdg)
    (fun vm₁ hW₁ => ⟨hf.1, hf.2, hp.2 (T.setVm vm₁) hT hW₁⟩) with ⟨v, vm₁, ⟨U', l2, c2, s2⟩, hW₁, X', ⟨g', mk, t, L, e1, e2, hq, h1, hL, h2, h3⟩, st⟩ | ⟨q, vm₁, ⟨U', l2, c2, s2⟩, hW₁, X', ⟨g', mk, t, L, E, ce, e1, e2, hq, hce, hcv, hcl, h1, hL, h2, h3⟩, st⟩
  · dsimp only [Pt.U, Pt.locs, Pt.cells, Pt.slots] at X' e1 e2 h1 h2 h3 st
    subst h1; subst h2; subst h3
    exact Or.inl ⟨v, (T.setVm vm₁).calling g' mk As.toArray, t, U', L, hT, X', hL, e1, e2, hq, st⟩
  · dsimp only [Pt.U, Pt.locs, Pt.cells, Pt.slots] at X' e1 e2 h1 h2 h3 st hcl
    subst h1; subst h2; subst h3
    exact Or.inr ⟨q, (T.setVm vm₁).calling g' mk As.toArray, t, U', L, E, ce, hT, X', hL, e1, e2, hq, hce, hcv, vx_cls hW₁ hcl, st⟩
end Runs
section Rows
variable {p : Program} {l : Launch} {e : Env} {R : Room} {s : State} {m : MethodId} {args : Array Value} {below : List Frame} {meth : Method} {c : Code} {H : Heap} {locs : List Loc} {cells slots : Nat} {Q : State → Prop}
variable {mc ms : Nat} {free : Addr → Prop} {A0 A1 : Nat → Prop} {H0 : Heap} {a : Array Value} {pc : Nat} {ls : Array Slot} {st0 rest : List Value}
theorem vx_keep {st₀ t T' : State} {L : List Loc} (h0 : st₀.heap = H) (e1 : T'.heap = t.heap) (hS : va_S A0 H0 H locs) (hA : ∀ q, q < H.size → A1 q → A0 q) (hf : ∀ q, free q → A0 q) (hL : ∀ q ∈ L, free q.base) (hF : va_F A1 st₀ t) :
    H.size ≤ T'.heap.size ∧ (∀ q : Nat, q < H.size → ¬ A1 q → T'.heap[q]? = H[q]?) ∧ va_S A0 H0 T'.heap (locs ++ L) := by
  obtain ⟨hz, hk⟩ := hF
  rw [h0] at hz hk
  exact ⟨by rw [e1]; exact hz, fun q h1 h2 => by rw [e1]; exact hk q h1 h2,
    ⟨Nat.le_trans hS.1 (by rw [e1]; exact hz), fun q h1 h2 => by rw [e1, hk q (Nat.lt_of_lt_of_le h1 hS.1) (fun z => h2 (hA q (Nat.lt_of_lt_of_le h1 hS.1) z))]; exact hS.2.1 q h1 h2, fun q hq => by
      rcases List.mem_append.mp hq with h | h
      · exact hS.2.2 q h
      · exact hf _ (hL q h)⟩⟩
theorem vx_calli {S SX : Type} {post : Int32 → S → Prop} {px : SX → Prop} {B : S → State → Prop} {BX : String → SX → State → Prop} {AX : Nat → Prop} (hr : vx_Run p l e R s m args below meth c H locs cells slots mc ms (F0 m pc ls st0) rest (va_Qi post B A1 a) (vx_X px BX AX) free) (hS : va_S A0 H0 H locs) (hA : ∀ q, q < H.size → A1 q → A0 q) (hf : ∀ q, free q → A0 q) (hAX : ∀ q, q < H.size → AX q → A0 q)
    (kx : ∀ (E : String) (ce : Cell) (q9 : Addr) (u : SX) (t : State) (H1 : Heap) (locs1 : List Loc), t.heap = H1 → s.vm.Alike t.vm → px u → BX E u t → H.size ≤ H1.size → (∀ q : Nat, q < H.size → ¬ AX q → H1[q]? = H[q]?) → va_S A0 H0 H1 locs1 → H1[q9]? = some ce → ce.vm = .none → s.vm.findClass E = some ce.cls → vx_W p l e R s m args below meth c H1 locs1 (cells + mc) (slots + ms) Q (F0 m pc ls rest) q9)
    (kk : ∀ (r : Int32) (u : S) (t : State) (H1 : Heap) (locs1 : List Loc), t.heap = H1 → s.vm.Alike t.vm → post r u → B u t → H.size ≤ H1.size → (∀ q : Nat, q < H.size → ¬ A1 q → H1[q]? = H[q]?) → va_S A0 H0 H1 locs1 → W p l e R s m args below meth c H1 locs1 (cells + mc) (slots + ms) Q (F0 m (pc + 3) ls (.int r :: rest))) : W p l e R s m args below meth c H locs cells slots Q (F0 m pc ls st0) := by
  intro T hT X
  rcases hr T hT X with ⟨v, st₀, t, T', L, h0, X', hL, e1, e2, ⟨⟨r, u, hv, hp, hb⟩, hF⟩, st⟩ | ⟨q, st₀, t, T', L, E, ce, h0, X', hL, e1, e2, ⟨u, hp, hb, hF⟩, hce, hcv, hcl, st⟩
  · cases hv
    obtain ⟨k1, k2, k3⟩ := vx_keep h0 e1 hS hA hf hL hF
    obtain ⟨t2, a1, b1⟩ := kk r u t T'.heap (locs ++ L) e1.symm (by rw [← e2]; exact X'.warmed.alike) hp hb k1 k2 k3 T' rfl X'
    exact ⟨t2, st t2 a1, b1⟩
  · obtain ⟨k1, k2, k3⟩ := vx_keep h0 e1 hS hAX hf hL hF
    obtain ⟨t2, a1, b1⟩ := kx E ce q u t T'.heap (locs ++ L) e1.symm (by rw [← e2]; exact X'.warmed.alike) hp hb k1 k2 k3 (by rw [e1]; exact hce) hcv hcl T' rfl X'
    exact ⟨t2, st.trans a1, b1⟩
theorem vx_calll {S SX : Type} {post : Int64 → S → Prop} {px : SX → Prop} {B : S → State → Prop} {BX : String → SX → State → Prop} {AX : Nat → Prop} (hr : vx_Run p l e R s m args below meth c H locs cells slots mc ms (F0 m pc ls st0) rest (va_Ql post B A1 a) (vx_X px BX AX) free) (hS : va_S A0 H0 H locs) (hA : ∀ q, q < H.size → A1 q → A0 q) (hf : ∀ q, free q → A0 q) (hAX : ∀ q, q < H.size → AX q → A0 q)
    (kx : ∀ (E : String) (ce : Cell) (q9 : Addr) (u : SX) (t : State) (H1 : Heap) (locs1 : List Loc), t.heap = H1 → s.vm.Alike t.vm → px u → BX E u t → H.size ≤ H1.size → (∀ q : Nat, q < H.size → ¬ AX q → H1[q]? = H[q]?) → va_S A0 H0 H1 locs1 → H1[q9]? = some ce → ce.vm = .none → s.vm.findClass E = some ce.cls → vx_W p l e R s m args below meth c H1 locs1 (cells + mc) (slots + ms) Q (F0 m pc ls rest) q9)
    (kk : ∀ (r : Int64) (u : S) (t : State) (H1 : Heap) (locs1 : List Loc), t.heap = H1 → s.vm.Alike t.vm → post r u → B u t → H.size ≤ H1.size → (∀ q : Nat, q < H.size → ¬ A1 q → H1[q]? = H[q]?) → va_S A0 H0 H1 locs1 → W p l e R s m args below meth c H1 locs1 (cells + mc) (slots + ms) Q (F0 m (pc + 3) ls (.long r :: rest))) : W p l e R s m args below meth c H locs cells slots Q (F0 m pc ls st0) := by
  intro T hT X
  rcases hr T hT X with ⟨v, st₀, t, T', L, h0, X', hL, e1, e2, ⟨⟨r, u, hv, hp, hb⟩, hF⟩, st⟩ | ⟨q, st₀, t, T', L, E, ce, h0, X', hL, e1, e2, ⟨u, hp, hb, hF⟩, hce, hcv, hcl, st⟩
  · cases hv
    obtain ⟨k1, k2, k3⟩ := vx_keep h0 e1 hS hA hf hL hF
    obtain ⟨t2, a1, b1⟩ := kk r u t T'.heap (locs ++ L) e1.symm (by rw [← e2]; exact X'.warmed.alike) hp hb k1 k2 k3 T' rfl X'
    exact ⟨t2, st t2 a1, b1⟩
  · obtain ⟨k1, k2, k3⟩ := vx_keep h0 e1 hS hAX hf hL hF
    obtain ⟨t2, a1, b1⟩ := kx E ce q u t T'.heap (locs ++ L) e1.symm (by rw [← e2]; exact X'.warmed.alike) hp hb k1 k2 k3 (by rw [e1]; exact hce) hcv hcl T' rfl X'
    exact ⟨t2, st.trans a1, b1⟩
theorem vx_callf {S SX : Type} {post : UInt32 → S → Prop} {px : SX → Prop} {B : S → State → Prop} {BX : String → SX → State → Prop} {AX : Nat → Prop} (hr : vx_Run p l e R s m args below meth c H locs cells slots mc ms (F0 m pc ls st0) rest (va_Qf post B A1 a) (vx_X px BX AX) free) (hS : va_S A0 H0 H locs) (hA : ∀ q, q < H.size → A1 q → A0 q) (hf : ∀ q, free q → A0 q) (hAX : ∀ q, q < H.size → AX q → A0 q)
    (kx : ∀ (E : String) (ce : Cell) (q9 : Addr) (u : SX) (t : State) (H1 : Heap) (locs1 : List Loc), t.heap = H1 → s.vm.Alike t.vm → px u → BX E u t → H.size ≤ H1.size → (∀ q : Nat, q < H.size → ¬ AX q → H1[q]? = H[q]?) → va_S A0 H0 H1 locs1 → H1[q9]? = some ce → ce.vm = .none → s.vm.findClass E = some ce.cls → vx_W p l e R s m args below meth c H1 locs1 (cells + mc) (slots + ms) Q (F0 m pc ls rest) q9)
    (kk : ∀ (r : UInt32) (u : S) (t : State) (H1 : Heap) (locs1 : List Loc), t.heap = H1 → s.vm.Alike t.vm → post r u → B u t → H.size ≤ H1.size → (∀ q : Nat, q < H.size → ¬ A1 q → H1[q]? = H[q]?) → va_S A0 H0 H1 locs1 → W p l e R s m args below meth c H1 locs1 (cells + mc) (slots + ms) Q (F0 m (pc + 3) ls (.float r :: rest))) : W p l e R s m args below meth c H locs cells slots Q (F0 m pc ls st0) := by
  intro T hT X
  rcases hr T hT X with ⟨v, st₀, t, T', L, h0, X', hL, e1, e2, ⟨⟨r, u, hv, hp, hb⟩, hF⟩, st⟩ | ⟨q, st₀, t, T', L, E, ce, h0, X', hL, e1, e2, ⟨u, hp, hb, hF⟩, hce, hcv, hcl, st⟩
  · cases hv
    obtain ⟨k1, k2, k3⟩ := vx_keep h0 e1 hS hA hf hL hF
    obtain ⟨t2, a1, b1⟩ := kk r u t T'.heap (locs ++ L) e1.symm (by rw [← e2]; exact X'.warmed.alike) hp hb k1 k2 k3 T' rfl X'
    exact ⟨t2, st t2 a1, b1⟩
  · obtain ⟨k1, k2, k3⟩ := vx_keep h0 e1 hS hAX hf hL hF
    obtain ⟨t2, a1, b1⟩ := kx E ce q u t T'.heap (locs ++ L) e1.symm (by rw [← e2]; exact X'.warmed.alike) hp hb k1 k2 k3 (by rw [e1]; exact hce) hcv hcl T' rfl X'
    exact ⟨t2, st.trans a1, b1⟩
theorem vx_calld {S SX : Type} {post : UInt64 → S → Prop} {px : SX → Prop} {B : S → State → Prop} {BX : String → SX → State → Prop} {AX : Nat → Prop} (hr : vx_Run p l e R s m args below meth c H locs cells slots mc ms (F0 m pc ls st0) rest (va_Qd post B A1 a) (vx_X px BX AX) free) (hS : va_S A0 H0 H locs) (hA : ∀ q, q < H.size → A1 q → A0 q) (hf : ∀ q, free q → A0 q) (hAX : ∀ q, q < H.size → AX q → A0 q)
    (kx : ∀ (E : String) (ce : Cell) (q9 : Addr) (u : SX) (t : State) (H1 : Heap) (locs1 : List Loc), t.heap = H1 → s.vm.Alike t.vm → px u → BX E u t → H.size ≤ H1.size → (∀ q : Nat, q < H.size → ¬ AX q → H1[q]? = H[q]?) → va_S A0 H0 H1 locs1 → H1[q9]? = some ce → ce.vm = .none → s.vm.findClass E = some ce.cls → vx_W p l e R s m args below meth c H1 locs1 (cells + mc) (slots + ms) Q (F0 m pc ls rest) q9)
    (kk : ∀ (r : UInt64) (u : S) (t : State) (H1 : Heap) (locs1 : List Loc), t.heap = H1 → s.vm.Alike t.vm → post r u → B u t → H.size ≤ H1.size → (∀ q : Nat, q < H.size → ¬ A1 q → H1[q]? = H[q]?) → va_S A0 H0 H1 locs1 → W p l e R s m args below meth c H1 locs1 (cells + mc) (slots + ms) Q (F0 m (pc + 3) ls (.double r :: rest))) : W p l e R s m args below meth c H locs cells slots Q (F0 m pc ls st0) := by
  intro T hT X
  rcases hr T hT X with ⟨v, st₀, t, T', L, h0, X', hL, e1, e2, ⟨⟨r, u, hv, hp, hb⟩, hF⟩, st⟩ | ⟨q, st₀, t, T', L, E, ce, h0, X', hL, e1, e2, ⟨u, hp, hb, hF⟩, hce, hcv, hcl, st⟩
  · cases hv
    obtain ⟨k1, k2, k3⟩ := vx_keep h0 e1 hS hA hf hL hF
    obtain ⟨t2, a1, b1⟩ := kk r u t T'.heap (locs ++ L) e1.symm (by rw [← e2]; exact X'.warmed.alike) hp hb k1 k2 k3 T' rfl X'
    exact ⟨t2, st t2 a1, b1⟩
  · obtain ⟨k1, k2, k3⟩ := vx_keep h0 e1 hS hAX hf hL hF
    obtain ⟨t2, a1, b1⟩ := kx E ce q u t T'.heap (locs ++ L) e1.symm (by rw [← e2]; exact X'.warmed.alike) hp hb k1 k2 k3 (by rw [e1]; exact hce) hcv hcl T' rfl X'
    exact ⟨t2, st.trans a1, b1⟩
theorem vx_callv {S SX : Type} {post : S → Prop} {px : SX → Prop} {B : S → State → Prop} {BX : String → SX → State → Prop} {AX : Nat → Prop} (hr : vx_Run p l e R s m args below meth c H locs cells slots mc ms (F0 m pc ls st0) rest (va_Qv post B A1 a) (vx_X px BX AX) free) (hS : va_S A0 H0 H locs) (hA : ∀ q, q < H.size → A1 q → A0 q) (hf : ∀ q, free q → A0 q) (hAX : ∀ q, q < H.size → AX q → A0 q)
    (kx : ∀ (E : String) (ce : Cell) (q9 : Addr) (u : SX) (t : State) (H1 : Heap) (locs1 : List Loc), t.heap = H1 → s.vm.Alike t.vm → px u → BX E u t → H.size ≤ H1.size → (∀ q : Nat, q < H.size → ¬ AX q → H1[q]? = H[q]?) → va_S A0 H0 H1 locs1 → H1[q9]? = some ce → ce.vm = .none → s.vm.findClass E = some ce.cls → vx_W p l e R s m args below meth c H1 locs1 (cells + mc) (slots + ms) Q (F0 m pc ls rest) q9)
    (kk : ∀ (u : S) (t : State) (H1 : Heap) (locs1 : List Loc), t.heap = H1 → s.vm.Alike t.vm → post u → B u t → H.size ≤ H1.size → (∀ q : Nat, q < H.size → ¬ A1 q → H1[q]? = H[q]?) → va_S A0 H0 H1 locs1 → W p l e R s m args below meth c H1 locs1 (cells + mc) (slots + ms) Q (F0 m (pc + 3) ls (rest))) : W p l e R s m args below meth c H locs cells slots Q (F0 m pc ls st0) := by
  intro T hT X
  rcases hr T hT X with ⟨v, st₀, t, T', L, h0, X', hL, e1, e2, ⟨⟨u, hv, hp, hb⟩, hF⟩, st⟩ | ⟨q, st₀, t, T', L, E, ce, h0, X', hL, e1, e2, ⟨u, hp, hb, hF⟩, hce, hcv, hcl, st⟩
  · cases hv
    obtain ⟨k1, k2, k3⟩ := vx_keep h0 e1 hS hA hf hL hF
    obtain ⟨t2, a1, b1⟩ := kk u t T'.heap (locs ++ L) e1.symm (by rw [← e2]; exact X'.warmed.alike) hp hb k1 k2 k3 T' rfl X'
    exact ⟨t2, st t2 a1, b1⟩
  · obtain ⟨k1, k2, k3⟩ := vx_keep h0 e1 hS hAX hf hL hF
    obtain ⟨t2, a1, b1⟩ := kx E ce q u t T'.heap (locs ++ L) e1.symm (by rw [← e2]; exact X'.warmed.alike) hp hb k1 k2 k3 (by rw [e1]; exact hce) hcv hcl T' rfl X'
    exact ⟨t2, st.trans a1, b1⟩
/-- caught by the row x of this method's table; the rows ahead don't take it -/
theorem vx_catch {own name : String} {E : String} {ce : Cell} {q : Addr} (hown : s.vm.findClass own = some m.cls) (pre : List ExceptionTableEntry) (x : ExceptionTableEntry) (suf : List ExceptionTableEntry) (hsplit : c.exceptionTable.toList = pre ++ x :: suf)
    (hpass : ∀ z ∈ pre, covers z pc = false ∨ (z.catchType ≠ 0 ∧ ∃ nm : String, (Cond.classLink own z.catchType nm).before args s = true ∧ va_Nc E nm s)) (hx : covers x pc = true) (h0 : x.catchType ≠ 0)
    (hlink : (Cond.classLink own x.catchType name).before args s = true) (hcast : (Cond.castable E name).before args s = true) (hcell : H[q]? = some ce) (hv : ce.vm = .none) (hcl : s.vm.findClass E = some ce.cls)
    (kk : W p l e R s m args below meth c H locs cells slots Q (F0 m x.handlerPc ls [.ref q])) : vx_W p l e R s m args below meth c H locs cells slots Q (F0 m pc ls rest) q := by
  intro T hT X
  have hpl : e.platform.magicAccessors = ({} : Platform).magicAccessors := by rw [X.admits.platform]
  obtain ⟨c3, c4, hc3, hc4, hasg⟩ := Cond.castable_spec hcast
  cases Option.some.inj (hc3.symm.trans hcl)
  obtain ⟨c5, hc5, hcl5⟩ := Cond.classLink_spec hown hlink e.platform hpl
  cases Option.some.inj (hc4.symm.trans hc5)
  obtain ⟨vm', X', st⟩ := X.thenCaughtThrough q (g := F0 m pc ls rest) rfl (Steps.refl _) (by rw [hT]; exact hcell) (by rw [hv]; rfl) (by obtain ⟨k9, h9, -⟩ := Vm.findClass_spec hcl; exact ⟨k9, h9⟩) pre x suf hsplit
    (fun z hz => by
      rcases hpass z hz with h | ⟨hz0, nm, hl1, hn1⟩
      · exact Or.inl h
      · obtain ⟨c6, hc6, hcl6⟩ := Cond.classLink_spec hown hl1 e.platform hpl
        obtain ⟨a8, b8, h1, h2, h3⟩ := hn1
        cases Option.some.inj (h1.symm.trans hcl)
        cases Option.some.inj (h2.symm.trans hc6)
        exact Or.inr ⟨hz0, _, hcl6, h3⟩) hx (Or.inr ⟨h0, c4, hcl5, hasg⟩)
  obtain ⟨t, a1, b1⟩ := kk (T.setVm vm') hT X'
  exact ⟨t, st.trans a1, b1⟩
end Rows
section Ends
variable {p : Program} {l : Launch} {e : Env} {R : Room} {s : State} {m : MethodId} {args : Array Value} {below : List Frame} {meth : Method} {c : Code} {H : Heap} {locs : List Loc} {cells slots : Nat} {Q : State → Prop}
variable {mc ms : Nat} {free : Addr → Prop} {A0 A1 : Nat → Prop} {H0 : Heap} {a : Array Value} {ls : Array Slot} {st0 rest : List Value}
variable {Qc : Array Value → State → Outcome → State → Prop} {XC : String → State → State → Prop}
/-- what a body that may throw owes at its end -/
def vx_MQ (below : List Frame) (Qc : Array Value → State → Outcome → State → Prop) (XC : String → State → State → Prop) (a : Array Value) (s : State) (mc ms : Nat) (free : Addr → Prop) : State → Prop := fun t =>
  ∃ o, t.status = .running ∧ Ended t below o ∧ vx_Q Qc XC mc ms free a s o t
theorem vx_ret {g : JFrame} {mc ms : Nat} (k : W p l e R s m args below meth c H locs cells slots (MQ below Qc args s mc ms free) g) : W p l e R s m args below meth c H locs cells slots (vx_MQ below Qc XC args s mc ms free) g := by
  intro T hT X
  obtain ⟨t, a1, o, b1, b2, b3, b4⟩ := k T hT X
  exact ⟨t, a1, o, b1, b2, Or.inl ⟨b3, b4⟩⟩
/-- not caught here: it goes on to the caller -/
theorem vx_widen {g : JFrame} {q : Addr} {k n : Nat} (h1 : cells ≤ k) (h2 : slots ≤ n) (kk : vx_W p l e R s m args below meth c H locs k n Q g q) : vx_W p l e R s m args below meth c H locs cells slots Q g q := fun T hT X => kk T hT (stand_widen X h1 h2)
theorem vx_out {pc : Nat} {E : String} {ce : Cell} {q : Addr} {mc ms : Nat} (hout : ∀ x ∈ c.exceptionTable.toList, covers x pc = false) (hlocks : meth.locks = false) (hcell : H[q]? = some ce) (hv : ce.vm = .none) (hcl : s.vm.findClass E = some ce.cls)
    (hx : ∀ t : State, t.heap = H → s.vm.Alike t.vm → XC E s t) (hf : ∀ z ∈ locs, free z.base) (hc : cells ≤ mc) (hs : slots ≤ ms) :
    vx_W p l e R s m args below meth c H locs cells slots (vx_MQ below Qc XC args s mc ms free) (F0 m pc ls rest) q := by
  intro T hT X
  obtain ⟨st1, hrun, hend, hW, hsm⟩ := X.leaveThrown q (g := F0 m pc ls rest) rfl rfl rfl hout hlocks
  have hcell9 : (T.setFrames (.throwing q :: below)).heap[q]? = some ce := by
    show T.heap[q]? = some ce
    rw [hT]; exact hcell
  exact ⟨_, st1, .threw q, hrun, hend, Or.inr ⟨q, rfl, E, ce, locs, hx _ hT hW.alike, hcell9, hv, hcl, hW, hsm.mono hc hs, hf⟩⟩
theorem vx_frame {U : State} {k n : Nat} (h : s.sameButNew ({ U with vm := s.vm } : State) locs k n) : s.heap.size ≤ U.heap.size ∧ ∀ q : Nat, q < s.heap.size → (∀ z ∈ locs, z.base ≠ q) → U.heap[q]? = s.heap[q]? := by
  obtain ⟨-, h2, -, -, -, h6⟩ := h
  refine ⟨h2, fun q hq hz => ?_⟩
  obtain ⟨c9, e1, e2, e3, e4⟩ := h6 q _ (Array.getElem?_eq_getElem hq)
  have hs : c9.slots = (s.heap[q]).slots := Array.ext_getElem? fun i => e4 i fun hm => hz _ hm rfl
  have h9 : c9 = s.heap[q] := by
    rw [hs] at e2
    exact e2
  have e5 : U.heap[q]? = some c9 := e1
  rw [e5, h9, Array.getElem?_eq_getElem hq]
/-- the words of a throw but the four that speak of the heap -/
def vx_no (w : Cond) : Bool := decide (w ≠ .isRef (.static Bundle.tN "UNASSIGNED_STACK" Bundle.steD)) && decide (w ≠ .isRef (.static Bundle.tN "SUPPRESSED_SENTINEL" Bundle.listD)) && decide (w ≠ .laysStatic Bundle.tN "UNASSIGNED_STACK" Bundle.steD) && decide (w ≠ .laysStatic Bundle.tN "SUPPRESSED_SENTINEL" Bundle.listD)
def vx_at0 (own : String) (ic : Nat) (X : String) (names : List String) : List Cond := (Bundle.ownAtoms0 own ic X names).filter vx_no
def vx_atS (own : String) (ic : Nat) (X : String) (names : List String) : List Cond := (Bundle.ownAtoms own ic X names).filter vx_no
/-- a word that the tables alone decide, or a good one -/
def vx_ot (w : Cond) : Bool := w.onTables || goodWord w
theorem vx_ot_at {args a' : Array Value} {s U : State} {w : Cond} (hW : s.WarmedH U.vm) (hvm : s.vm = U.vm) (hg : vx_ot w = true) (h : w.before args s = true) : w.before a' U = true := by
  simp only [vx_ot, Bool.or_eq_true] at hg
  rcases hg with hg | hg
  · exact va_tabs hg hvm h
  · exact word_at hW (good_of_word hg) h
/-- a list's words: the good ones out of the method's own list, the others by premises of their own -/
theorem vx_hat {args : Array Value} {s : State} {L B : List Cond} (h1 : ∀ w ∈ L.filter goodWord, w.before args s = true) (h2 : ∀ w ∈ L.filter (fun w => !goodWord w), w ∈ B) (h3 : ∀ w ∈ B, w.before args s = true) : ∀ w ∈ L, w.before args s = true := by
  intro w hw
  by_cases g : goodWord w = true
  · exact h1 w (List.mem_filter.mpr ⟨hw, g⟩)
  · refine h3 w (h2 w (List.mem_filter.mpr ⟨hw, ?_⟩))
    show (!goodWord w) = true
    cases hgw : goodWord w
    · rfl
    · exact absurd hgw g
theorem vx_c {args : Array Value} {s : State} {w : Cond} {B : List Cond} (h : w.before args s = true) (t : ∀ w ∈ B, w.before args s = true) : ∀ w' ∈ w :: B, w'.before args s = true := fun w' h' => (List.mem_cons.mp h').elim (fun e => by rw [e]; exact h) (t w')
theorem vx_n {args : Array Value} {s : State} : ∀ w ∈ ([] : List Cond), w.before args s = true := fun _ h => nomatch h
theorem vx_own {args : Array Value} {s : State} {L : List Cond} (h1 : ∀ w ∈ L.filter vx_no, w.before args s = true)
    (hU : (Cond.isRef (.static Bundle.tN "UNASSIGNED_STACK" Bundle.steD)).before args s = true) (hN : (Cond.isRef (.static Bundle.tN "SUPPRESSED_SENTINEL" Bundle.listD)).before args s = true)
    (lU : (Cond.laysStatic Bundle.tN "UNASSIGNED_STACK" Bundle.steD).before args s = true) (lN : (Cond.laysStatic Bundle.tN "SUPPRESSED_SENTINEL" Bundle.listD).before args s = true) : ∀ w ∈ L, w.before args s = true := by
  intro w hw
  by_cases e1 : w = .isRef (.static Bundle.tN "UNASSIGNED_STACK" Bundle.steD)
  · rw [e1]; exact hU
  · by_cases e2 : w = .isRef (.static Bundle.tN "SUPPRESSED_SENTINEL" Bundle.listD)
    · rw [e2]; exact hN
    · by_cases e3 : w = .laysStatic Bundle.tN "UNASSIGNED_STACK" Bundle.steD
      · rw [e3]; exact lU
      · by_cases e4 : w = .laysStatic Bundle.tN "SUPPRESSED_SENTINEL" Bundle.listD
        · rw [e4]; exact lN
        · exact h1 w (List.mem_filter.mpr ⟨hw, by unfold vx_no; rw [decide_eq_true e1, decide_eq_true e2, decide_eq_true e3, decide_eq_true e4]; rfl⟩)
/-- where a static field lies, its class's statics cell in H -/
def vx_L (C n d : String) (A : Nat → Prop) (U : State) (H : Heap) : Prop := ∃ (c : ClassId) (k : Class) (i : Nat) (f : Field) (a : Nat) (cell : Cell), U.vm.findClass C = some c ∧ U.fieldFound? C n d = some (c, k, i, f) ∧ f.isStatic = true ∧ k.statics = some a ∧ H[a]? = some cell ∧ cell.vm.isStatics = true ∧ cell.cls = c ∧ f.slot < cell.slots.size ∧ k.staticTypes[f.slot]? = some f.type ∧ ¬ A a
theorem vx_L.moved {C n d : String} {A : Nat → Prop} {u U : State} {H : Heap} (hvm : u.vm.Alike U.vm) (h : vx_L C n d A u H) : vx_L C n d A U H := by
  obtain ⟨c, k, i, f, a, cell, h1, h2, h3, h4, h5, h6, h7, h8, h9, h10⟩ := h
  obtain ⟨k', hi', he⟩ := State.fieldFound?_setVm hvm h2
  exact ⟨c, k', i, f, a, cell, by rw [hvm.findClass]; exact h1, hi', h3, by rw [he]; exact h4, h5, h6, h7, h8, by rw [he]; exact h9, h10⟩
theorem vx_L.kept {C n d : String} {A : Nat → Prop} {U : State} {H H1 : Heap} (h : vx_L C n d A U H) (hq : ∀ a : Nat, a < H.size → ¬ A a → H1[a]? = H[a]?) : vx_L C n d A U H1 := by
  obtain ⟨c, k, i, f, a, cell, h1, h2, h3, h4, h5, h6, h7, h8, h9, h10⟩ := h
  exact ⟨c, k, i, f, a, cell, h1, h2, h3, h4, by rw [hq a (Array.getElem?_eq_some_iff.mp h5).1 h10]; exact h5, h6, h7, h8, h9, h10⟩
theorem vx_L.narrow {C n d : String} {A B : Nat → Prop} {U : State} {H : Heap} (h : vx_L C n d A U H) (hAB : ∀ q, B q → A q) : vx_L C n d B U H := by
  obtain ⟨c, k, i, f, a, cell, h1, h2, h3, h4, h5, h6, h7, h8, h9, h10⟩ := h
  exact ⟨c, k, i, f, a, cell, h1, h2, h3, h4, h5, h6, h7, h8, h9, fun z => h10 (hAB _ z)⟩
theorem vx_L.word {C n d : String} {A : Nat → Prop} {s : State} {args : Array Value} (h : vx_L C n d A s s.heap) : (Cond.laysStatic C n d).before args s = true := by
  obtain ⟨c, k, i, f, a, cell, h1, h2, h3, h4, h5, h6, h7, h8, h9, -⟩ := h
  show (Cond.laysStatic C n d).holds args s none s [] = true
  exact Cond.laysStatic_of h1 h2 h3 h4 h5 h6 h7 h8 h9
/-- .. and what it holds: null or some reference -/
def vx_Zq (C n d : String) (A : Nat → Prop) (U : State) (H : Heap) : Prop := va_Zq C n d A U H ∧ vx_L C n d A U H
theorem vx_Zq.moved {C n d : String} {A : Nat → Prop} {u U : State} {H : Heap} (hvm : u.vm.Alike U.vm) (h : vx_Zq C n d A u H) : vx_Zq C n d A U H := ⟨va_Zq.moved hvm h.1, vx_L.moved hvm h.2⟩
theorem vx_Zq.kept {C n d : String} {A : Nat → Prop} {U : State} {H H1 : Heap} (h : vx_Zq C n d A U H) (hq : ∀ a : Nat, a < H.size → ¬ A a → H1[a]? = H[a]?) : vx_Zq C n d A U H1 := ⟨va_Zq.kept h.1 hq, vx_L.kept h.2 hq⟩
theorem vx_Zq.narrow {C n d : String} {A B : Nat → Prop} {U : State} {H : Heap} (h : vx_Zq C n d A U H) (hAB : ∀ q, B q → A q) : vx_Zq C n d B U H := ⟨va_Zq.narrow h.1 hAB, vx_L.narrow h.2 hAB⟩
theorem vx_Zqof {args : Array Value} {s : State} {C n d : String} {A : Nat → Prop} (hl : (Cond.laysStatic C n d).before args s = true) (hini : (Cond.initialized C).before args s = true) (h : (Cond.isRef (.static C n d)).before args s = true) (hA : ∀ a : Nat, a < s.heap.size → ¬ A a) : vx_Zq C n d A s s.heap := by
  refine ⟨va_Zqof hl hini h hA, ?_⟩
  obtain ⟨c, k, i, f, a, cell, h1, h2, h3, h4, h5, h6, h7, h8, h9⟩ := Cond.laysStatic_spec hl
  exact ⟨c, k, i, f, a, cell, h1, h2, h3, h4, h5, h6, h7, h8, h9, hA a (Array.getElem?_eq_some_iff.mp h5).1⟩
theorem vx_isRef {C n d : String} {v : Value} {A : Nat → Prop} {s : State} {args : Array Value} (h : va_Z C n d v A s s.heap) (hv : v.isRef = true) : (Cond.isRef (.static C n d)).before args s = true := by
  obtain ⟨cf, kf, fi, f, a, cell, h1, h2, h3, h4, h5, h6, h7, -⟩ := h
  have he : (Term.static C n d).eval args s none [] s = some v := by
    simp [Term.eval, State.fieldNamed?, h1, h2, h4, h5, h6, h7]
  simp only [Cond.before, Cond.holds, Cond.value, he]
  cases v <;> simp_all [Value.isRef]
theorem vx_isRefq {C n d : String} {A : Nat → Prop} {s : State} {args : Array Value} (h : va_Zq C n d A s s.heap) : (Cond.isRef (.static C n d)).before args s = true := by
  rcases h with h | ⟨t, h⟩
  · exact vx_isRef h rfl
  · exact vx_isRef h rfl
/-- the same frame, seen from here: as if the method were called anew in this heap -/
theorem vx_rebase {T : State} (X : Stand p l e R s m args below meth c T locs cells slots) {R' : Room} (hf : R'.frames ≤ R.frames) (hl : R'.locals ≤ R.locals) (hc : cells + R'.cells ≤ R.cells) (hs : slots + R'.slots ≤ R.slots) :
    Stand p l e R' ((T.setVm s.vm).setFrames (.invoking m args :: below)) m args below meth c T [] 0 0 := by
  have htop : (T.setVm s.vm).topJava?.isSome := X.here.top
  have hF : ((T.setVm s.vm).setFrames (.invoking m args :: below)).frames = .invoking m args :: below := State.frames_setFrames _ (State.cur_lt_of_top htop)
  obtain ⟨g₀, hg0⟩ := Option.isSome_iff_exists.mp htop
  obtain ⟨r, hr⟩ := State.topJava?_eq_some.mp hg0
  have hl9 : e.platform.stackLimits (T.setVm s.vm).me = e.platform.stackLimits s.me := X.limits
  have hb9 : (T.setVm s.vm).me.stackBytes = s.me.stackBytes := X.bytes
  refine ⟨X.admits, X.cas, X.clock, hF, ?_, X.hears, X.method, X.code, X.here, X.tail, X.warmed, ?_, ?_, ?_⟩
  · have h := X.room
    have hU : ((T.setVm s.vm).setFrames (.invoking m args :: below)).localsInUse = s.localsInUse := by
      rw [State.localsInUse_invoking hF (meth := meth) (c := c) X.method X.code, State.localsInUse_invoking X.frames X.method X.code]
    simp only [State.hasRoom, Bool.and_eq_true, decide_eq_true_eq] at h ⊢
    obtain ⟨⟨⟨⟨h1, h2, h3, h4, h5, h6⟩, h7⟩, h8⟩, h9⟩ := h
    rw [X.frames, List.length_cons] at h2 h3
    have q1 := X.heapSize
    have q2 := X.used
    simp only [hF, hU, List.length_cons, State.stackLimits_setFrames, State.stackBytes_setFrames, hl9, hb9]
    refine ⟨⟨⟨⟨by omega, by omega, by omega, by omega, by omega, h6⟩, ?_⟩, ?_⟩, X.book⟩
    · show T.heap.size + R'.cells ≤ e.platform.maxCells
      omega
    · show T.slotsUsed + R'.slots ≤ e.platform.maxSlots
      omega
  · rw [State.stackLimits_setFrames]; rfl
  · rw [State.stackBytes_setFrames]; rfl
  · refine ⟨?_, Nat.le_refl _, Nat.le_refl _, ?_, ?_, fun a c9 h9 => ⟨c9, h9, rfl, rfl, fun _ _ => rfl⟩⟩
    · obtain ⟨t, ht, -⟩ := State.frames_cons hr
      show T.setVm s.vm = { ((T.setVm s.vm).setFrames (.invoking m args :: below)).setFrames (T.setVm s.vm).frames with heap := T.heap, slotsUsed := T.slotsUsed }
      rw [State.setFrames_setFrames, State.setFrames_self ht]
      rfl
    · show T.slotsUsed = T.slotsUsed + ((T.heap.toList.drop T.heap.size).map (·.slots.size)).sum
      rw [List.drop_eq_nil_of_le (Nat.le_of_eq Array.length_toList)]
      rfl
    · show ((T.heap.toList.drop T.heap.size).map (·.slots.size)).sum ≤ 0
      rw [List.drop_eq_nil_of_le (Nat.le_of_eq Array.length_toList)]
      exact Nat.le_refl _
/-- 'throw new E()': new; dup; invokespecial; athrow -/
theorem vx_throw0 {cc : ByteArray} {pc : Nat} (hexec : p.tables.exec = Jvm.exec) (hb : c.code = cc) (hl : l.stackTraces = false) {own cls : String} {names : List String} {ik ic mc ms : Nat} {A : Nat → Prop}
    (hown : s.vm.findClass own = some m.cls) (hcls : Bundle.fit cls = true) (hnames : ∀ n ∈ names, Bundle.fit n = true)
    (hk : (Cond.classLink own ik cls).before args s = true) (hini : (Cond.initialized cls).before args s = true) (hat : ∀ w ∈ vx_at0 own ic cls names, w.before args s = true)
    (hgood : ∀ w ∈ Cond.classLink own ik cls :: Cond.initialized cls :: vx_at0 own ic cls names, vx_ot w = true)
    (hU : vx_Zq Bundle.tN "UNASSIGNED_STACK" Bundle.steD A s s.heap) (hN : vx_Zq Bundle.tN "SUPPRESSED_SENTINEL" Bundle.listD A s s.heap) (hS : va_S A s.heap H locs) (hsize : ls.size = c.maxLocals)
    (d0 : decode cc pc = .ok (.new ik, 3)) (d3 : decode cc (pc + 3) = .ok (.dup, 1)) (d4 : decode cc (pc + 4) = .ok (.invokespecial ic, 3)) (d7 : decode cc (pc + 7) = .ok (.athrow, 1))
    (hout : ∀ x ∈ c.exceptionTable.toList, covers x (pc + 7) = false)
    (hRframes : names.length + 3 < R.frames) (hRlocals : (rest.map fun v => v.category).sum + (13 * (names.length + 1) + 42) ≤ R.locals) (hRcells : cells + 1 ≤ R.cells) (hRslots : slots + 6 ≤ R.slots) (hlocks : meth.locks = false)
    (hx : ∀ t : State, s.vm.Alike t.vm → H.size ≤ t.heap.size → (∀ q : Nat, q < H.size → t.heap[q]? = H[q]?) → XC cls s t)
    (hf : ∀ z ∈ locs, free z.base) (hc : cells + 1 ≤ mc) (hs : slots + 6 ≤ ms) :
    W p l e R s m args below meth c H locs cells slots (vx_MQ below Qc XC args s mc ms free) (F0 m pc ls rest) := by
  intro T hT X
  have htr : e.platform.stackTraces = false := (show e.platform.stackTraces = l.stackTraces by rw [X.admits.platform]).trans hl
  have Y := vx_rebase X (R' := { frames := R.frames, locals := R.locals, cells := 1, slots := 6 }) (Nat.le_refl _) (Nat.le_refl _) hRcells hRslots
  obtain ⟨s', hA⟩ : ∃ z, z = (T.setVm s.vm).setFrames (.invoking m args :: below) := ⟨_, rfl⟩
  rw [← hA] at Y
  have hvm : s'.vm = s.vm := by rw [hA]; rfl
  have hhp : s'.heap = H := by rw [hA]; exact hT
  have hW0 : s.WarmedH s'.vm := by rw [hvm]; exact State.WarmedH.refl s
  have hat' : ∀ w ∈ vx_at0 own ic cls names, w.before args s' = true := fun w hw => vx_ot_at hW0 hvm.symm (hgood w (List.mem_cons_of_mem _ (List.mem_cons_of_mem _ hw))) (hat w hw)
  have hk' : (Cond.classLink own ik cls).before args s' = true := vx_ot_at hW0 hvm.symm (hgood _ List.mem_cons_self) hk
  have hini' : (Cond.initialized cls).before args s' = true := vx_ot_at hW0 hvm.symm (hgood _ (List.mem_cons_of_mem _ List.mem_cons_self)) hini
  have hU' : vx_Zq Bundle.tN "UNASSIGNED_STACK" Bundle.steD A s' s'.heap := by rw [hhp]; exact vx_Zq.moved hW0.alike (hU.kept hS.2.1)
  have hN' : vx_Zq Bundle.tN "SUPPRESSED_SENTINEL" Bundle.listD A s' s'.heap := by rw [hhp]; exact vx_Zq.moved hW0.alike (hN.kept hS.2.1)
  have h : ∀ w ∈ Bundle.ownAtoms0 own ic cls names, w.before args s' = true := vx_own hat' (vx_isRefq hU'.1) (vx_isRefq hN'.1) hU'.2.word hN'.2.word
  have hown' : s'.vm.findClass own = some m.cls := by rw [hvm]; exact hown
  have hins : (Cond.instantiable cls 6).before args s' = true := h _ (by simp [Bundle.ownAtoms0])
  obtain ⟨vm₁, cX, kX, hfX, hkX, -, -, X₁, st1⟩ := Y.newCold hexec (own := own) (C := cls) (index := ik) (n := 6) hown' hk' hins hini'
    (g := F0 m pc ls rest) rfl (by rw [hb]; exact d0) (Nat.le_refl _) (Nat.le_refl _)
  generalize hT1 : (T.setVm vm₁).pushCell { cls := cX, slots := kX.instanceTypes.map defaultValue, vm := .none } = T1 at X₁ st1
  have hcat : (Value.ref T.heap.size).category = 1 := rfl
  have hcellA : T1.heap[T.heap.size]? = some (freshCell cX kX) := by rw [← hT1]; exact State.heap_pushCell_size _ _
  have d3' : decode c.code (pc + 3) = .ok (.dup, 1) := by rw [hb]; exact d3
  obtain ⟨U, hsteps, hrun, hend, hW, hsame, ce, hce, hO⟩ := X₁.ctorThrow0 hexec htr (own := own) (cls := cls) (names := names) (ic := ic) hown' hcls hnames h (fun x hx => nomatch hx) hfX hkX hcellA (by rw [hhp, hT]; exact Nat.le_refl _)
    (g := { method := m, pc := pc + 4, locals := ls, stack := .ref T.heap.size :: .ref T.heap.size :: rest, locked := none }) rfl hsize rfl rfl (rest := rest) rfl
    (by rw [hb]; exact d4) (by rw [hb]; exact d7) hout hRframes (by simp only [List.map_cons, List.sum_cons, hcat]; omega) hlocks
  obtain ⟨f1, f2⟩ := vx_frame hsame
  rw [hhp] at f1 f2
  have hWs : s.WarmedH U.vm := State.WarmedH.trans hW0 hW
  have hcl : s.vm.findClass cls = some ce.cls := by
    have h9 := hO.cls
    rw [hvm] at h9
    exact h9
  have hall : s.sameButNew ({ U with vm := s.vm } : State) locs mc ms := by
    subst hA
    obtain ⟨e1, e2⟩ := hsame
    rw [State.setFrames_setFrames] at e1
    have h2 : (T.setVm s.vm).sameButNew ({ U with vm := s.vm } : State) [] (0 + 1) (0 + 6) := ⟨e1, e2⟩
    have h3 := X.same.trans h2
    rw [List.append_nil] at h3
    exact h3.mono hc hs
  refine ⟨U, ?_, .threw T.heap.size, hrun, hend, Or.inr ⟨T.heap.size, rfl, cls, ce, locs, hx U hWs.alike f1 (fun q hq => f2 q hq (fun z hz => nomatch hz)), hce, hO.vm, hcl, hWs, hall, hf⟩⟩
  refine st1 _ ?_
  show Steps p.tables e below (T1.setTop { method := m, pc := pc + 3, locals := ls, stack := .ref T.heap.size :: rest, locked := none }) _
  jvm_step X₁.here [X₁.here.top, hexec, d3', Value.category]
  exact hsteps
/-- 'throw new E("text")': new; dup; ldc; invokespecial; athrow -/
theorem vx_throwS {cc : ByteArray} {pc : Nat} (hexec : p.tables.exec = Jvm.exec) (hb : c.code = cc) (hl : l.stackTraces = false) {own cls text : String} {names : List String} {ik is ic mc ms sa : Nat} {A : Nat → Prop}
    (hown : s.vm.findClass own = some m.cls) (hcls : Bundle.fit cls = true) (hnames : ∀ n ∈ names, Bundle.fit n = true)
    (hk : (Cond.classLink own ik cls).before args s = true) (hini : (Cond.initialized cls).before args s = true) (hstr : vk_R own is text sa s) (hat : ∀ w ∈ vx_atS own ic cls names, w.before args s = true)
    (hgood : ∀ w ∈ Cond.classLink own ik cls :: Cond.initialized cls :: vx_atS own ic cls names, vx_ot w = true)
    (hU : vx_Zq Bundle.tN "UNASSIGNED_STACK" Bundle.steD A s s.heap) (hN : vx_Zq Bundle.tN "SUPPRESSED_SENTINEL" Bundle.listD A s s.heap) (hS : va_S A s.heap H locs) (hsize : ls.size = c.maxLocals)
    (d0 : decode cc pc = .ok (.new ik, 3)) (d3 : decode cc (pc + 3) = .ok (.dup, 1)) (d4 : decode cc (pc + 4) = .ok (.ldc is, 2)) (d6 : decode cc (pc + 6) = .ok (.invokespecial ic, 3)) (d9 : decode cc (pc + 9) = .ok (.athrow, 1))
    (hout : ∀ x ∈ c.exceptionTable.toList, covers x (pc + 9) = false)
    (hRframes : names.length + 3 < R.frames) (hRlocals : (rest.map fun v => v.category).sum + (13 * (names.length + 1) + 43) ≤ R.locals) (hRcells : cells + 1 ≤ R.cells) (hRslots : slots + 6 ≤ R.slots) (hlocks : meth.locks = false)
    (hx : ∀ t : State, s.vm.Alike t.vm → H.size ≤ t.heap.size → (∀ q : Nat, q < H.size → t.heap[q]? = H[q]?) → XC cls s t)
    (hf : ∀ z ∈ locs, free z.base) (hc : cells + 1 ≤ mc) (hs : slots + 6 ≤ ms) :
    W p l e R s m args below meth c H locs cells slots (vx_MQ below Qc XC args s mc ms free) (F0 m pc ls rest) := by
  intro T hT X
  have htr : e.platform.stackTraces = false := (show e.platform.stackTraces = l.stackTraces by rw [X.admits.platform]).trans hl
  have Y := vx_rebase X (R' := { frames := R.frames, locals := R.locals, cells := 1, slots := 6 }) (Nat.le_refl _) (Nat.le_refl _) hRcells hRslots
  obtain ⟨s', hA⟩ : ∃ z, z = (T.setVm s.vm).setFrames (.invoking m args :: below) := ⟨_, rfl⟩
  rw [← hA] at Y
  have hvm : s'.vm = s.vm := by rw [hA]; rfl
  have hhp : s'.heap = H := by rw [hA]; exact hT
  have hW0 : s.WarmedH s'.vm := by rw [hvm]; exact State.WarmedH.refl s
  have hat' : ∀ w ∈ vx_atS own ic cls names, w.before args s' = true := fun w hw => vx_ot_at hW0 hvm.symm (hgood w (List.mem_cons_of_mem _ (List.mem_cons_of_mem _ hw))) (hat w hw)
  have hk' : (Cond.classLink own ik cls).before args s' = true := vx_ot_at hW0 hvm.symm (hgood _ List.mem_cons_self) hk
  have hini' : (Cond.initialized cls).before args s' = true := vx_ot_at hW0 hvm.symm (hgood _ (List.mem_cons_of_mem _ List.mem_cons_self)) hini
  have hU' : vx_Zq Bundle.tN "UNASSIGNED_STACK" Bundle.steD A s' s'.heap := by rw [hhp]; exact vx_Zq.moved hW0.alike (hU.kept hS.2.1)
  have hN' : vx_Zq Bundle.tN "SUPPRESSED_SENTINEL" Bundle.listD A s' s'.heap := by rw [hhp]; exact vx_Zq.moved hW0.alike (hN.kept hS.2.1)
  have h : ∀ w ∈ Bundle.ownAtoms own ic cls names, w.before args s' = true := vx_own hat' (vx_isRefq hU'.1) (vx_isRefq hN'.1) hU'.2.word hN'.2.word
  have hown' : s'.vm.findClass own = some m.cls := by rw [hvm]; exact hown
  have hins : (Cond.instantiable cls 6).before args s' = true := h _ (by simp [Bundle.ownAtoms])
  obtain ⟨vm₁, cX, kX, hfX, hkX, -, -, X₁, st1⟩ := Y.newCold hexec (own := own) (C := cls) (index := ik) (n := 6) hown' hk' hins hini'
    (g := F0 m pc ls rest) rfl (by rw [hb]; exact d0) (Nat.le_refl _) (Nat.le_refl _)
  generalize hT1 : (T.setVm vm₁).pushCell { cls := cX, slots := kX.instanceTypes.map defaultValue, vm := .none } = T1 at X₁ st1
  have hcat : (Value.ref T.heap.size).category = 1 := rfl
  have hcellA : T1.heap[T.heap.size]? = some (freshCell cX kX) := by rw [← hT1]; exact State.heap_pushCell_size _ _
  have d3' : decode c.code (pc + 3) = .ok (.dup, 1) := by rw [hb]; exact d3
  have d4' : decode c.code (pc + 4) = .ok (.ldc is, 2) := by rw [hb]; exact d4
  have hstr' : vk_R own is text sa s' := vk_R.warm hW0 hstr
  obtain ⟨U, hsteps, hrun, hend, hW, hsame, ce, hce, hO⟩ := X₁.ctorThrowS hexec htr (own := own) (cls := cls) (names := names) (ic := ic) hown' hcls hnames h (fun x hx => nomatch hx) hfX hkX hcellA (by rw [hhp, hT]; exact Nat.le_refl _) (msg := .ref sa) rfl
    (g := { method := m, pc := pc + 6, locals := ls, stack := .ref sa :: .ref T.heap.size :: .ref T.heap.size :: rest, locked := none }) rfl hsize rfl rfl (rest := rest) rfl
    (by rw [hb]; exact d6) (by rw [hb]; exact d9) hout hRframes (by simp only [List.map_cons, List.sum_cons, hcat]; omega) hlocks
  obtain ⟨f1, f2⟩ := vx_frame hsame
  rw [hhp] at f1 f2
  have hWs : s.WarmedH U.vm := State.WarmedH.trans hW0 hW
  have hcl : s.vm.findClass cls = some ce.cls := by
    have h9 := hO.cls
    rw [hvm] at h9
    exact h9
  have hall : s.sameButNew ({ U with vm := s.vm } : State) locs mc ms := by
    subst hA
    obtain ⟨e1, e2⟩ := hsame
    rw [State.setFrames_setFrames] at e1
    have h2 : (T.setVm s.vm).sameButNew ({ U with vm := s.vm } : State) [] (0 + 1) (0 + 6) := ⟨e1, e2⟩
    have h3 := X.same.trans h2
    rw [List.append_nil] at h3
    exact h3.mono hc hs
  refine ⟨U, ?_, .threw T.heap.size, hrun, hend, Or.inr ⟨T.heap.size, rfl, cls, ce, locs, hx U hWs.alike f1 (fun q hq => f2 q hq (fun z hz => nomatch hz)), hce, hO.vm, hcl, hWs, hall, hf⟩⟩
  refine st1 _ ?_
  show Steps p.tables e below (T1.setTop { method := m, pc := pc + 3, locals := ls, stack := .ref T.heap.size :: rest, locked := none }) _
  jvm_step X₁.here [X₁.here.top, hexec, d3', Value.category]
  exact X₁.ldcString hexec (own := own) (text := text) (index := is) (a := sa) hown' hstr'.1 hstr'.2
    (g := { method := m, pc := pc + 4, locals := ls, stack := .ref T.heap.size :: .ref T.heap.size :: rest, locked := none }) rfl d4' _ hsteps
/-- 'throw new E("text")', the text by a wide index -/
theorem vx_throwSW {cc : ByteArray} {pc : Nat} (hexec : p.tables.exec = Jvm.exec) (hb : c.code = cc) (hl : l.stackTraces = false) {own cls text : String} {names : List String} {ik is ic mc ms sa : Nat} {A : Nat → Prop}
    (hown : s.vm.findClass own = some m.cls) (hcls : Bundle.fit cls = true) (hnames : ∀ n ∈ names, Bundle.fit n = true)
    (hk : (Cond.classLink own ik cls).before args s = true) (hini : (Cond.initialized cls).before args s = true) (hstr : vk_R own is text sa s) (hat : ∀ w ∈ vx_atS own ic cls names, w.before args s = true)
    (hgood : ∀ w ∈ Cond.classLink own ik cls :: Cond.initialized cls :: vx_atS own ic cls names, vx_ot w = true)
    (hU : vx_Zq Bundle.tN "UNASSIGNED_STACK" Bundle.steD A s s.heap) (hN : vx_Zq Bundle.tN "SUPPRESSED_SENTINEL" Bundle.listD A s s.heap) (hS : va_S A s.heap H locs) (hsize : ls.size = c.maxLocals)
    (d0 : decode cc pc = .ok (.new ik, 3)) (d3 : decode cc (pc + 3) = .ok (.dup, 1)) (d4 : decode cc (pc + 4) = .ok (.ldc_w is, 3)) (d7 : decode cc (pc + 7) = .ok (.invokespecial ic, 3)) (d10 : decode cc (pc + 10) = .ok (.athrow, 1))
    (hout : ∀ x ∈ c.exceptionTable.toList, covers x (pc + 10) = false)
    (hRframes : names.length + 3 < R.frames) (hRlocals : (rest.map fun v => v.category).sum + (13 * (names.length + 1) + 43) ≤ R.locals) (hRcells : cells + 1 ≤ R.cells) (hRslots : slots + 6 ≤ R.slots) (hlocks : meth.locks = false)
    (hx : ∀ t : State, s.vm.Alike t.vm → H.size ≤ t.heap.size → (∀ q : Nat, q < H.size → t.heap[q]? = H[q]?) → XC cls s t)
    (hf : ∀ z ∈ locs, free z.base) (hc : cells + 1 ≤ mc) (hs : slots + 6 ≤ ms) :
    W p l e R s m args below meth c H locs cells slots (vx_MQ below Qc XC args s mc ms free) (F0 m pc ls rest) := by
  intro T hT X
  have htr : e.platform.stackTraces = false := (show e.platform.stackTraces = l.stackTraces by rw [X.admits.platform]).trans hl
  have Y := vx_rebase X (R' := { frames := R.frames, locals := R.locals, cells := 1, slots := 6 }) (Nat.le_refl _) (Nat.le_refl _) hRcells hRslots
  obtain ⟨s', hA⟩ : ∃ z, z = (T.setVm s.vm).setFrames (.invoking m args :: below) := ⟨_, rfl⟩
  rw [← hA] at Y
  have hvm : s'.vm = s.vm := by rw [hA]; rfl
  have hhp : s'.heap = H := by rw [hA]; exact hT
  have hW0 : s.WarmedH s'.vm := by rw [hvm]; exact State.WarmedH.refl s
  have hat' : ∀ w ∈ vx_atS own ic cls names, w.before args s' = true := fun w hw => vx_ot_at hW0 hvm.symm (hgood w (List.mem_cons_of_mem _ (List.mem_cons_of_mem _ hw))) (hat w hw)
  have hk' : (Cond.classLink own ik cls).before args s' = true := vx_ot_at hW0 hvm.symm (hgood _ List.mem_cons_self) hk
  have hini' : (Cond.initialized cls).before args s' = true := vx_ot_at hW0 hvm.symm (hgood _ (List.mem_cons_of_mem _ List.mem_cons_self)) hini
  have hU' : vx_Zq Bundle.tN "UNASSIGNED_STACK" Bundle.steD A s' s'.heap := by rw [hhp]; exact vx_Zq.moved hW0.alike (hU.kept hS.2.1)
  have hN' : vx_Zq Bundle.tN "SUPPRESSED_SENTINEL" Bundle.listD A s' s'.heap := by rw [hhp]; exact vx_Zq.moved hW0.alike (hN.kept hS.2.1)
  have h : ∀ w ∈ Bundle.ownAtoms own ic cls names, w.before args s' = true := vx_own hat' (vx_isRefq hU'.1) (vx_isRefq hN'.1) hU'.2.word hN'.2.word
  have hown' : s'.vm.findClass own = some m.cls := by rw [hvm]; exact hown
  have hins : (Cond.instantiable cls 6).before args s' = true := h _ (by simp [Bundle.ownAtoms])
  obtain ⟨vm₁, cX, kX, hfX, hkX, -, -, X₁, st1⟩ := Y.newCold hexec (own := own) (C := cls) (index := ik) (n := 6) hown' hk' hins hini'
    (g := F0 m pc ls rest) rfl (by rw [hb]; exact d0) (Nat.le_refl _) (Nat.le_refl _)
  generalize hT1 : (T.setVm vm₁).pushCell { cls := cX, slots := kX.instanceTypes.map defaultValue, vm := .none } = T1 at X₁ st1
  have hcat : (Value.ref T.heap.size).category = 1 := rfl
  have hcellA : T1.heap[T.heap.size]? = some (freshCell cX kX) := by rw [← hT1]; exact State.heap_pushCell_size _ _
  have d3' : decode c.code (pc + 3) = .ok (.dup, 1) := by rw [hb]; exact d3
  have d4' : decode c.code (pc + 4) = .ok (.ldc_w is, 3) := by rw [hb]; exact d4
  have hstr' : vk_R own is text sa s' := vk_R.warm hW0 hstr
  obtain ⟨U, hsteps, hrun, hend, hW, hsame, ce, hce, hO⟩ := X₁.ctorThrowS hexec htr (own := own) (cls := cls) (names := names) (ic := ic) hown' hcls hnames h (fun x hx => nomatch hx) hfX hkX hcellA (by rw [hhp, hT]; exact Nat.le_refl _) (msg := .ref sa) rfl
    (g := { method := m, pc := pc + 7, locals := ls, stack := .ref sa :: .ref T.heap.size :: .ref T.heap.size :: rest, locked := none }) rfl hsize rfl rfl (rest := rest) rfl
    (by rw [hb]; exact d7) (by rw [hb]; exact d10) hout hRframes (by simp only [List.map_cons, List.sum_cons, hcat]; omega) hlocks
  obtain ⟨f1, f2⟩ := vx_frame hsame
  rw [hhp] at f1 f2
  have hWs : s.WarmedH U.vm := State.WarmedH.trans hW0 hW
  have hcl : s.vm.findClass cls = some ce.cls := by
    have h9 := hO.cls
    rw [hvm] at h9
    exact h9
  have hall : s.sameButNew ({ U with vm := s.vm } : State) locs mc ms := by
    subst hA
    obtain ⟨e1, e2⟩ := hsame
    rw [State.setFrames_setFrames] at e1
    have h2 : (T.setVm s.vm).sameButNew ({ U with vm := s.vm } : State) [] (0 + 1) (0 + 6) := ⟨e1, e2⟩
    have h3 := X.same.trans h2
    rw [List.append_nil] at h3
    exact h3.mono hc hs
  refine ⟨U, ?_, .threw T.heap.size, hrun, hend, Or.inr ⟨T.heap.size, rfl, cls, ce, locs, hx U hWs.alike f1 (fun q hq => f2 q hq (fun z hz => nomatch hz)), hce, hO.vm, hcl, hWs, hall, hf⟩⟩
  refine st1 _ ?_
  show Steps p.tables e below (T1.setTop { method := m, pc := pc + 3, locals := ls, stack := .ref T.heap.size :: rest, locked := none }) _
  jvm_step X₁.here [X₁.here.top, hexec, d3', Value.category]
  exact X₁.ldcStringW hexec (own := own) (text := text) (index := is) (a := sa) hown' hstr'.1 hstr'.2
    (g := { method := m, pc := pc + 4, locals := ls, stack := .ref T.heap.size :: .ref T.heap.size :: rest, locked := none }) rfl d4' _ hsteps
end Ends
section Bodies
variable {l : Launch}
theorem vx_ofW {y : MethodName} {ws ws' : List Cond} {rm : Room} {Pc : Array Value → State → Prop} {Qc : Array Value → State → Outcome → State → Prop} {XC : String → State → State → Prop} {mc ms : Nat} {free : Addr → Prop} {cc : ByteArray} {maxL : Nat} {ret : Option FieldType}
    (hy : plainName y.cls = true) (hw : ws = Cond.code y cc maxL ret :: ws')
    (body : ∀ p e s m args below meth c s₁, BodyLoose p l y (headSpec ws rm) cc maxL ret e s m args below meth c s₁ → c.maxLocals = maxL → (∀ x ∈ c.exceptionTable.toList, False) → Pc args s →
      W p l e (headSpec ws rm).room s m args below meth c s.heap [] 0 0 (vx_MQ below Qc XC args s mc ms free) (entryFrame m args maxL)) : vx_Met l y ws rm Pc Qc XC mc ms free := by
  refine MetFree.of_bodyS (code := cc) (maxLocals := maxL) (ret := ret) hy ?_ ?_
  · intro args s m h hn
    obtain ⟨meth, c, h1, h2, h3, h4, h5, h6, -, -⟩ := Cond.code_spec hn (atoms_spec (ws := ws) h _ (by rw [hw]; exact List.mem_cons_self))
    exact ⟨meth, c, h1, h2, h3, h4, h5, h6⟩
  · intro p e s m args below meth c s₁ B hml hP _
    have hh0 : s₁.heap = s.heap := by rw [B.state]; rfl
    have ht : ∀ x ∈ c.exceptionTable.toList, False := by
      obtain ⟨meth9, c9, h1, h2, -, -, -, -, h7, -⟩ := Cond.code_spec B.named (atoms_spec (ws := ws) B.pre _ (by rw [hw]; exact List.mem_cons_self))
      cases Option.some.inj (h1.symm.trans B.method)
      cases Option.some.inj (h2.symm.trans (Stand.of_body B).code)
      intro x hx
      rw [Array.isEmpty_iff.mp h7] at hx
      cases hx
    obtain ⟨t, a1, o, b1, b2, b3⟩ := body p e s m args below meth c s₁ B hml ht hP s₁ hh0 (Stand.of_body B)
    exact ⟨t, o, a1, b1, b2, b3⟩
/-- the table of a body with handlers -/
theorem vx_table {p : Program} {x y : MethodName} {S : Spec} {cc bytes : ByteArray} {maxL maxL' : Nat} {ret ret' : Option FieldType} {e : Env} {s s₁ : State} {m : MethodId} {args : Array Value} {below : List Frame} {meth : Method} {c : Code} {hh : List (Nat × Nat × Nat × Nat)}
    (B : BodyLoose p l y S cc maxL ret e s m args below meth c s₁) (h : (Cond.codeWith y bytes maxL' ret' hh).before args s = true) : c.exceptionTable.toList = tableOf hh := by
  obtain ⟨m9, meth9, c9, hn9, h1, h2, -, -, h6, -⟩ := Cond.codeWith_spec h
  cases Option.some.inj (hn9.symm.trans B.named)
  cases Option.some.inj (h1.symm.trans B.method)
  cases Option.some.inj (h2.symm.trans (Stand.of_body B).code)
  rw [← h6, table_eq]
end Bodies
end VXA
/-! ===== END ===== -/
/-! ===== BEGIN a static call of a method with an exception table ===== -/
section VXS
variable {p : Program} {l : Launch} {e : Env} {R : Room} {s : State} {m : MethodId} {args : Array Value} {below : List Frame} {meth : Method} {c : Code} {T : State} {H : Heap} {locs : List Loc} {cells slots : Nat}
abbrev vx_CSW (R : Room) (s : State) (args : Array Value) (own : String) (index : Nat) (y : MethodName) (bytes : ByteArray) (maxL : Nat) (ret : Option FieldType) (hh : List (Nat × Nat × Nat × Nat)) (ws : List Cond) (rm : Room) (mc ms n : Nat) : Prop :=
  (rm.cells = mc ∧ rm.slots = ms ∧ rm.frames + 1 ≤ R.frames ∧ 8 + (maxL + 11) + rm.locals ≤ R.locals ∧ (∀ w ∈ ws, ∀ (a' : Array Value) (U : State), s.WarmedH U.vm → w.before a' U = true) ∧ Cond.codeWith y bytes maxL ret hh ∈ ws) ∧
  (Cond.codeWith y bytes maxL ret hh).before args s = true ∧ (Cond.initialized y.cls).before args s = true ∧ (y.cls ≠ "java/lang/invoke/MethodHandle" ∧ y.cls ≠ "java/lang/invoke/VarHandle") ∧
  (∀ sig, parseMethodDescriptor y.desc = some sig → n = sig.parameters.length) ∧ (Cond.methodLink own index y).before args s = true ∧ (Cond.static y).before args s = true
theorem vx_cwSW {own : String} {index maxL mc ms : Nat} {y : MethodName} {bytes : ByteArray} {ret : Option FieldType} {hh : List (Nat × Nat × Nat × Nat)} {Ts ws ws' : List Cond} {rm : Room} (n : Nat) (ht : ∀ w ∈ Ts, w.before args s = true) (hT : GoodIn Ts (va_wsS own index y ws)) (hw : ws = Cond.codeWith y bytes maxL ret hh :: ws') (hrc : rm.cells = mc) (hrs : rm.slots = ms)
    (hd : y.cls ≠ "java/lang/invoke/MethodHandle" ∧ y.cls ≠ "java/lang/invoke/VarHandle" ∧ (parseMethodDescriptor y.desc).map (fun d => d.parameters.length) = some n) (hR : rm.frames + 1 ≤ R.frames ∧ 8 + (maxL + 11) + rm.locals ≤ R.locals) :
    vx_CSW R s args own index y bytes maxL ret hh ws rm mc ms n := by
  have ok : ∀ w ∈ va_wsS own index y ws, w.before args s = true := fun w h => ht w (hT w h).1
  have hG : GoodIn Ts ws := fun w h => hT w (by unfold va_wsS; exact List.mem_append_right _ h)
  have hc : Cond.codeWith y bytes maxL ret hh ∈ ws := by rw [hw]; exact List.mem_cons_self
  refine ⟨⟨hrc, hrs, hR.1, hR.2, pay_in ht hG, hc⟩, ht _ (hG _ hc).1, ok _ (by simp [va_wsS]), ⟨hd.1, hd.2.1⟩, fun sig h => ?_, ok _ (by simp [va_wsS]), ok _ (by simp [va_wsS])⟩
  have h2 := hd.2.2
  rw [h] at h2
  exact (Option.some.inj h2).symm
theorem vx_callSW (X : Stand p l e R s m args below meth c T locs cells slots) (hexec : p.tables.exec = Jvm.exec) {own : String} {index : Nat} {y : MethodName} {bytes : ByteArray} {maxL : Nat} {ret : Option FieldType} {hh : List (Nat × Nat × Nat × Nat)}
    (hown : s.vm.findClass own = some m.cls) (hlink : (Cond.methodLink own index y).before args s = true) (hstat : (Cond.static y).before args s = true) (hinit : (Cond.initialized y.cls).before args s = true)
    (hcode : (Cond.codeWith y bytes maxL ret hh).before args s = true) (hy : y.cls ≠ "java/lang/invoke/MethodHandle" ∧ y.cls ≠ "java/lang/invoke/VarHandle")
    {W9 : Nat} {Pre : Pt → Array Value → Prop} {Post : Pt → Array Value → Option Value → Pt → Prop} (hK : Back l R p e below s args y 3 W9 Pre Post)
    {g : JFrame} (hg : g.method = m) (hsize : g.locals.size = c.maxLocals) {argsL rest : List Value} (hlen : ∀ sig, parseMethodDescriptor y.desc = some sig → argsL.length = sig.parameters.length)
    (hstack : g.stack = argsL.reverse ++ rest) (hW : 2 * g.monitorRoom + (rest.map fun v => v.category).sum ≤ W9) (hdg : decode c.code g.pc = .ok (.invokestatic index, 3))
    (hpre : ∀ vm₁, s.WarmedH vm₁ → Pre ⟨T.setVm vm₁, locs, cells, slots⟩ argsL.toArray) :
    ∃ (v : Option Value) (vm₁ : Vm) (B : Pt), s.WarmedH vm₁ ∧ Stand p l e R s m args below meth c B.U B.locs B.cells B.slots ∧ Post ⟨T.setVm vm₁, locs, cells, slots⟩ argsL.toArray v B ∧
      ∀ target, Steps p.tables e below (B.U.setTop { g with pc := g.pc + 3, stack := v.toList ++ rest }) target → Steps p.tables e below (T.setTop g) target := by
  obtain ⟨mk, methM, cM, hnamed, hmethM, -, -, -, -, -, -, hsigM⟩ := Cond.codeWith_spec hcode
  have hstatic : methM.isStatic = true := Cond.static_spec hnamed hmethM hstat
  obtain ⟨kP, hkP, -⟩ := className_of_methodNamed hnamed
  have hinitP : kP.init = .initialized := Cond.initialized_spec (findClass_of_methodNamed hnamed) hkP hinit
  obtain ⟨vm₁, X₁, hstep₁⟩ := X.invokestatic hexec hown hlink hnamed hmethM hstatic hkP hinitP hy (g := g) hg (argsL := argsL) (rest := rest) (hlen _ hsigM) hstack hdg
  obtain ⟨v, B, X', hpost, hsteps⟩ := hK m meth c ⟨T.setVm vm₁, locs, cells, slots⟩ { g with stack := rest } (.invokestatic index) mk argsL.toArray X₁ hg hsize hdg hW (X₁.named hnamed) (hpre vm₁ X₁.warmed)
  exact ⟨v, vm₁, B, X₁.warmed, X', hpost, fun target h => hstep₁ _ fun acts => by rw [doInvoke_state]; exact hsteps.trans h⟩
theorem vx_runSW {y : MethodName} {bytes cc : ByteArray} {maxL nL mc ms n index : Nat} {ret : Option FieldType} {hh : List (Nat × Nat × Nat × Nat)} {ws : List Cond} {rm : Room} {Pc : Array Value → State → Prop} {Qc : Array Value → State → Outcome → State → Prop} {free : Addr → Prop} {Ts : List Cond} {own : String} {As rest : List Value} {g : JFrame}
    (S : CallFix p m c cc nL s args Ts own) (hM : Met l y ws rm Pc Qc mc ms free) (cw : vx_CSW R s args own index y bytes maxL ret hh ws rm mc ms n) (hp : PreS s H Pc As)
    (hg : g.method = m) (hn : As.length = n) (hsize : g.locals.size = nL) (hstack : g.stack = As.reverse ++ rest) (hW : 2 * g.monitorRoom + (rest.map fun v => v.category).sum ≤ 8) (hdg : decode cc g.pc = .ok (.invokestatic index, 3)) (hf : cells + mc ≤ R.cells ∧ slots + ms ≤ R.slots) :
    va_Run p l e R s m args below meth c H locs cells slots mc ms g rest (Qc As.toArray) (free) := by
  obtain ⟨⟨hrc, hrs, hfr, hlo, hws, hcw⟩, hcode, hini, hy, hlen, hl, hstt⟩ := cw
  have hK : Back l R p e below s args y 3 8 (PreOf R mc ms Pc) (PostOf Qc mc ms free) := va_backW (hh := hh) (bytes := bytes) (maxL := maxL) (ret := ret) hM hp.1 hrc hrs hfr hlo hws hcw (fun a' U hW => word_at hW (Or.inl (by first | rfl | simp [Cond.onTables, Cond.keeps, Cond.steady])) hini)
  obtain ⟨hx, hb, hml, ho, -⟩ := S
  intro T hT X
  obtain ⟨v, vm₁, ⟨U', l2, c2, s2⟩, hW₁, X', ⟨g', mk, t, L, e1, e2, hq, h1, hL, h2, h3⟩, st⟩ := vx_callSW X hx (hh := hh) (bytes := bytes) (maxL := maxL) (ret := ret) ho hl hstt hini hcode hy hK hg (hsize.trans hml.symm) (argsL := As) (rest := rest) (fun sig h => hn.trans (hlen sig h)) hstack hW (by rw [hb]; exact hdg)
    (fun vm₁ hW₁ => ⟨hf.1, hf.2, hp.2 (T.setVm vm₁) hT hW₁⟩)
  dsimp only [Pt.U, Pt.locs, Pt.cells, Pt.slots] at X' e1 e2 h1 h2 h3 st
  subst h1; subst h2; subst h3
  exact ⟨v, (T.setVm vm₁).calling g' mk As.toArray, t, U', L, hT, X', hL, e1, e2, hq, st⟩
/-- not caught here, past rows that name other classes: it goes on to the caller -/
theorem vx_outP {p : Program} {l : Launch} {e : Env} {R : Room} {s : State} {m : MethodId} {args : Array Value} {below : List Frame} {meth : Method} {c : Code} {H : Heap} {locs : List Loc} {cells slots : Nat} {free : Addr → Prop} {ls : Array Slot} {rest : List Value} {Qc : Array Value → State → Outcome → State → Prop} {XC : String → State → State → Prop}
    {pc : Nat} {own E : String} {ce : Cell} {q : Addr} {mc ms : Nat} (hown : s.vm.findClass own = some m.cls) (hlocks : meth.locks = false)
    (hpass : ∀ z ∈ c.exceptionTable.toList, covers z pc = false ∨ (z.catchType ≠ 0 ∧ ∃ nm : String, (Cond.classLink own z.catchType nm).before args s = true ∧ va_Nc E nm s)) (hcell : H[q]? = some ce) (hv : ce.vm = .none) (hcl : s.vm.findClass E = some ce.cls)
    (hx : ∀ t : State, t.heap = H → s.vm.Alike t.vm → XC E s t) (hf : ∀ z ∈ locs, free z.base) (hc : cells ≤ mc) (hs : slots ≤ ms) :
    vx_W p l e R s m args below meth c H locs cells slots (vx_MQ below Qc XC args s mc ms free) (F0 m pc ls rest) q := by
  intro T hT X
  have hpl : e.platform.magicAccessors = ({} : Platform).magicAccessors := by rw [X.admits.platform]
  obtain ⟨vm', hW', X', st⟩ := X.outThrough hlocks q (g := F0 m pc ls rest) rfl rfl rfl (cell := ce) (by rw [hT]; exact hcell) (by rw [hv]; rfl)
    (by obtain ⟨k9, h9, -⟩ := Vm.findClass_spec hcl; exact ⟨k9, h9⟩) (fun z hz => by
      rcases hpass z hz with h | ⟨hz0, nm, hl1, hn1⟩
      · exact Or.inl h
      · obtain ⟨c6, hc6, hcl6⟩ := Cond.classLink_spec hown hl1 e.platform hpl
        obtain ⟨a8, b8, h1, h2, h3⟩ := hn1
        cases Option.some.inj (h1.symm.trans hcl)
        cases Option.some.inj (h2.symm.trans hc6)
        exact Or.inr ⟨hz0, _, hcl6, h3⟩)
  obtain ⟨g₀, hfr⟩ := X'.frames_eq
  have hcell9 : ((T.setVm vm').setFrames (.throwing q :: below)).heap[q]? = some ce := by
    show T.heap[q]? = some ce
    rw [hT]; exact hcell
  have hend : Ended ((T.setVm vm').setFrames (.throwing q :: below)) below (.threw q) := State.frames_setFrames _ (State.cur_lt_of_frames hfr)
  refine ⟨(T.setVm vm').setFrames (.throwing q :: below), ?_, .threw q, X'.here.running, hend, Or.inr ⟨q, rfl, E, ce, locs, hx _ hT (X'.ends _).1.alike, hcell9, hv, hcl, (X'.ends _).1, (X'.ends _).2.mono hc hs, hf⟩⟩
  rw [X.pushThrowing_eq]
  exact st
/-- a thing of a world lies in the heap -/
theorem vx_lt {D : va_G} {cl : List vw_C} {ws : va_W} {H1 : Heap} (h : va_P D cl ws H1) {k : Nat} {q : Nat × va_E} (hk : ws[k]? = some q) : q.1 < H1.size := (h k q hk).lt
end VXS
/-! ===== END ===== -/
/-! ===== BEGIN methods with a table of their own: called by a name, returning or throwing ===== -/
section VXH
/-! vx_backW, vx_callVX, vx_callSX, vx_callVW, vx_runVW, vx_runVX, vx_runSX, vx_ofWH follow the same proofs as their sisters above (Free/Laws.lean, Shelf42/LK1.lean); vx_outP calls Shelf42/NT130.lean (outThrough). -/
section
variable {l : Launch} {R : Room} {p : Program} {e : Env} {below : List Frame} {s : State} {sargs : Array Value} {y : MethodName} {len W9 : Nat}
theorem vx_backW {ws : List Cond} {rm : Room} {Pc : Array Value → State → Prop} {Qc : Array Value → State → Outcome → State → Prop} {XC : String → State → State → Prop} {mc ms : Nat} {free : Addr → Prop} {bytes : ByteArray} {maxL : Nat} {ret : Option FieldType} {hh : List (Nat × Nat × Nat × Nat)}
    (hM : vx_Met l y ws rm Pc Qc XC mc ms free) (hblind : FrameBlind Pc) (hrc : rm.cells = mc) (hrs : rm.slots = ms)
    (hframes : rm.frames + 1 ≤ R.frames) (hlocals : W9 + (maxL + 11) + rm.locals ≤ R.locals)
    (hws : ∀ w ∈ ws, ∀ a' U, s.WarmedH U.vm → w.before a' U = true) (hcode : Cond.codeWith y bytes maxL ret hh ∈ ws) (hinit : ∀ a' U, s.WarmedH U.vm → (Cond.initialized y.cls).before a' U = true) :
    vx_Back l R p e below s sargs y len W9 (PreOf R mc ms Pc) (PostOf Qc mc ms free) (vx_Post XC mc ms free) := by
  intro m meth c A g ig mk a X hg hsize hdg hW hn hp
  have h1 : (headSpec ws rm).pre.before a A.U = true := atoms_intro fun w hw => hws w hw _ _ X.warmed
  have h2 : (Cond.codeWith y bytes maxL ret hh).before a A.U = true := hws _ hcode _ _ X.warmed
  have h3 : (Cond.initialized y.cls).before a A.U = true := hinit _ _ X.warmed
  have h4 : A.cells + (headSpec ws rm).room.cells ≤ R.cells := by rw [show (headSpec ws rm).room.cells = mc from hrc]; exact hp.1
  have h5 : A.slots + (headSpec ws rm).room.slots ≤ R.slots := by rw [show (headSpec ws rm).room.slots = ms from hrs]; exact hp.2.1
  have hPc : Pc a (A.U.calling g mk a) := hblind _ _ _ _ hp.2.2
  obtain ⟨U, Ls, c0, s0⟩ := A
  dsimp only [Pt.U, Pt.locs, Pt.cells, Pt.slots] at h1 h2 h3 h4 h5 X hn hPc ⊢
  obtain ⟨m9, methY, cY, hn9, hmY, hcY, -, hlY, -⟩ := Cond.codeWith_spec h2
  cases Option.some.inj (hn9.symm.trans hn)
  obtain ⟨kY, hkY, -⟩ := className_of_methodNamed hn
  have hinitY : kY.init = .initialized := Cond.initialized_spec (findClass_of_methodNamed hn) hkY h3
  have h : At U g.method c below := by rw [hg]; exact X.here
  have hlocals9 : W9 + (maxL + 11) + (headSpec ws rm).room.locals ≤ R.locals := hlocals
  have happ : (headSpec ws rm).appliesLoose y e.platform (U.calling g mk a) = true :=
    Spec.appliesLoose_calling (g := g) h hdg hn hkY hinitY
      (X.room_calling (g := g) (R' := (headSpec ws rm).room) hsize hmY hcY hframes (by rw [hlY]; omega) h4 h5) h1
  obtain ⟨mid, hmid⟩ := h.above
  have hfr : (U.setTop g).frames = (.java g :: mid) ++ below := by rw [State.frames_setTop' g h.top, hmid]; rfl
  obtain ⟨o, s₂, hsteps, -, hend, hq⟩ := Steps.callFree hM p X.admits X.cas X.clock (acts := []) hfr happ hPc trivial
  have hq' : vx_Q Qc XC mc ms free a (U.calling g mk a) o s₂ := hq
  rw [State.frames_setTop' g h.top] at hend
  obtain ⟨g₀, hg0⟩ := Option.isSome_iff_exists.mp h.top
  obtain ⟨r, hr⟩ := State.topJava?_eq_some.mp hg0
  have hr' : (({ U with heap := s₂.heap, slotsUsed := s₂.slotsUsed } : State).setVm s₂.vm).frames = .java g₀ :: r := hr
  rcases hq' with ⟨hqc, L, hfe, hL⟩ | ⟨q, rfl, E, ce, L, hx, hce, hcv, hcl, hW₂, hsm, hL⟩
  · obtain ⟨⟨v, rfl⟩, hW₂, e2, q2, q3, q4, q5, q6⟩ := id hfe
    have e3 : s₂ = ({ (U.calling g mk a).setFrames s₂.frames with heap := s₂.heap, slotsUsed := s₂.slotsUsed } : State).setVm s₂.vm := by
      have : s₂ = ({ s₂ with vm := (U.calling g mk a).vm } : State).setVm s₂.vm := rfl
      rw [e2] at this
      exact this
    obtain ⟨c₂, i₂, len₂, hc₂, hd₂, hf₂⟩ := hend
    have hW' : U.WarmedH s₂.vm := hW₂
    have hcc : c₂ = c := by
      have h1 : s₂.code? g.method = U.code? g.method := by
        rw [State.code?_eq, State.code?_eq, hW'.alike.method?]
      exact Option.some.inj (hc₂.symm.trans (h1.trans h.code))
    subst hcc
    have hlen : len₂ = len := by rw [hdg] at hd₂; cases hd₂; rfl
    subst hlen
    have hs₂ : s₂ = (({ U with heap := s₂.heap, slotsUsed := s₂.slotsUsed } : State).setVm s₂.vm).setTop { g with pc := g.pc + len₂, stack := v.toList ++ g.stack } := by
      refine e3.trans ?_
      rw [hf₂, State.calling_eq h.top, State.setFrames_setFrames, State.setTop_of_frames _ hr', hr]
      rfl
    have hsame : U.sameButNew ({ U with heap := s₂.heap, slotsUsed := s₂.slotsUsed } : State) L mc ms := by
      refine ⟨?_, q2, q3, q4, q5, q6⟩
      obtain ⟨t, ht, -⟩ := State.frames_cons hr
      show ({ U with heap := s₂.heap, slotsUsed := s₂.slotsUsed } : State) = { U.setFrames U.frames with heap := s₂.heap, slotsUsed := s₂.slotsUsed }
      rw [State.setFrames_self ht]
    subst hg
    refine Or.inl ⟨v, ⟨(({ U with heap := s₂.heap, slotsUsed := s₂.slotsUsed } : State).setVm s₂.vm), Ls ++ L, c0 + mc, s0 + ms⟩,
      ⟨X.admits, X.cas, X.clock, X.frames, X.room, X.hears, X.method, X.code, (X.here.setHeapUsed s₂.heap s₂.slotsUsed).setVm hW'.alike, X.tail, State.WarmedH.trans X.warmed hW', X.limits, X.bytes, X.same.trans (hsame.setVm s.vm)⟩,
      ⟨g, mk, s₂, L, rfl, rfl, hqc, rfl, hL, rfl, rfl⟩, ?_⟩
    show Steps p.tables e below _ ((({ U with heap := s₂.heap, slotsUsed := s₂.slotsUsed } : State).setVm s₂.vm).setTop { g with pc := g.pc + len₂, stack := v.toList ++ g.stack })
    rw [← hs₂]
    exact hsteps
  · obtain ⟨e2, q2, q3, q4, q5, q6⟩ := id hsm
    have e3 : s₂ = ({ (U.calling g mk a).setFrames s₂.frames with heap := s₂.heap, slotsUsed := s₂.slotsUsed } : State).setVm s₂.vm := by
      have : s₂ = ({ s₂ with vm := (U.calling g mk a).vm } : State).setVm s₂.vm := rfl
      rw [e2] at this
      exact this
    have hf₂ : s₂.frames = .throwing q :: .java g :: U.frames.tail := hend
    have hW' : U.WarmedH s₂.vm := hW₂
    have hs₂ : s₂ = ((({ U with heap := s₂.heap, slotsUsed := s₂.slotsUsed } : State).setVm s₂.vm).setTop g).pushFrame (.throwing q) := by
      refine e3.trans ?_
      rw [hf₂, State.calling_eq h.top, State.setFrames_setFrames, State.pushFrame, State.frames_setTop _ hr', State.setTop_of_frames _ hr', State.setFrames_setFrames, hr]
      rfl
    have hsame : U.sameButNew ({ U with heap := s₂.heap, slotsUsed := s₂.slotsUsed } : State) L mc ms := by
      refine ⟨?_, q2, q3, q4, q5, q6⟩
      obtain ⟨t, ht, -⟩ := State.frames_cons hr
      show ({ U with heap := s₂.heap, slotsUsed := s₂.slotsUsed } : State) = { U.setFrames U.frames with heap := s₂.heap, slotsUsed := s₂.slotsUsed }
      rw [State.setFrames_self ht]
    subst hg
    refine Or.inr ⟨q, ⟨(({ U with heap := s₂.heap, slotsUsed := s₂.slotsUsed } : State).setVm s₂.vm), Ls ++ L, c0 + mc, s0 + ms⟩,
      ⟨X.admits, X.cas, X.clock, X.frames, X.room, X.hears, X.method, X.code, (X.here.setHeapUsed s₂.heap s₂.slotsUsed).setVm hW'.alike, X.tail, State.WarmedH.trans X.warmed hW', X.limits, X.bytes, X.same.trans (hsame.setVm s.vm)⟩,
      ⟨g, mk, s₂, L, E, ce, rfl, rfl, hx, hce, hcv, hcl, rfl, hL, rfl, rfl⟩, ?_⟩
    show Steps p.tables e below _ (((({ U with heap := s₂.heap, slotsUsed := s₂.slotsUsed } : State).setVm s₂.vm).setTop g).pushFrame (.throwing q))
    rw [← hs₂]
    exact hsteps
end
variable {p : Program} {l : Launch} {e : Env} {R : Room} {s : State} {m : MethodId} {args : Array Value} {below : List Frame} {meth : Method} {c : Code} {T : State} {H : Heap} {locs : List Loc} {cells slots : Nat}
theorem vx_callVX (X : Stand p l e R s m args below meth c T locs cells slots) (hexec : p.tables.exec = Jvm.exec) {own C : String} {index : Nat} {y : MethodName} {bytes : ByteArray} {maxL : Nat} {ret : Option FieldType} {hh : List (Nat × Nat × Nat × Nat)}
    (hown : s.vm.findClass own = some m.cls) (hlink : (Cond.methodLink own index y).before args s = true) (hinst : (Cond.instanceMethod y).before args s = true) (hsel : (Cond.selects C y y).before args s = true)
    (hcode : (Cond.codeWith y bytes maxL ret hh).before args s = true) (hy : y.cls ≠ "java/lang/invoke/MethodHandle" ∧ y.cls ≠ "java/lang/invoke/VarHandle")
    {W9 : Nat} {Pre : Pt → Array Value → Prop} {Post : Pt → Array Value → Option Value → Pt → Prop} {PostX : Pt → Array Value → Addr → Pt → Prop} (hK : vx_Back l R p e below s args y 3 W9 Pre Post PostX)
    {b : Addr} {cellB : Cell} (hcell : T.heap[b]? = some cellB) (hobj : cellB.vm.isStatics = false) (hcls : s.vm.findClass C = some cellB.cls)
    {g : JFrame} (hg : g.method = m) (hsize : g.locals.size = c.maxLocals) {argsL rest : List Value} (hlen : ∀ sig, parseMethodDescriptor y.desc = some sig → argsL.length = sig.parameters.length)
    (hstack : g.stack = argsL.reverse ++ .ref b :: rest) (hW : 2 * g.monitorRoom + (rest.map fun v => v.category).sum ≤ W9) (hdg : decode c.code g.pc = .ok (.invokevirtual index, 3))
    (hpre : ∀ vm₁, s.WarmedH vm₁ → Pre ⟨T.setVm vm₁, locs, cells, slots⟩ (Value.ref b :: argsL).toArray) :
    (∃ (v : Option Value) (vm₁ : Vm) (B : Pt), s.WarmedH vm₁ ∧ Stand p l e R s m args below meth c B.U B.locs B.cells B.slots ∧ Post ⟨T.setVm vm₁, locs, cells, slots⟩ (Value.ref b :: argsL).toArray v B ∧
      ∀ target, Steps p.tables e below (B.U.setTop { g with pc := g.pc + 3, stack := v.toList ++ rest }) target → Steps p.tables e below (T.setTop g) target) ∨
    (∃ (q : Addr) (vm₁ : Vm) (B : Pt), s.WarmedH vm₁ ∧ Stand p l e R s m args below meth c B.U B.locs B.cells B.slots ∧ PostX ⟨T.setVm vm₁, locs, cells, slots⟩ (Value.ref b :: argsL).toArray q B ∧
      Steps p.tables e below (T.setTop g) ((B.U.setTop { g with stack := rest }).pushFrame (.throwing q))) := by
  obtain ⟨mk, methM, hnamed, hmethM, hstM, habM⟩ := Cond.instanceMethod_spec hinst
  obtain ⟨m8, methM', cM, hn8, hmethM', -, -, -, -, -, -, hsigM⟩ := Cond.codeWith_spec hcode
  cases Option.some.inj (hn8.symm.trans hnamed)
  cases hmethM.symm.trans hmethM'
  obtain ⟨c2, r2, m2, q1, q2, q3, q4, kP, hkP, hkPi⟩ := Cond.selects_spec hsel
  cases hcls.symm.trans q1
  cases (State.methodFound?_of_named hnamed hy).symm.trans q2
  cases hnamed.symm.trans q3
  have hselP : selectMethod e.platform s.vm cellB.cls mk = .method mk := by rw [Launch.admits_selectMethod X.admits]; exact q4
  obtain ⟨vm₁, X₁, hstep₁⟩ := X.invokevirtual hexec hown hlink hnamed hmethM hstM hkP hkPi hy (a := b) (cell := cellB) hcell
    (fun z h => by rw [h] at hobj; cases hobj) hselP hmethM habM hkP hkPi (g := g) hg (argsL := argsL) (rest := rest) (hlen _ hsigM) hstack hdg
  rcases hK m meth c ⟨T.setVm vm₁, locs, cells, slots⟩ { g with stack := rest } (.invokevirtual index) mk (Value.ref b :: argsL).toArray X₁ hg hsize hdg hW (X₁.named hnamed) (hpre vm₁ X₁.warmed) with ⟨v, B, X', hpost, hsteps⟩ | ⟨q, B, X', hpost, hsteps⟩
  · exact Or.inl ⟨v, vm₁, B, X₁.warmed, X', hpost, fun target h => hstep₁ _ fun acts => by rw [doInvoke_state]; exact hsteps.trans h⟩
  · exact Or.inr ⟨q, vm₁, B, X₁.warmed, X', hpost, hstep₁ _ fun acts => by rw [doInvoke_state]; exact hsteps⟩
theorem vx_callSX (X : Stand p l e R s m args below meth c T locs cells slots) (hexec : p.tables.exec = Jvm.exec) {own : String} {index : Nat} {y : MethodName} {bytes : ByteArray} {maxL : Nat} {ret : Option FieldType} {hh : List (Nat × Nat × Nat × Nat)}
    (hown : s.vm.findClass own = some m.cls) (hlink : (Cond.methodLink own index y).before args s = true) (hstat : (Cond.static y).before args s = true) (hinit : (Cond.initialized y.cls).before args s = true)
    (hcode : (Cond.codeWith y bytes maxL ret hh).before args s = true) (hy : y.cls ≠ "java/lang/invoke/MethodHandle" ∧ y.cls ≠ "java/lang/invoke/VarHandle")
    {W9 : Nat} {Pre : Pt → Array Value → Prop} {Post : Pt → Array Value → Option Value → Pt → Prop} {PostX : Pt → Array Value → Addr → Pt → Prop} (hK : vx_Back l R p e below s args y 3 W9 Pre Post PostX)
    {g : JFrame} (hg : g.method = m) (hsize : g.locals.size = c.maxLocals) {argsL rest : List Value} (hlen : ∀ sig, parseMethodDescriptor y.desc = some sig → argsL.length = sig.parameters.length)
    (hstack : g.stack = argsL.reverse ++ rest) (hW : 2 * g.monitorRoom + (rest.map fun v => v.category).sum ≤ W9) (hdg : decode c.code g.pc = .ok (.invokestatic index, 3))
    (hpre : ∀ vm₁, s.WarmedH vm₁ → Pre ⟨T.setVm vm₁, locs, cells, slots⟩ argsL.toArray) :
    (∃ (v : Option Value) (vm₁ : Vm) (B : Pt), s.WarmedH vm₁ ∧ Stand p l e R s m args below meth c B.U B.locs B.cells B.slots ∧ Post ⟨T.setVm vm₁, locs, cells, slots⟩ argsL.toArray v B ∧
      ∀ target, Steps p.tables e below (B.U.setTop { g with pc := g.pc + 3, stack := v.toList ++ rest }) target → Steps p.tables e below (T.setTop g) target) ∨
    (∃ (q : Addr) (vm₁ : Vm) (B : Pt), s.WarmedH vm₁ ∧ Stand p l e R s m args below meth c B.U B.locs B.cells B.slots ∧ PostX ⟨T.setVm vm₁, locs, cells, slots⟩ argsL.toArray q B ∧
      Steps p.tables e below (T.setTop g) ((B.U.setTop { g with stack := rest }).pushFrame (.throwing q))) := by
  obtain ⟨mk, methM, cM, hnamed, hmethM, -, -, -, -, -, -, hsigM⟩ := Cond.codeWith_spec hcode
  have hstatic : methM.isStatic = true := Cond.static_spec hnamed hmethM hstat
  obtain ⟨kP, hkP, -⟩ := className_of_methodNamed hnamed
  have hinitP : kP.init = .initialized := Cond.initialized_spec (findClass_of_methodNamed hnamed) hkP hinit
  obtain ⟨vm₁, X₁, hstep₁⟩ := X.invokestatic hexec hown hlink hnamed hmethM hstatic hkP hinitP hy (g := g) hg (argsL := argsL) (rest := rest) (hlen _ hsigM) hstack hdg
  rcases hK m meth c ⟨T.setVm vm₁, locs, cells, slots⟩ { g with stack := rest } (.invokestatic index) mk argsL.toArray X₁ hg hsize hdg hW (X₁.named hnamed) (hpre vm₁ X₁.warmed) with ⟨v, B, X', hpost, hsteps⟩ | ⟨q, B, X', hpost, hsteps⟩
  · exact Or.inl ⟨v, vm₁, B, X₁.warmed, X', hpost, fun target h => hstep₁ _ fun acts => by rw [doInvoke_state]; exact hsteps.trans h⟩
  · exact Or.inr ⟨q, vm₁, B, X₁.warmed, X', hpost, hstep₁ _ fun acts => by rw [doInvoke_state]; exact hsteps⟩
theorem vx_callVW (X : Stand p l e R s m args below meth c T locs cells slots) (hexec : p.tables.exec = Jvm.exec) {own C : String} {index : Nat} {y : MethodName} {bytes : ByteArray} {maxL : Nat} {ret : Option FieldType} {hh : List (Nat × Nat × Nat × Nat)}
    (hown : s.vm.findClass own = some m.cls) (hlink : (Cond.methodLink own index y).before args s = true) (hinst : (Cond.instanceMethod y).before args s = true) (hsel : (Cond.selects C y y).before args s = true)
    (hcode : (Cond.codeWith y bytes maxL ret hh).before args s = true) (hy : y.cls ≠ "java/lang/invoke/MethodHandle" ∧ y.cls ≠ "java/lang/invoke/VarHandle")
    {W9 : Nat} {Pre : Pt → Array Value → Prop} {Post : Pt → Array Value → Option Value → Pt → Prop} (hK : Back l R p e below s args y 3 W9 Pre Post)
    {b : Addr} {cellB : Cell} (hcell : T.heap[b]? = some cellB) (hobj : cellB.vm.isStatics = false) (hcls : s.vm.findClass C = some cellB.cls)
    {g : JFrame} (hg : g.method = m) (hsize : g.locals.size = c.maxLocals) {argsL rest : List Value} (hlen : ∀ sig, parseMethodDescriptor y.desc = some sig → argsL.length = sig.parameters.length)
    (hstack : g.stack = argsL.reverse ++ .ref b :: rest) (hW : 2 * g.monitorRoom + (rest.map fun v => v.category).sum ≤ W9) (hdg : decode c.code g.pc = .ok (.invokevirtual index, 3))
    (hpre : ∀ vm₁, s.WarmedH vm₁ → Pre ⟨T.setVm vm₁, locs, cells, slots⟩ (Value.ref b :: argsL).toArray) :
    ∃ (v : Option Value) (vm₁ : Vm) (B : Pt), s.WarmedH vm₁ ∧ Stand p l e R s m args below meth c B.U B.locs B.cells B.slots ∧ Post ⟨T.setVm vm₁, locs, cells, slots⟩ (Value.ref b :: argsL).toArray v B ∧
      ∀ target, Steps p.tables e below (B.U.setTop { g with pc := g.pc + 3, stack := v.toList ++ rest }) target → Steps p.tables e below (T.setTop g) target := by
  obtain ⟨mk, methM, hnamed, hmethM, hstM, habM⟩ := Cond.instanceMethod_spec hinst
  obtain ⟨m8, methM', cM, hn8, hmethM', -, -, -, -, -, -, hsigM⟩ := Cond.codeWith_spec hcode
  cases Option.some.inj (hn8.symm.trans hnamed)
  cases hmethM.symm.trans hmethM'
  obtain ⟨c2, r2, m2, q1, q2, q3, q4, kP, hkP, hkPi⟩ := Cond.selects_spec hsel
  cases hcls.symm.trans q1
  cases (State.methodFound?_of_named hnamed hy).symm.trans q2
  cases hnamed.symm.trans q3
  have hselP : selectMethod e.platform s.vm cellB.cls mk = .method mk := by rw [Launch.admits_selectMethod X.admits]; exact q4
  obtain ⟨vm₁, X₁, hstep₁⟩ := X.invokevirtual hexec hown hlink hnamed hmethM hstM hkP hkPi hy (a := b) (cell := cellB) hcell
    (fun z h => by rw [h] at hobj; cases hobj) hselP hmethM habM hkP hkPi (g := g) hg (argsL := argsL) (rest := rest) (hlen _ hsigM) hstack hdg
  obtain ⟨v, B, X', hpost, hsteps⟩ := hK m meth c ⟨T.setVm vm₁, locs, cells, slots⟩ { g with stack := rest } (.invokevirtual index) mk (Value.ref b :: argsL).toArray X₁ hg hsize hdg hW (X₁.named hnamed) (hpre vm₁ X₁.warmed)
  exact ⟨v, vm₁, B, X₁.warmed, X', hpost, fun target h => hstep₁ _ fun acts => by rw [doInvoke_state]; exact hsteps.trans h⟩
abbrev vx_CVW (R : Room) (s : State) (args : Array Value) (own C : String) (index : Nat) (y : MethodName) (bytes : ByteArray) (maxL : Nat) (ret : Option FieldType) (hh : List (Nat × Nat × Nat × Nat)) (ws : List Cond) (rm : Room) (mc ms n : Nat) : Prop :=
  (rm.cells = mc ∧ rm.slots = ms ∧ rm.frames + 1 ≤ R.frames ∧ 8 + (maxL + 11) + rm.locals ≤ R.locals ∧ (∀ w ∈ ws, ∀ (a' : Array Value) (U : State), s.WarmedH U.vm → w.before a' U = true) ∧ Cond.codeWith y bytes maxL ret hh ∈ ws) ∧
  (Cond.codeWith y bytes maxL ret hh).before args s = true ∧ (Cond.initialized y.cls).before args s = true ∧ (y.cls ≠ "java/lang/invoke/MethodHandle" ∧ y.cls ≠ "java/lang/invoke/VarHandle") ∧
  (∀ sig, parseMethodDescriptor y.desc = some sig → n = sig.parameters.length) ∧ (Cond.methodLink own index y).before args s = true ∧ (Cond.instanceMethod y).before args s = true ∧ (Cond.selects C y y).before args s = true
theorem vx_cwVW {own C : String} {index maxL mc ms : Nat} {y : MethodName} {bytes : ByteArray} {ret : Option FieldType} {hh : List (Nat × Nat × Nat × Nat)} {Ts ws ws' : List Cond} {rm : Room} (n : Nat) (ht : ∀ w ∈ Ts, w.before args s = true) (hT : GoodIn Ts (wsV own index C y ws)) (hw : ws = Cond.codeWith y bytes maxL ret hh :: ws') (hrc : rm.cells = mc) (hrs : rm.slots = ms)
    (hd : y.cls = C ∧ y.cls ≠ "java/lang/invoke/MethodHandle" ∧ y.cls ≠ "java/lang/invoke/VarHandle" ∧ (parseMethodDescriptor y.desc).map (fun d => d.parameters.length) = some n) (hR : rm.frames + 1 ≤ R.frames ∧ 8 + (maxL + 11) + rm.locals ≤ R.locals) :
    vx_CVW R s args own C index y bytes maxL ret hh ws rm mc ms n := by
  obtain ⟨hC, hd⟩ := hd
  subst hC
  have ok : ∀ w ∈ wsV own index y.cls y ws, w.before args s = true := fun w h => ht w (hT w h).1
  have hG : GoodIn Ts ws := fun w h => hT w (by unfold wsV; exact List.mem_append_right _ h)
  have hc : Cond.codeWith y bytes maxL ret hh ∈ ws := by rw [hw]; exact List.mem_cons_self
  refine ⟨⟨hrc, hrs, hR.1, hR.2, pay_in ht hG, hc⟩, ht _ (hG _ hc).1, ok _ (by simp [wsV]), ⟨hd.1, hd.2.1⟩, fun sig h => ?_, ok _ (by simp [wsV]), ok _ (by simp [wsV]), ok _ (by simp [wsV])⟩
  have h2 := hd.2.2
  rw [h] at h2
  exact (Option.some.inj h2).symm
theorem vx_runVW {y : MethodName} {bytes cc : ByteArray} {maxL nL mc ms n index : Nat} {ret : Option FieldType} {hh : List (Nat × Nat × Nat × Nat)} {ws : List Cond} {rm : Room} {Pc : Array Value → State → Prop} {Qc : Array Value → State → Outcome → State → Prop} {free : Addr → Prop} {Ts : List Cond} {own C : String} {b : Addr} {As rest : List Value} {g : JFrame}
    (S : CallFix p m c cc nL s args Ts own) (hM : Met l y ws rm Pc Qc mc ms free) (cw : vx_CVW R s args own C index y bytes maxL ret hh ws rm mc ms n) (hp : PreV s H C b Pc As)
    (hg : g.method = m) (hn : As.length = n) (hsize : g.locals.size = nL) (hstack : g.stack = As.reverse ++ .ref b :: rest) (hW : 2 * g.monitorRoom + (rest.map fun v => v.category).sum ≤ 8) (hdg : decode cc g.pc = .ok (.invokevirtual index, 3)) (hf : cells + mc ≤ R.cells ∧ slots + ms ≤ R.slots) :
    va_Run p l e R s m args below meth c H locs cells slots mc ms g rest (Qc (Value.ref b :: As).toArray) free := by
  obtain ⟨⟨hrc, hrs, hfr, hlo, hws, hcw⟩, hcode, hini, hy, hlen, hl, hin, hse⟩ := cw
  have hK : Back l R p e below s args y 3 8 (PreOf R mc ms Pc) (PostOf Qc mc ms free) := va_backW (hh := hh) (bytes := bytes) (maxL := maxL) (ret := ret) hM hp.1 hrc hrs hfr hlo hws hcw (fun a' U hW => word_at hW (Or.inl (by first | rfl | simp [Cond.onTables, Cond.keeps, Cond.steady])) hini)
  obtain ⟨hx, hb, hml, ho, -⟩ := S
  obtain ⟨-, ⟨cellB, hcB, hoB, hclB⟩, hPc⟩ := hp
  intro T hT X
  obtain ⟨v, vm₁, ⟨U', l2, c2, s2⟩, hW₁, X', ⟨g', mk, t, L, e1, e2, hq, h1, hL, h2, h3⟩, st⟩ := vx_callVW X hx (C := C) (hh := hh) (bytes := bytes) (maxL := maxL) (ret := ret) ho hl hin hse hcode hy hK (by rw [hT]; exact hcB) hoB hclB hg (hsize.trans hml.symm) (argsL := As) (rest := rest) (fun sig h => hn.trans (hlen sig h)) hstack hW (by rw [hb]; exact hdg)
    (fun vm₁ hW₁ => ⟨hf.1, hf.2, hPc (T.setVm vm₁) hT hW₁⟩)
  dsimp only [Pt.U, Pt.locs, Pt.cells, Pt.slots] at X' e1 e2 h1 h2 h3 st
  subst h1; subst h2; subst h3
  exact ⟨v, (T.setVm vm₁).calling g' mk (Value.ref b :: As).toArray, t, U', L, hT, X', hL, e1, e2, hq, st⟩
section
variable {y : MethodName} {bytes cc : ByteArray} {maxL nL mc ms n index : Nat} {ret : Option FieldType} {ws : List Cond} {rm : Room} {Pc : Array Value → State → Prop} {Qc : Array Value → State → Outcome → State → Prop} {XC : String → State → State → Prop} {free : Addr → Prop} {Ts : List Cond} {own C : String} {b : Addr} {As rest : List Value} {g : JFrame}
theorem vx_runVX {hh : List (Nat × Nat × Nat × Nat)} (S : CallFix p m c cc nL s args Ts own) (hM : vx_Met l y ws rm Pc Qc XC mc ms free) (cw : vx_CVW R s args own C index y bytes maxL ret hh ws rm mc ms n) (hp : PreV s H C b Pc As)
    (hg : g.method = m) (hn : As.length = n) (hsize : g.locals.size = nL) (hstack : g.stack = As.reverse ++ .ref b :: rest) (hW : 2 * g.monitorRoom + (rest.map fun v => v.category).sum ≤ 8) (hdg : decode cc g.pc = .ok (.invokevirtual index, 3)) (hf : cells + mc ≤ R.cells ∧ slots + ms ≤ R.slots) :
    vx_Run p l e R s m args below meth c H locs cells slots mc ms g rest (Qc (Value.ref b :: As).toArray) XC free := by
  obtain ⟨⟨hrc, hrs, hfr, hlo, hws, hcw⟩, hcode, hini, hy, hlen, hl, hin, hse⟩ := cw
  have hK : vx_Back l R p e below s args y 3 8 (PreOf R mc ms Pc) (PostOf Qc mc ms free) (vx_Post XC mc ms free) := vx_backW (hh := hh) (bytes := bytes) (maxL := maxL) (ret := ret) hM hp.1 hrc hrs hfr hlo hws hcw (fun a' U hW => word_at hW (Or.inl (by first | rfl | simp [Cond.onTables, Cond.keeps, Cond.steady])) hini)
  obtain ⟨hx, hb, hml, ho, -⟩ := S
  obtain ⟨-, ⟨cellB, hcB, hoB, hclB⟩, hPc⟩ := hp
  intro T hT X
  rcases vx_callVX X hx (C := C) (hh := hh) (bytes := bytes) (maxL := maxL) (ret := ret) ho hl hin hse hcode hy hK (by rw [hT]; exact hcB) hoB hclB hg (hsize.trans hml.symm) (argsL := As) (rest := rest) (fun sig h => hn.trans (hlen sig h)) hstack hW (by rw [hb]; exact hdg)
    (fun vm₁ hW₁ => ⟨hf.1, hf.2, hPc (T.setVm vm₁) hT hW₁⟩) with ⟨v, vm₁, ⟨U', l2, c2, s2⟩, hW₁, X', ⟨g', mk, t, L, e1, e2, hq, h1, hL, h2, h3⟩, st⟩ | ⟨q, vm₁, ⟨U', l2, c2, s2⟩, hW₁, X', ⟨g', mk, t, L, E, ce, e1, e2, hq, hce, hcv, hcl, h1, hL, h2, h3⟩, st⟩
  · dsimp only [Pt.U, Pt.locs, Pt.cells, Pt.slots] at X' e1 e2 h1 h2 h3 st
    subst h1; subst h2; subst h3
    exact Or.inl ⟨v, (T.setVm vm₁).calling g' mk (Value.ref b :: As).toArray, t, U', L, hT, X', hL, e1, e2, hq, st⟩
  · dsimp only [Pt.U, Pt.locs, Pt.cells, Pt.slots] at X' e1 e2 h1 h2 h3 st hcl
    subst h1; subst h2; subst h3
    exact Or.inr ⟨q, (T.setVm vm₁).calling g' mk (Value.ref b :: As).toArray, t, U', L, E, ce, hT, X', hL, e1, e2, hq, hce, hcv, vx_cls hW₁ hcl, st⟩
theorem vx_runSX {hh : List (Nat × Nat × Nat × Nat)} (S : CallFix p m c cc nL s args Ts own) (hM : vx_Met l y ws rm Pc Qc XC mc ms free) (cw : vx_CSW R s args own index y bytes maxL ret hh ws rm mc ms n) (hp : PreS s H Pc As)
    (hg : g.method = m) (hn : As.length = n) (hsize : g.locals.size = nL) (hstack : g.stack = As.reverse ++ rest) (hW : 2 * g.monitorRoom + (rest.map fun v => v.category).sum ≤ 8) (hdg : decode cc g.pc = .ok (.invokestatic index, 3)) (hf : cells + mc ≤ R.cells ∧ slots + ms ≤ R.slots) :
    vx_Run p l e R s m args below meth c H locs cells slots mc ms g rest (Qc As.toArray) XC free := by
  obtain ⟨⟨hrc, hrs, hfr, hlo, hws, hcw⟩, hcode, hini, hy, hlen, hl, hstt⟩ := cw
  have hK : vx_Back l R p e below s args y 3 8 (PreOf R mc ms Pc) (PostOf Qc mc ms free) (vx_Post XC mc ms free) := vx_backW (hh := hh) (bytes := bytes) (maxL := maxL) (ret := ret) hM hp.1 hrc hrs hfr hlo hws hcw (fun a' U hW => word_at hW (Or.inl (by first | rfl | simp [Cond.onTables, Cond.keeps, Cond.steady])) hini)
  obtain ⟨hx, hb, hml, ho, -⟩ := S
  intro T hT X
  rcases vx_callSX X hx (hh := hh) (bytes := bytes) (maxL := maxL) (ret := ret) ho hl hstt hini hcode hy hK hg (hsize.trans hml.symm) (argsL := As) (rest := rest) (fun sig h => hn.trans (hlen sig h)) hstack hW (by rw [hb]; exact hdg)
    (fun vm₁ hW₁ => ⟨hf.1, hf.2, hp.2 (T.setVm vm₁) hT hW₁⟩) with ⟨v, vm₁, ⟨U', l2, c2, s2⟩, hW₁, X', ⟨g', mk, t, L, e1, e2, hq, h1, hL, h2, h3⟩, st⟩ | ⟨q, vm₁, ⟨U', l2, c2, s2⟩, hW₁, X', ⟨g', mk, t, L, E, ce, e1, e2, hq, hce, hcv, hcl, h1, hL, h2, h3⟩, st⟩
  · dsimp only [Pt.U, Pt.locs, Pt.cells, Pt.slots] at X' e1 e2 h1 h2 h3 st
    subst h1; subst h2; subst h3
    exact Or.inl ⟨v, (T.setVm vm₁).calling g' mk As.toArray, t, U', L, hT, X', hL, e1, e2, hq, st⟩
  · dsimp only [Pt.U, Pt.locs, Pt.cells, Pt.slots] at X' e1 e2 h1 h2 h3 st hcl
    subst h1; subst h2; subst h3
    exact Or.inr ⟨q, (T.setVm vm₁).calling g' mk As.toArray, t, U', L, E, ce, hT, X', hL, e1, e2, hq, hce, hcv, vx_cls hW₁ hcl, st⟩
end
end VXH
theorem vx_ofWH {l : Launch} {y : MethodName} {ws ws' : List Cond} {rm : Room} {Pc : Array Value → State → Prop} {Qc : Array Value → State → Outcome → State → Prop} {XC : String → State → State → Prop} {mc ms : Nat} {free : Addr → Prop} {cc : ByteArray} {maxL : Nat} {ret : Option FieldType} {hh : List (Nat × Nat × Nat × Nat)}
    (hy : plainName y.cls = true) (hw : ws = Cond.codeWith y cc maxL ret hh :: ws')
    (body : ∀ p e s m args below meth c s₁, BodyLoose p l y (headSpec ws rm) cc maxL ret e s m args below meth c s₁ → c.maxLocals = maxL → Pc args s →
      W p l e (headSpec ws rm).room s m args below meth c s.heap [] 0 0 (vx_MQ below Qc XC args s mc ms free) (entryFrame m args maxL)) : vx_Met l y ws rm Pc Qc XC mc ms free := by
  refine MetFree.of_bodyS (code := cc) (maxLocals := maxL) (ret := ret) hy ?_ ?_
  · intro args s m h hn
    obtain ⟨m9, meth, c, hn9, h1, h2, h3, h4, -, h5, h6, -⟩ := Cond.codeWith_spec (atoms_spec (ws := ws) h _ (by rw [hw]; exact List.mem_cons_self))
    cases hn.symm.trans hn9
    exact ⟨meth, c, h1, h2, h3, h4, h5, h6⟩
  · intro p e s m args below meth c s₁ B hml hP _
    have hh0 : s₁.heap = s.heap := by rw [B.state]; rfl
    obtain ⟨t, a1, o, b1, b2, b3⟩ := body p e s m args below meth c s₁ B hml hP s₁ hh0 (Stand.of_body B)
    exact ⟨t, o, a1, b1, b2, b3⟩
/-! ===== END ===== -/
end
section
def RX0 : String := "PinnedLeaves$Children"
def TX0 : u_T := fun k => match k with
  | 0 => ("PinnedLeaves$Children", "here", "LPinnedLeaves$Row;", true)
  | 1 => ("PinnedLeaves$Children", "cameInAt", "LPinnedLeaves$Row;", true)
  | 2 => ("PinnedLeaves$Children", "tookOff", "LPinnedLeaves$Row;", true)
  | 3 => ("PinnedLeaves$Children", "burnt", "LPinnedLeaves$Row;", true)
  | 4 => ("PinnedLeaves$Children", "rakings", "LPinnedLeaves$Row;", true)
  | 5 => ("PinnedLeaves$Children", "heapSize", "LPinnedLeaves$Row;", true)
  | _ => ("PinnedLeaves$Children", "heaps", "LPinnedLeaves$Row;", true)
def tyX0 : Nat → FieldType := fun k => match k with
  | 0 => .object "PinnedLeaves$Row"
  | 1 => .object "PinnedLeaves$Row"
  | 2 => .object "PinnedLeaves$Row"
  | 3 => .object "PinnedLeaves$Row"
  | 4 => .object "PinnedLeaves$Row"
  | 5 => .object "PinnedLeaves$Row"
  | _ => .object "PinnedLeaves$Row"
abbrev wsX00 : List Cond := u_ws RX0 TX0 7
theorem nmX0 : ∀ a, a < 7 → ∀ b, b < 7 → a ≠ b → (TX0 a).2.1 ≠ (TX0 b).2.1 := by decide +kernel
theorem tyX0_ok : ∀ k, k < 7 → parseFieldDescriptor (TX0 k).2.2.1 = some (tyX0 k) := by decide +kernel
abbrev cX0_init : ByteArray := prog_2_method_1_code
def yX0_init : MethodName := ⟨RX0, "<init>", "()V"⟩
abbrev cX0_isHere : ByteArray := prog_2_method_2_code
def yX0_isHere : MethodName := ⟨RX0, "isHere", "(I)Z"⟩
abbrev cX0_isInYard : ByteArray := prog_2_method_3_code
def yX0_isInYard : MethodName := ⟨RX0, "isInYard", "(I)Z"⟩
abbrev cX0_number : ByteArray := prog_2_method_4_code
def yX0_number : MethodName := ⟨RX0, "number", "()I"⟩
abbrev cX0_numberInYard : ByteArray := prog_2_method_5_code
def yX0_numberInYard : MethodName := ⟨RX0, "numberInYard", "()I"⟩
abbrev cX0_mask : ByteArray := prog_2_method_6_code
def yX0_mask : MethodName := ⟨RX0, "mask", "()I"⟩
abbrev cX0_maskOfLate : ByteArray := prog_2_method_7_code
def yX0_maskOfLate : MethodName := ⟨RX0, "maskOfLate", "(I)I"⟩
abbrev cX0_lowestFree : ByteArray := prog_2_method_8_code
def yX0_lowestFree : MethodName := ⟨RX0, "lowestFree", "()I"⟩
abbrev cX0_lowestBesides : ByteArray := prog_2_method_9_code
def yX0_lowestBesides : MethodName := ⟨RX0, "lowestBesides", "(I)I"⟩
abbrev cX0_fillPlace : ByteArray := prog_2_method_10_code
def yX0_fillPlace : MethodName := ⟨RX0, "fillPlace", "(I)V"⟩
abbrev cX0_emptyPlace : ByteArray := prog_2_method_11_code
def yX0_emptyPlace : MethodName := ⟨RX0, "emptyPlace", "(I)V"⟩
abbrev cX0_leafOnHeap : ByteArray := prog_2_method_12_code
def yX0_leafOnHeap : MethodName := ⟨RX0, "leafOnHeap", "(II)I"⟩
abbrev cX0_putOnHeap : ByteArray := prog_2_method_13_code
def yX0_putOnHeap : MethodName := ⟨RX0, "putOnHeap", "(II)V"⟩
abbrev cX0_copyFrom : ByteArray := prog_2_method_14_code
def yX0_copyFrom : MethodName := ⟨RX0, "copyFrom", "(LPinnedLeaves$Children;)V"⟩
def RX1 : String := "PinnedLeaves$Hooks"
def TX1 : u_T := fun k => match k with
  | 0 => ("PinnedLeaves$Hooks", "pinned", "LPinnedLeaves$Row;", true)
  | 1 => ("PinnedLeaves$Hooks", "noted", "LPinnedLeaves$Row;", true)
  | _ => ("PinnedLeaves$Hooks", "branches", "LPinnedLeaves$Row;", true)
def tyX1 : Nat → FieldType := fun k => match k with
  | 0 => .object "PinnedLeaves$Row"
  | 1 => .object "PinnedLeaves$Row"
  | _ => .object "PinnedLeaves$Row"
abbrev wsX10 : List Cond := u_ws RX1 TX1 3
theorem nmX1 : ∀ a, a < 3 → ∀ b, b < 3 → a ≠ b → (TX1 a).2.1 ≠ (TX1 b).2.1 := by decide +kernel
theorem tyX1_ok : ∀ k, k < 3 → parseFieldDescriptor (TX1 k).2.2.1 = some (tyX1 k) := by decide +kernel
abbrev cX1_init : ByteArray := prog_3_method_1_code
def yX1_init : MethodName := ⟨RX1, "<init>", "()V"⟩
abbrev cX1_firstOf : ByteArray := prog_3_method_2_code
def yX1_firstOf : MethodName := ⟨RX1, "firstOf", "(I)I"⟩
abbrev cX1_kindOf : ByteArray := prog_3_method_3_code
def yX1_kindOf : MethodName := ⟨RX1, "kindOf", "(II)I"⟩
abbrev cX1_leafOf : ByteArray := prog_3_method_4_code
def yX1_leafOf : MethodName := ⟨RX1, "leafOf", "(II)I"⟩
abbrev cX1_branchOf : ByteArray := prog_3_method_5_code
def yX1_branchOf : MethodName := ⟨RX1, "branchOf", "(II)I"⟩
abbrev cX1_write : ByteArray := prog_3_method_6_code
def yX1_write : MethodName := ⟨RX1, "write", "(IIII)V"⟩
abbrev cX1_fasten : ByteArray := prog_3_method_7_code
def yX1_fasten : MethodName := ⟨RX1, "fasten", "(II)V"⟩
abbrev cX1_release : ByteArray := prog_3_method_8_code
def yX1_release : MethodName := ⟨RX1, "release", "(II)V"⟩
abbrev cX1_releaseAll : ByteArray := prog_3_method_9_code
def yX1_releaseAll : MethodName := ⟨RX1, "releaseAll", "(I)V"⟩
abbrev cX1_pins : ByteArray := prog_3_method_10_code
def yX1_pins : MethodName := ⟨RX1, "pins", "()I"⟩
abbrev cX1_notes : ByteArray := prog_3_method_11_code
def yX1_notes : MethodName := ⟨RX1, "notes", "()I"⟩
abbrev cX1_pinsOfChild : ByteArray := prog_3_method_12_code
def yX1_pinsOfChild : MethodName := ⟨RX1, "pinsOfChild", "(I)I"⟩
abbrev cX1_notesOfChild : ByteArray := prog_3_method_13_code
def yX1_notesOfChild : MethodName := ⟨RX1, "notesOfChild", "(I)I"⟩
abbrev cX1_pinsOn : ByteArray := prog_3_method_14_code
def yX1_pinsOn : MethodName := ⟨RX1, "pinsOn", "(I)I"⟩
abbrev cX1_notesOn : ByteArray := prog_3_method_15_code
def yX1_notesOn : MethodName := ⟨RX1, "notesOn", "(I)I"⟩
abbrev cX1_pinsOnBy : ByteArray := prog_3_method_16_code
def yX1_pinsOnBy : MethodName := ⟨RX1, "pinsOnBy", "(II)I"⟩
abbrev cX1_maskOfHolders : ByteArray := prog_3_method_17_code
def yX1_maskOfHolders : MethodName := ⟨RX1, "maskOfHolders", "(I)I"⟩
abbrev cX1_numberOfHook : ByteArray := prog_3_method_18_code
def yX1_numberOfHook : MethodName := ⟨RX1, "numberOfHook", "(III)I"⟩
abbrev cX1_copyFrom : ByteArray := prog_3_method_19_code
def yX1_copyFrom : MethodName := ⟨RX1, "copyFrom", "(LPinnedLeaves$Hooks;)V"⟩
def RX2 : String := "PinnedLeaves$Leaves"
def TX2 : u_T := fun k => match k with
  | 0 => ("PinnedLeaves$Leaves", "grown", "I", false)
  | 1 => ("PinnedLeaves$Leaves", "onBranch", "LPinnedLeaves$Row;", true)
  | 2 => ("PinnedLeaves$Leaves", "colours", "LPinnedLeaves$Row;", true)
  | 3 => ("PinnedLeaves$Leaves", "where", "LPinnedLeaves$Row;", true)
  | 4 => ("PinnedLeaves$Leaves", "lastBranch", "LPinnedLeaves$Row;", true)
  | 5 => ("PinnedLeaves$Leaves", "asideSince", "LPinnedLeaves$Row;", true)
  | _ => ("PinnedLeaves$Leaves", "heapOf", "LPinnedLeaves$Row;", true)
def tyX2 : Nat → FieldType := fun k => match k with
  | 0 => .int
  | 1 => .object "PinnedLeaves$Row"
  | 2 => .object "PinnedLeaves$Row"
  | 3 => .object "PinnedLeaves$Row"
  | 4 => .object "PinnedLeaves$Row"
  | 5 => .object "PinnedLeaves$Row"
  | _ => .object "PinnedLeaves$Row"
abbrev wsX20 : List Cond := u_ws RX2 TX2 7
theorem nmX2 : ∀ a, a < 7 → ∀ b, b < 7 → a ≠ b → (TX2 a).2.1 ≠ (TX2 b).2.1 := by decide +kernel
theorem tyX2_ok : ∀ k, k < 7 → parseFieldDescriptor (TX2 k).2.2.1 = some (tyX2 k) := by decide +kernel
abbrev cX2_init : ByteArray := prog_4_method_1_code
def yX2_init : MethodName := ⟨RX2, "<init>", "()V"⟩
abbrev cX2_sprout : ByteArray := prog_4_method_2_code
def yX2_sprout : MethodName := ⟨RX2, "sprout", "(II)I"⟩
abbrev cX2_putAside : ByteArray := prog_4_method_3_code
def yX2_putAside : MethodName := ⟨RX2, "putAside", "(III)V"⟩
abbrev cX2_burn : ByteArray := prog_4_method_4_code
def yX2_burn : MethodName := ⟨RX2, "burn", "(I)V"⟩
abbrev cX2_numberWhere : ByteArray := prog_4_method_5_code
def yX2_numberWhere : MethodName := ⟨RX2, "numberWhere", "(I)I"⟩
abbrev cX2_copyFrom : ByteArray := prog_4_method_6_code
def yX2_copyFrom : MethodName := ⟨RX2, "copyFrom", "(LPinnedLeaves$Leaves;)V"⟩
def RX3 : String := "PinnedLeaves$OrderText"
def TX3 : u_T := fun k => match k with
  | 0 => ("PinnedLeaves$OrderText", "signs", "LPinnedLeaves$Row;", true)
  | _ => ("PinnedLeaves$OrderText", "length", "I", false)
def tyX3 : Nat → FieldType := fun k => match k with
  | 0 => .object "PinnedLeaves$Row"
  | _ => .int
abbrev wsX30 : List Cond := u_ws RX3 TX3 2
theorem nmX3 : ∀ a, a < 2 → ∀ b, b < 2 → a ≠ b → (TX3 a).2.1 ≠ (TX3 b).2.1 := by decide +kernel
theorem tyX3_ok : ∀ k, k < 2 → parseFieldDescriptor (TX3 k).2.2.1 = some (tyX3 k) := by decide +kernel
abbrev cX3_init : ByteArray := prog_5_method_1_code
def yX3_init : MethodName := ⟨RX3, "<init>", "()V"⟩
abbrev cX3_length : ByteArray := prog_5_method_2_code
def yX3_length : MethodName := ⟨RX3, "length", "()I"⟩
abbrev cX3_add : ByteArray := prog_5_method_3_code
def yX3_add : MethodName := ⟨RX3, "add", "(I)I"⟩
abbrev cX3_empty : ByteArray := prog_5_method_4_code
def yX3_empty : MethodName := ⟨RX3, "empty", "()I"⟩
abbrev cX3_signAt : ByteArray := prog_5_method_5_code
def yX3_signAt : MethodName := ⟨RX3, "signAt", "(I)I"⟩
abbrev cX3_digitAt : ByteArray := prog_5_method_6_code
def yX3_digitAt : MethodName := ⟨RX3, "digitAt", "(I)I"⟩
abbrev cX3_branchAt : ByteArray := prog_5_method_7_code
def yX3_branchAt : MethodName := ⟨RX3, "branchAt", "(I)I"⟩
abbrev cX3_startsPart : ByteArray := prog_5_method_8_code
def yX3_startsPart : MethodName := ⟨RX3, "startsPart", "(I)Z"⟩
abbrev cX3_firstWrong : ByteArray := prog_5_method_9_code
def yX3_firstWrong : MethodName := ⟨RX3, "firstWrong", "()I"⟩
abbrev cX3_isComplete : ByteArray := prog_5_method_10_code
def yX3_isComplete : MethodName := ⟨RX3, "isComplete", "()Z"⟩
abbrev cX3_fits : ByteArray := prog_5_method_11_code
def yX3_fits : MethodName := ⟨RX3, "fits", "(II)Z"⟩
abbrev cX3_isOrder : ByteArray := prog_5_method_12_code
def yX3_isOrder : MethodName := ⟨RX3, "isOrder", "(I)Z"⟩
abbrev cX3_isOperand : ByteArray := prog_5_method_13_code
def yX3_isOperand : MethodName := ⟨RX3, "isOperand", "(II)Z"⟩
abbrev cX3_operandAt : ByteArray := prog_5_method_14_code
def yX3_operandAt : MethodName := ⟨RX3, "operandAt", "(II)I"⟩
abbrev cX3_operandOf : ByteArray := prog_5_method_15_code
def yX3_operandOf : MethodName := ⟨RX3, "operandOf", "(IIII)I"⟩
def RX4 : String := "PinnedLeaves$Row"
def TX4 : u_T := fun k => match k with
  | _ => ("PinnedLeaves$Row", "cells", "[I", true)
def tyX4 : Nat → FieldType := fun k => match k with
  | _ => .array .int
abbrev wsX40 : List Cond := u_ws RX4 TX4 1
theorem nmX4 : ∀ a, a < 1 → ∀ b, b < 1 → a ≠ b → (TX4 a).2.1 ≠ (TX4 b).2.1 := by decide +kernel
theorem tyX4_ok : ∀ k, k < 1 → parseFieldDescriptor (TX4 k).2.2.1 = some (tyX4 k) := by decide +kernel
abbrev cX4_init : ByteArray := prog_6_method_1_code
def yX4_init : MethodName := ⟨RX4, "<init>", "(I)V"⟩
abbrev cX4_get : ByteArray := prog_6_method_2_code
def yX4_get : MethodName := ⟨RX4, "get", "(I)I"⟩
abbrev cX4_put : ByteArray := prog_6_method_3_code
def yX4_put : MethodName := ⟨RX4, "put", "(II)V"⟩
abbrev cX4_add : ByteArray := prog_6_method_4_code
def yX4_add : MethodName := ⟨RX4, "add", "(II)V"⟩
abbrev cX4_fill : ByteArray := prog_6_method_5_code
def yX4_fill : MethodName := ⟨RX4, "fill", "(I)V"⟩
abbrev cX4_number : ByteArray := prog_6_method_6_code
def yX4_number : MethodName := ⟨RX4, "number", "(III)I"⟩
abbrev cX4_copyFrom : ByteArray := prog_6_method_7_code
def yX4_copyFrom : MethodName := ⟨RX4, "copyFrom", "(LPinnedLeaves$Row;)V"⟩
def RX5 : String := "PinnedLeaves$SavedYards"
def TX5 : u_T := fun k => match k with
  | 0 => ("PinnedLeaves$SavedYards", "yards", "[LPinnedLeaves$Yard;", true)
  | 1 => ("PinnedLeaves$SavedYards", "next", "I", false)
  | _ => ("PinnedLeaves$SavedYards", "size", "I", false)
def tyX5 : Nat → FieldType := fun k => match k with
  | 0 => .array (.object "PinnedLeaves$Yard")
  | 1 => .int
  | _ => .int
abbrev wsX50 : List Cond := u_ws RX5 TX5 3
theorem nmX5 : ∀ a, a < 3 → ∀ b, b < 3 → a ≠ b → (TX5 a).2.1 ≠ (TX5 b).2.1 := by decide +kernel
theorem tyX5_ok : ∀ k, k < 3 → parseFieldDescriptor (TX5 k).2.2.1 = some (tyX5 k) := by decide +kernel
abbrev cX5_init : ByteArray := prog_7_method_1_code
def yX5_init : MethodName := ⟨RX5, "<init>", "()V"⟩
abbrev cX5_number : ByteArray := prog_7_method_2_code
def yX5_number : MethodName := ⟨RX5, "number", "()I"⟩
abbrev cX5_push : ByteArray := prog_7_method_3_code
def yX5_push : MethodName := ⟨RX5, "push", "(LPinnedLeaves$Yard;)V"⟩
abbrev cX5_popInto : ByteArray := prog_7_method_4_code
def yX5_popInto : MethodName := ⟨RX5, "popInto", "(LPinnedLeaves$Yard;)V"⟩
abbrev cX5_placeAt : ByteArray := prog_7_method_5_code
def yX5_placeAt : MethodName := ⟨RX5, "placeAt", "(I)LPinnedLeaves$Yard;"⟩
def RX6 : String := "PinnedLeaves$Yard"
def TX6 : u_T := fun k => match k with
  | 0 => ("PinnedLeaves$Yard", "bell", "I", false)
  | 1 => ("PinnedLeaves$Yard", "rakeAt", "I", false)
  | 2 => ("PinnedLeaves$Yard", "burnsBy", "I", false)
  | 3 => ("PinnedLeaves$Yard", "rakings", "I", false)
  | 4 => ("PinnedLeaves$Yard", "lookedThrough", "I", false)
  | 5 => ("PinnedLeaves$Yard", "failedPins", "I", false)
  | 6 => ("PinnedLeaves$Yard", "dangers", "I", false)
  | 7 => ("PinnedLeaves$Yard", "mostAside", "I", false)
  | 8 => ("PinnedLeaves$Yard", "leaves", "LPinnedLeaves$Leaves;", true)
  | 9 => ("PinnedLeaves$Yard", "children", "LPinnedLeaves$Children;", true)
  | _ => ("PinnedLeaves$Yard", "hooks", "LPinnedLeaves$Hooks;", true)
def tyX6 : Nat → FieldType := fun k => match k with
  | 0 => .int
  | 1 => .int
  | 2 => .int
  | 3 => .int
  | 4 => .int
  | 5 => .int
  | 6 => .int
  | 7 => .int
  | 8 => .object "PinnedLeaves$Leaves"
  | 9 => .object "PinnedLeaves$Children"
  | _ => .object "PinnedLeaves$Hooks"
abbrev wsX60 : List Cond := u_ws RX6 TX6 11
theorem nmX6 : ∀ a, a < 11 → ∀ b, b < 11 → a ≠ b → (TX6 a).2.1 ≠ (TX6 b).2.1 := by decide +kernel
theorem tyX6_ok : ∀ k, k < 11 → parseFieldDescriptor (TX6 k).2.2.1 = some (tyX6 k) := by decide +kernel
abbrev cX6_init : ByteArray := prog_8_method_1_code
def yX6_init : MethodName := ⟨RX6, "<init>", "()V"⟩
abbrev cX6_copyFrom : ByteArray := prog_8_method_2_code
def yX6_copyFrom : MethodName := ⟨RX6, "copyFrom", "(LPinnedLeaves$Yard;)V"⟩
abbrev cX6_addChild : ByteArray := prog_8_method_3_code
def yX6_addChild : MethodName := ⟨RX6, "addChild", "()I"⟩
abbrev cX6_removeChild : ByteArray := prog_8_method_4_code
def yX6_removeChild : MethodName := ⟨RX6, "removeChild", "(I)I"⟩
abbrev cX6_mayGoIn : ByteArray := prog_8_method_5_code
def yX6_mayGoIn : MethodName := ⟨RX6, "mayGoIn", "(I)Z"⟩
abbrev cX6_goIn : ByteArray := prog_8_method_6_code
def yX6_goIn : MethodName := ⟨RX6, "goIn", "(I)I"⟩
abbrev cX6_mayLieDown : ByteArray := prog_8_method_7_code
def yX6_mayLieDown : MethodName := ⟨RX6, "mayLieDown", "(I)Z"⟩
abbrev cX6_lieDown : ByteArray := prog_8_method_8_code
def yX6_lieDown : MethodName := ⟨RX6, "lieDown", "(I)I"⟩
abbrev cX6_mayStrike : ByteArray := prog_8_method_9_code
def yX6_mayStrike : MethodName := ⟨RX6, "mayStrike", "()Z"⟩
abbrev cX6_strike : ByteArray := prog_8_method_10_code
def yX6_strike : MethodName := ⟨RX6, "strike", "()I"⟩
abbrev cX6_maySprout : ByteArray := prog_8_method_11_code
def yX6_maySprout : MethodName := ⟨RX6, "maySprout", "(I)Z"⟩
abbrev cX6_mayWrite : ByteArray := prog_8_method_12_code
def yX6_mayWrite : MethodName := ⟨RX6, "mayWrite", "(III)Z"⟩
abbrev cX6_write : ByteArray := prog_8_method_13_code
def yX6_write : MethodName := ⟨RX6, "write", "(III)I"⟩
abbrev cX6_mayFasten : ByteArray := prog_8_method_14_code
def yX6_mayFasten : MethodName := ⟨RX6, "mayFasten", "(II)Z"⟩
abbrev cX6_fasten : ByteArray := prog_8_method_15_code
def yX6_fasten : MethodName := ⟨RX6, "fasten", "(II)I"⟩
abbrev cX6_mayRelease : ByteArray := prog_8_method_16_code
def yX6_mayRelease : MethodName := ⟨RX6, "mayRelease", "(II)Z"⟩
abbrev cX6_release : ByteArray := prog_8_method_17_code
def yX6_release : MethodName := ⟨RX6, "release", "(II)I"⟩
abbrev cX6_lookThrough : ByteArray := prog_8_method_18_code
def yX6_lookThrough : MethodName := ⟨RX6, "lookThrough", "(II)I"⟩
abbrev cX6_mayTakeOff : ByteArray := prog_8_method_19_code
def yX6_mayTakeOff : MethodName := ⟨RX6, "mayTakeOff", "(II)Z"⟩
abbrev cX6_takeOff : ByteArray := prog_8_method_20_code
def yX6_takeOff : MethodName := ⟨RX6, "takeOff", "(II)I"⟩
abbrev cX6_mayExchange : ByteArray := prog_8_method_21_code
def yX6_mayExchange : MethodName := ⟨RX6, "mayExchange", "(II)Z"⟩
abbrev cX6_exchange : ByteArray := prog_8_method_22_code
def yX6_exchange : MethodName := ⟨RX6, "exchange", "(III)I"⟩
abbrev cX6_mayClear : ByteArray := prog_8_method_23_code
def yX6_mayClear : MethodName := ⟨RX6, "mayClear", "(I)Z"⟩
abbrev cX6_clear : ByteArray := prog_8_method_24_code
def yX6_clear : MethodName := ⟨RX6, "clear", "(I)I"⟩
abbrev cX6_valueOf : ByteArray := prog_8_method_25_code
def yX6_valueOf : MethodName := ⟨RX6, "valueOf", "(I)I"⟩
abbrev cX6_change : ByteArray := prog_8_method_26_code
def yX6_change : MethodName := ⟨RX6, "change", "(II)I"⟩
abbrev cX6_mayBurn : ByteArray := prog_8_method_27_code
def yX6_mayBurn : MethodName := ⟨RX6, "mayBurn", "(III)Z"⟩
abbrev cX6_burnable : ByteArray := prog_8_method_28_code
def yX6_burnable : MethodName := ⟨RX6, "burnable", "(III)I"⟩
abbrev cX6_burnableIfRested : ByteArray := prog_8_method_29_code
def yX6_burnableIfRested : MethodName := ⟨RX6, "burnableIfRested", "(I)I"⟩
abbrev cX6_burnableIfAllRested : ByteArray := prog_8_method_30_code
def yX6_burnableIfAllRested : MethodName := ⟨RX6, "burnableIfAllRested", "()I"⟩
abbrev cX6_bestHeap : ByteArray := prog_8_method_31_code
def yX6_bestHeap : MethodName := ⟨RX6, "bestHeap", "()I"⟩
abbrev cX6_freedBy : ByteArray := prog_8_method_32_code
def yX6_freedBy : MethodName := ⟨RX6, "freedBy", "(II)I"⟩
abbrev cX6_mostPinned : ByteArray := prog_8_method_33_code
def yX6_mostPinned : MethodName := ⟨RX6, "mostPinned", "()I"⟩
abbrev cX6_whyNotBurnt : ByteArray := prog_8_method_34_code
def yX6_whyNotBurnt : MethodName := ⟨RX6, "whyNotBurnt", "(I)I"⟩
abbrev cX6_numberOfLeaf : ByteArray := prog_8_method_35_code
def yX6_numberOfLeaf : MethodName := ⟨RX6, "numberOfLeaf", "(II)I"⟩
abbrev cX6_numberOfChild : ByteArray := prog_8_method_36_code
def yX6_numberOfChild : MethodName := ⟨RX6, "numberOfChild", "(II)I"⟩
abbrev cX6_numberOfAll : ByteArray := prog_8_method_37_code
def yX6_numberOfAll : MethodName := ⟨RX6, "numberOfAll", "(I)I"⟩
def RX7 : String := "PinnedLeaves"
def TX7 : u_T := fun k => match k with
  | 0 => ("PinnedLeaves", "yard", "LPinnedLeaves$Yard;", true)
  | 1 => ("PinnedLeaves", "snapshot", "LPinnedLeaves$Yard;", true)
  | 2 => ("PinnedLeaves", "saved", "LPinnedLeaves$SavedYards;", true)
  | 3 => ("PinnedLeaves", "text", "LPinnedLeaves$OrderText;", true)
  | _ => ("PinnedLeaves", "hasSnapshot", "Z", false)
def tyX7 : Nat → FieldType := fun k => match k with
  | 0 => .object "PinnedLeaves$Yard"
  | 1 => .object "PinnedLeaves$Yard"
  | 2 => .object "PinnedLeaves$SavedYards"
  | 3 => .object "PinnedLeaves$OrderText"
  | _ => .boolean
abbrev wsX70 : List Cond := u_ws RX7 TX7 5
theorem nmX7 : ∀ a, a < 5 → ∀ b, b < 5 → a ≠ b → (TX7 a).2.1 ≠ (TX7 b).2.1 := by decide +kernel
theorem tyX7_ok : ∀ k, k < 5 → parseFieldDescriptor (TX7 k).2.2.1 = some (tyX7 k) := by decide +kernel
abbrev cX7_init : ByteArray := prog_1_method_1_code
def yX7_init : MethodName := ⟨RX7, "<init>", "()V"⟩
abbrev cX7_come : ByteArray := prog_1_method_2_code
def yX7_come : MethodName := ⟨RX7, "come", "()I"⟩
abbrev cX7_leave : ByteArray := prog_1_method_3_code
def yX7_leave : MethodName := ⟨RX7, "leave", "(I)I"⟩
abbrev cX7_enter : ByteArray := prog_1_method_4_code
def yX7_enter : MethodName := ⟨RX7, "enter", "(I)I"⟩
abbrev cX7_rest : ByteArray := prog_1_method_5_code
def yX7_rest : MethodName := ⟨RX7, "rest", "(I)I"⟩
abbrev cX7_ring : ByteArray := prog_1_method_6_code
def yX7_ring : MethodName := ⟨RX7, "ring", "()I"⟩
abbrev cX7_grow : ByteArray := prog_1_method_7_code
def yX7_grow : MethodName := ⟨RX7, "grow", "(II)I"⟩
abbrev cX7_note : ByteArray := prog_1_method_8_code
def yX7_note : MethodName := ⟨RX7, "note", "(III)I"⟩
abbrev cX7_pin : ByteArray := prog_1_method_9_code
def yX7_pin : MethodName := ⟨RX7, "pin", "(II)I"⟩
abbrev cX7_loosen : ByteArray := prog_1_method_10_code
def yX7_loosen : MethodName := ⟨RX7, "loosen", "(II)I"⟩
abbrev cX7_look : ByteArray := prog_1_method_11_code
def yX7_look : MethodName := ⟨RX7, "look", "(II)I"⟩
abbrev cX7_take : ByteArray := prog_1_method_12_code
def yX7_take : MethodName := ⟨RX7, "take", "(II)I"⟩
abbrev cX7_swap : ByteArray := prog_1_method_13_code
def yX7_swap : MethodName := ⟨RX7, "swap", "(III)I"⟩
abbrev cX7_rake : ByteArray := prog_1_method_14_code
def yX7_rake : MethodName := ⟨RX7, "rake", "(I)I"⟩
abbrev cX7_set : ByteArray := prog_1_method_15_code
def yX7_set : MethodName := ⟨RX7, "set", "(II)I"⟩
abbrev cX7_append : ByteArray := prog_1_method_16_code
def yX7_append : MethodName := ⟨RX7, "append", "(I)I"⟩
abbrev cX7_clearBuffer : ByteArray := prog_1_method_17_code
def yX7_clearBuffer : MethodName := ⟨RX7, "clearBuffer", "()I"⟩
abbrev cX7_firstError : ByteArray := prog_1_method_18_code
def yX7_firstError : MethodName := ⟨RX7, "firstError", "()I"⟩
abbrev cX7_obey : ByteArray := prog_1_method_19_code
def yX7_obey : MethodName := ⟨RX7, "obey", "()I"⟩
abbrev cX7_keep : ByteArray := prog_1_method_20_code
def yX7_keep : MethodName := ⟨RX7, "keep", "()I"⟩
abbrev cX7_goBack : ByteArray := prog_1_method_21_code
def yX7_goBack : MethodName := ⟨RX7, "goBack", "()I"⟩
abbrev cX7_undo : ByteArray := prog_1_method_22_code
def yX7_undo : MethodName := ⟨RX7, "undo", "()I"⟩
abbrev cX7_branch : ByteArray := prog_1_method_23_code
def yX7_branch : MethodName := ⟨RX7, "branch", "(I)I"⟩
abbrev cX7_leaf : ByteArray := prog_1_method_24_code
def yX7_leaf : MethodName := ⟨RX7, "leaf", "(II)I"⟩
abbrev cX7_child : ByteArray := prog_1_method_25_code
def yX7_child : MethodName := ⟨RX7, "child", "(II)I"⟩
abbrev cX7_hook : ByteArray := prog_1_method_26_code
def yX7_hook : MethodName := ⟨RX7, "hook", "(III)I"⟩
abbrev cX7_heap : ByteArray := prog_1_method_27_code
def yX7_heap : MethodName := ⟨RX7, "heap", "(II)I"⟩
abbrev cX7_count : ByteArray := prog_1_method_28_code
def yX7_count : MethodName := ⟨RX7, "count", "(I)I"⟩
abbrev cX7_setting : ByteArray := prog_1_method_29_code
def yX7_setting : MethodName := ⟨RX7, "setting", "(I)I"⟩
abbrev cX7_why : ByteArray := prog_1_method_30_code
def yX7_why : MethodName := ⟨RX7, "why", "(I)I"⟩
abbrev cX7_ifRaked : ByteArray := prog_1_method_31_code
def yX7_ifRaked : MethodName := ⟨RX7, "ifRaked", "(II)I"⟩
abbrev cX7_bestRake : ByteArray := prog_1_method_32_code
def yX7_bestRake : MethodName := ⟨RX7, "bestRake", "()I"⟩
abbrev cX7_ifLoosened : ByteArray := prog_1_method_33_code
def yX7_ifLoosened : MethodName := ⟨RX7, "ifLoosened", "(II)I"⟩
abbrev cX7_late : ByteArray := prog_1_method_34_code
def yX7_late : MethodName := ⟨RX7, "late", "()I"⟩
abbrev cX7_ifRested : ByteArray := prog_1_method_35_code
def yX7_ifRested : MethodName := ⟨RX7, "ifRested", "(I)I"⟩
abbrev cX7_ifAllRested : ByteArray := prog_1_method_36_code
def yX7_ifAllRested : MethodName := ⟨RX7, "ifAllRested", "()I"⟩
abbrev cX7_mostHeld : ByteArray := prog_1_method_37_code
def yX7_mostHeld : MethodName := ⟨RX7, "mostHeld", "()I"⟩
abbrev cX7_burntShare : ByteArray := prog_1_method_38_code
def yX7_burntShare : MethodName := ⟨RX7, "burntShare", "()D"⟩
abbrev cX7_fullness : ByteArray := prog_1_method_39_code
def yX7_fullness : MethodName := ⟨RX7, "fullness", "()F"⟩
abbrev cX7_digest : ByteArray := prog_1_method_40_code
def yX7_digest : MethodName := ⟨RX7, "digest", "()J"⟩
abbrev cX7_needChild : ByteArray := prog_1_method_41_code
def yX7_needChild : MethodName := ⟨RX7, "needChild", "(I)V"⟩
abbrev cX7_needHook : ByteArray := prog_1_method_42_code
def yX7_needHook : MethodName := ⟨RX7, "needHook", "(II)V"⟩
abbrev cX7_needLeaf : ByteArray := prog_1_method_43_code
def yX7_needLeaf : MethodName := ⟨RX7, "needLeaf", "(I)V"⟩
abbrev cX7_needBranch : ByteArray := prog_1_method_44_code
def yX7_needBranch : MethodName := ⟨RX7, "needBranch", "(I)V"⟩
abbrev cX7_needSetting : ByteArray := prog_1_method_45_code
def yX7_needSetting : MethodName := ⟨RX7, "needSetting", "(I)V"⟩
abbrev cX7_needColour : ByteArray := prog_1_method_46_code
def yX7_needColour : MethodName := ⟨RX7, "needColour", "(I)V"⟩
abbrev cX7_needWhat : ByteArray := prog_1_method_47_code
def yX7_needWhat : MethodName := ⟨RX7, "needWhat", "(II)V"⟩
abbrev cX7_isValueOf : ByteArray := prog_1_method_48_code
def yX7_isValueOf : MethodName := ⟨RX7, "isValueOf", "(II)Z"⟩
abbrev cX7_carryOut : ByteArray := prog_1_method_49_code
def yX7_carryOut : MethodName := ⟨RX7, "carryOut", "(I)I"⟩
abbrev cX7_counted : ByteArray := prog_1_method_50_code
def yX7_counted : MethodName := ⟨RX7, "counted", "(I)I"⟩
abbrev cX7_mixed : ByteArray := prog_1_method_51_code
def yX7_mixed : MethodName := ⟨RX7, "mixed", "(JJ)J"⟩
abbrev cX7_mixedLeaf : ByteArray := prog_1_method_52_code
def yX7_mixedLeaf : MethodName := ⟨RX7, "mixedLeaf", "(JI)J"⟩
abbrev cX7_mixedChild : ByteArray := prog_1_method_53_code
def yX7_mixedChild : MethodName := ⟨RX7, "mixedChild", "(JI)J"⟩
abbrev cX7_mixedText : ByteArray := prog_1_method_54_code
def yX7_mixedText : MethodName := ⟨RX7, "mixedText", "(J)J"⟩
abbrev cX7_bitsOf : ByteArray := prog_1_method_55_code
def yX7_bitsOf : MethodName := ⟨RX7, "bitsOf", "(DII)J"⟩
def RX8 : String := "PinnedLeavesModel"
def TX8 : u_T := fun k => match k with
  | 0 => ("PinnedLeavesModel", "thrown", "I", false)
  | 1 => ("PinnedLeavesModel", "z", "[I", true)
  | 2 => ("PinnedLeavesModel", "saved", "[I", true)
  | 3 => ("PinnedLeavesModel", "saves", "I", false)
  | 4 => ("PinnedLeavesModel", "kept", "[I", true)
  | 5 => ("PinnedLeavesModel", "isKept", "Z", false)
  | 6 => ("PinnedLeavesModel", "text", "[I", true)
  | 7 => ("PinnedLeavesModel", "length", "I", false)
  | 8 => ("PinnedLeavesModel", "letter", "I", false)
  | 9 => ("PinnedLeavesModel", "given", "[I", true)
  | _ => ("PinnedLeavesModel", "isComplete", "Z", false)
def tyX8 : Nat → FieldType := fun k => match k with
  | 0 => .int
  | 1 => .array .int
  | 2 => .array .int
  | 3 => .int
  | 4 => .array .int
  | 5 => .boolean
  | 6 => .array .int
  | 7 => .int
  | 8 => .int
  | 9 => .array .int
  | _ => .boolean
abbrev wsX80 : List Cond := u_ws RX8 TX8 11
theorem nmX8 : ∀ a, a < 11 → ∀ b, b < 11 → a ≠ b → (TX8 a).2.1 ≠ (TX8 b).2.1 := by decide +kernel
theorem tyX8_ok : ∀ k, k < 11 → parseFieldDescriptor (TX8 k).2.2.1 = some (tyX8 k) := by decide +kernel
abbrev cX8_init : ByteArray := prog_10_method_1_code
def yX8_init : MethodName := ⟨RX8, "<init>", "()V"⟩
abbrev cX8_thrown : ByteArray := prog_10_method_2_code
def yX8_thrown : MethodName := ⟨RX8, "thrown", "()I"⟩
abbrev cX8_in : ByteArray := prog_10_method_3_code
def yX8_in : MethodName := ⟨RX8, "in", "(III)Z"⟩
abbrev cX8_of : ByteArray := prog_10_method_4_code
def yX8_of : MethodName := ⟨RX8, "of", "(II)I"⟩
abbrev cX8_setLeaf : ByteArray := prog_10_method_5_code
def yX8_setLeaf : MethodName := ⟨RX8, "setLeaf", "(III)V"⟩
abbrev cX8_ofChild : ByteArray := prog_10_method_6_code
def yX8_ofChild : MethodName := ⟨RX8, "ofChild", "(II)I"⟩
abbrev cX8_setChild : ByteArray := prog_10_method_7_code
def yX8_setChild : MethodName := ⟨RX8, "setChild", "(III)V"⟩
abbrev cX8_ofHook : ByteArray := prog_10_method_8_code
def yX8_ofHook : MethodName := ⟨RX8, "ofHook", "(III)I"⟩
abbrev cX8_setHook : ByteArray := prog_10_method_9_code
def yX8_setHook : MethodName := ⟨RX8, "setHook", "(IIIII)V"⟩
abbrev cX8_emptyHooks : ByteArray := prog_10_method_10_code
def yX8_emptyHooks : MethodName := ⟨RX8, "emptyHooks", "(I)V"⟩
abbrev cX8_clearChild : ByteArray := prog_10_method_11_code
def yX8_clearChild : MethodName := ⟨RX8, "clearChild", "(I)V"⟩
abbrev cX8_isChild : ByteArray := prog_10_method_12_code
def yX8_isChild : MethodName := ⟨RX8, "isChild", "(I)Z"⟩
abbrev cX8_isHook : ByteArray := prog_10_method_13_code
def yX8_isHook : MethodName := ⟨RX8, "isHook", "(I)Z"⟩
abbrev cX8_isBranch : ByteArray := prog_10_method_14_code
def yX8_isBranch : MethodName := ⟨RX8, "isBranch", "(I)Z"⟩
abbrev cX8_isColour : ByteArray := prog_10_method_15_code
def yX8_isColour : MethodName := ⟨RX8, "isColour", "(I)Z"⟩
abbrev cX8_isLeaf : ByteArray := prog_10_method_16_code
def yX8_isLeaf : MethodName := ⟨RX8, "isLeaf", "(I)Z"⟩
abbrev cX8_isInYard : ByteArray := prog_10_method_17_code
def yX8_isInYard : MethodName := ⟨RX8, "isInYard", "(I)Z"⟩
abbrev cX8_children : ByteArray := prog_10_method_18_code
def yX8_children : MethodName := ⟨RX8, "children", "()I"⟩
abbrev cX8_hooksOf : ByteArray := prog_10_method_19_code
def yX8_hooksOf : MethodName := ⟨RX8, "hooksOf", "(II)I"⟩
abbrev cX8_hooksOn : ByteArray := prog_10_method_20_code
def yX8_hooksOn : MethodName := ⟨RX8, "hooksOn", "(II)I"⟩
abbrev cX8_holders : ByteArray := prog_10_method_21_code
def yX8_holders : MethodName := ⟨RX8, "holders", "(II)I"⟩
abbrev cX8_leavesAt : ByteArray := prog_10_method_22_code
def yX8_leavesAt : MethodName := ⟨RX8, "leavesAt", "(I)I"⟩
abbrev cX8_isOnHeap : ByteArray := prog_10_method_23_code
def yX8_isOnHeap : MethodName := ⟨RX8, "isOnHeap", "(II)Z"⟩
abbrev cX8_heapOf : ByteArray := prog_10_method_24_code
def yX8_heapOf : MethodName := ⟨RX8, "heapOf", "(I)I"⟩
abbrev cX8_onHeap : ByteArray := prog_10_method_25_code
def yX8_onHeap : MethodName := ⟨RX8, "onHeap", "(II)I"⟩
abbrev cX8_putOnHeap : ByteArray := prog_10_method_26_code
def yX8_putOnHeap : MethodName := ⟨RX8, "putOnHeap", "(II)V"⟩
abbrev cX8_mayBurn : ByteArray := prog_10_method_27_code
def yX8_mayBurn : MethodName := ⟨RX8, "mayBurn", "(II)Z"⟩
abbrev cX8_burnable : ByteArray := prog_10_method_28_code
def yX8_burnable : MethodName := ⟨RX8, "burnable", "(II)I"⟩
abbrev cX8_record : ByteArray := prog_10_method_29_code
def yX8_record : MethodName := ⟨RX8, "record", "()V"⟩
abbrev cX8_undo : ByteArray := prog_10_method_30_code
def yX8_undo : MethodName := ⟨RX8, "undo", "()I"⟩
abbrev cX8_keep : ByteArray := prog_10_method_31_code
def yX8_keep : MethodName := ⟨RX8, "keep", "()I"⟩
abbrev cX8_goBack : ByteArray := prog_10_method_32_code
def yX8_goBack : MethodName := ⟨RX8, "goBack", "()I"⟩
abbrev cX8_come : ByteArray := prog_10_method_33_code
def yX8_come : MethodName := ⟨RX8, "come", "()I"⟩
abbrev cX8_leave : ByteArray := prog_10_method_34_code
def yX8_leave : MethodName := ⟨RX8, "leave", "(I)I"⟩
abbrev cX8_whyNotEnter : ByteArray := prog_10_method_35_code
def yX8_whyNotEnter : MethodName := ⟨RX8, "whyNotEnter", "(I)I"⟩
abbrev cX8_doEnter : ByteArray := prog_10_method_36_code
def yX8_doEnter : MethodName := ⟨RX8, "doEnter", "(I)I"⟩
abbrev cX8_enter : ByteArray := prog_10_method_37_code
def yX8_enter : MethodName := ⟨RX8, "enter", "(I)I"⟩
abbrev cX8_whyNotRest : ByteArray := prog_10_method_38_code
def yX8_whyNotRest : MethodName := ⟨RX8, "whyNotRest", "(I)I"⟩
abbrev cX8_doRest : ByteArray := prog_10_method_39_code
def yX8_doRest : MethodName := ⟨RX8, "doRest", "(I)I"⟩
abbrev cX8_rest : ByteArray := prog_10_method_40_code
def yX8_rest : MethodName := ⟨RX8, "rest", "(I)I"⟩
abbrev cX8_lateOnes : ByteArray := prog_10_method_41_code
def yX8_lateOnes : MethodName := ⟨RX8, "lateOnes", "()I"⟩
abbrev cX8_doRing : ByteArray := prog_10_method_42_code
def yX8_doRing : MethodName := ⟨RX8, "doRing", "()I"⟩
abbrev cX8_ring : ByteArray := prog_10_method_43_code
def yX8_ring : MethodName := ⟨RX8, "ring", "()I"⟩
abbrev cX8_whyNotGrow : ByteArray := prog_10_method_44_code
def yX8_whyNotGrow : MethodName := ⟨RX8, "whyNotGrow", "(II)I"⟩
abbrev cX8_doGrow : ByteArray := prog_10_method_45_code
def yX8_doGrow : MethodName := ⟨RX8, "doGrow", "(II)I"⟩
abbrev cX8_grow : ByteArray := prog_10_method_46_code
def yX8_grow : MethodName := ⟨RX8, "grow", "(II)I"⟩
abbrev cX8_whyNotNote : ByteArray := prog_10_method_47_code
def yX8_whyNotNote : MethodName := ⟨RX8, "whyNotNote", "(III)I"⟩
abbrev cX8_doNote : ByteArray := prog_10_method_48_code
def yX8_doNote : MethodName := ⟨RX8, "doNote", "(III)I"⟩
abbrev cX8_note : ByteArray := prog_10_method_49_code
def yX8_note : MethodName := ⟨RX8, "note", "(III)I"⟩
abbrev cX8_whyNotPin : ByteArray := prog_10_method_50_code
def yX8_whyNotPin : MethodName := ⟨RX8, "whyNotPin", "(II)I"⟩
abbrev cX8_doPin : ByteArray := prog_10_method_51_code
def yX8_doPin : MethodName := ⟨RX8, "doPin", "(II)I"⟩
abbrev cX8_pin : ByteArray := prog_10_method_52_code
def yX8_pin : MethodName := ⟨RX8, "pin", "(II)I"⟩
abbrev cX8_whyNotUse : ByteArray := prog_10_method_53_code
def yX8_whyNotUse : MethodName := ⟨RX8, "whyNotUse", "(II)I"⟩
abbrev cX8_doLoosen : ByteArray := prog_10_method_54_code
def yX8_doLoosen : MethodName := ⟨RX8, "doLoosen", "(II)I"⟩
abbrev cX8_loosen : ByteArray := prog_10_method_55_code
def yX8_loosen : MethodName := ⟨RX8, "loosen", "(II)I"⟩
abbrev cX8_look : ByteArray := prog_10_method_56_code
def yX8_look : MethodName := ⟨RX8, "look", "(II)I"⟩
abbrev cX8_doRake : ByteArray := prog_10_method_57_code
def yX8_doRake : MethodName := ⟨RX8, "doRake", "(I)I"⟩
abbrev cX8_whyNotTake : ByteArray := prog_10_method_58_code
def yX8_whyNotTake : MethodName := ⟨RX8, "whyNotTake", "(II)I"⟩
abbrev cX8_doTake : ByteArray := prog_10_method_59_code
def yX8_doTake : MethodName := ⟨RX8, "doTake", "(II)I"⟩
abbrev cX8_take : ByteArray := prog_10_method_60_code
def yX8_take : MethodName := ⟨RX8, "take", "(II)I"⟩
abbrev cX8_whyNotSwap : ByteArray := prog_10_method_61_code
def yX8_whyNotSwap : MethodName := ⟨RX8, "whyNotSwap", "(III)I"⟩
abbrev cX8_doSwap : ByteArray := prog_10_method_62_code
def yX8_doSwap : MethodName := ⟨RX8, "doSwap", "(III)I"⟩
abbrev cX8_swap : ByteArray := prog_10_method_63_code
def yX8_swap : MethodName := ⟨RX8, "swap", "(III)I"⟩
abbrev cX8_whyNotRake : ByteArray := prog_10_method_64_code
def yX8_whyNotRake : MethodName := ⟨RX8, "whyNotRake", "(I)I"⟩
abbrev cX8_rake : ByteArray := prog_10_method_65_code
def yX8_rake : MethodName := ⟨RX8, "rake", "(I)I"⟩
abbrev cX8_set : ByteArray := prog_10_method_66_code
def yX8_set : MethodName := ⟨RX8, "set", "(II)I"⟩
abbrev cX8_append : ByteArray := prog_10_method_67_code
def yX8_append : MethodName := ⟨RX8, "append", "(I)I"⟩
abbrev cX8_clearBuffer : ByteArray := prog_10_method_68_code
def yX8_clearBuffer : MethodName := ⟨RX8, "clearBuffer", "()I"⟩
abbrev cX8_shapeOf : ByteArray := prog_10_method_69_code
def yX8_shapeOf : MethodName := ⟨RX8, "shapeOf", "(I)I"⟩
abbrev cX8_valueOf : ByteArray := prog_10_method_70_code
def yX8_valueOf : MethodName := ⟨RX8, "valueOf", "(II)I"⟩
abbrev cX8_readOrder : ByteArray := prog_10_method_71_code
def yX8_readOrder : MethodName := ⟨RX8, "readOrder", "(I)I"⟩
abbrev cX8_findError : ByteArray := prog_10_method_72_code
def yX8_findError : MethodName := ⟨RX8, "findError", "()I"⟩
abbrev cX8_firstError : ByteArray := prog_10_method_73_code
def yX8_firstError : MethodName := ⟨RX8, "firstError", "()I"⟩
abbrev cX8_canDo : ByteArray := prog_10_method_74_code
def yX8_canDo : MethodName := ⟨RX8, "canDo", "()Z"⟩
abbrev cX8_doOrder : ByteArray := prog_10_method_75_code
def yX8_doOrder : MethodName := ⟨RX8, "doOrder", "()I"⟩
abbrev cX8_obey : ByteArray := prog_10_method_76_code
def yX8_obey : MethodName := ⟨RX8, "obey", "()I"⟩
abbrev cX8_branch : ByteArray := prog_10_method_77_code
def yX8_branch : MethodName := ⟨RX8, "branch", "(I)I"⟩
abbrev cX8_leafNow : ByteArray := prog_10_method_78_code
def yX8_leafNow : MethodName := ⟨RX8, "leafNow", "(II)I"⟩
abbrev cX8_leaf : ByteArray := prog_10_method_79_code
def yX8_leaf : MethodName := ⟨RX8, "leaf", "(II)I"⟩
abbrev cX8_childNow : ByteArray := prog_10_method_80_code
def yX8_childNow : MethodName := ⟨RX8, "childNow", "(II)I"⟩
abbrev cX8_child : ByteArray := prog_10_method_81_code
def yX8_child : MethodName := ⟨RX8, "child", "(II)I"⟩
abbrev cX8_hook : ByteArray := prog_10_method_82_code
def yX8_hook : MethodName := ⟨RX8, "hook", "(III)I"⟩
abbrev cX8_heap : ByteArray := prog_10_method_83_code
def yX8_heap : MethodName := ⟨RX8, "heap", "(II)I"⟩
abbrev cX8_countNow : ByteArray := prog_10_method_84_code
def yX8_countNow : MethodName := ⟨RX8, "countNow", "(I)I"⟩
abbrev cX8_count : ByteArray := prog_10_method_85_code
def yX8_count : MethodName := ⟨RX8, "count", "(I)I"⟩
abbrev cX8_setting : ByteArray := prog_10_method_86_code
def yX8_setting : MethodName := ⟨RX8, "setting", "(I)I"⟩
abbrev cX8_whyNot : ByteArray := prog_10_method_87_code
def yX8_whyNot : MethodName := ⟨RX8, "whyNot", "(I)I"⟩
abbrev cX8_why : ByteArray := prog_10_method_88_code
def yX8_why : MethodName := ⟨RX8, "why", "(I)I"⟩
abbrev cX8_ifRaked : ByteArray := prog_10_method_89_code
def yX8_ifRaked : MethodName := ⟨RX8, "ifRaked", "(II)I"⟩
abbrev cX8_findBestRake : ByteArray := prog_10_method_90_code
def yX8_findBestRake : MethodName := ⟨RX8, "findBestRake", "()I"⟩
abbrev cX8_bestRake : ByteArray := prog_10_method_91_code
def yX8_bestRake : MethodName := ⟨RX8, "bestRake", "()I"⟩
abbrev cX8_freedBy : ByteArray := prog_10_method_92_code
def yX8_freedBy : MethodName := ⟨RX8, "freedBy", "(II)I"⟩
abbrev cX8_ifLoosened : ByteArray := prog_10_method_93_code
def yX8_ifLoosened : MethodName := ⟨RX8, "ifLoosened", "(II)I"⟩
abbrev cX8_late : ByteArray := prog_10_method_94_code
def yX8_late : MethodName := ⟨RX8, "late", "()I"⟩
abbrev cX8_burnableWithout : ByteArray := prog_10_method_95_code
def yX8_burnableWithout : MethodName := ⟨RX8, "burnableWithout", "(I)I"⟩
abbrev cX8_ifRested : ByteArray := prog_10_method_96_code
def yX8_ifRested : MethodName := ⟨RX8, "ifRested", "(I)I"⟩
abbrev cX8_ifAllRested : ByteArray := prog_10_method_97_code
def yX8_ifAllRested : MethodName := ⟨RX8, "ifAllRested", "()I"⟩
abbrev cX8_findMostHeld : ByteArray := prog_10_method_98_code
def yX8_findMostHeld : MethodName := ⟨RX8, "findMostHeld", "()I"⟩
abbrev cX8_mostHeld : ByteArray := prog_10_method_99_code
def yX8_mostHeld : MethodName := ⟨RX8, "mostHeld", "()I"⟩
abbrev cX8_shareOfBurnt : ByteArray := prog_10_method_100_code
def yX8_shareOfBurnt : MethodName := ⟨RX8, "shareOfBurnt", "()D"⟩
abbrev cX8_burntShare : ByteArray := prog_10_method_101_code
def yX8_burntShare : MethodName := ⟨RX8, "burntShare", "()D"⟩
abbrev cX8_fullnessNow : ByteArray := prog_10_method_102_code
def yX8_fullnessNow : MethodName := ⟨RX8, "fullnessNow", "()F"⟩
abbrev cX8_fullness : ByteArray := prog_10_method_103_code
def yX8_fullness : MethodName := ⟨RX8, "fullness", "()F"⟩
abbrev cX8_digest : ByteArray := prog_10_method_104_code
def yX8_digest : MethodName := ⟨RX8, "digest", "()J"⟩
abbrev cX8_digestOf : ByteArray := prog_10_method_105_code
def yX8_digestOf : MethodName := ⟨RX8, "digestOf", "(IJ)J"⟩
def RJxe99ae : String := "java/lang/Double"
def TJxe99ae : u_T := fun k => match k with
  | _ => ("", "", "", false)
def tyJxe99ae : Nat → FieldType := fun k => match k with
  | _ => .int
abbrev wsJxe99ae0 : List Cond := u_ws RJxe99ae TJxe99ae 0
theorem nmJxe99ae : ∀ a, a < 0 → ∀ b, b < 0 → a ≠ b → (TJxe99ae a).2.1 ≠ (TJxe99ae b).2.1 := by decide +kernel
theorem tyJxe99ae_ok : ∀ k, k < 0 → parseFieldDescriptor (TJxe99ae k).2.2.1 = some (tyJxe99ae k) := by decide +kernel
abbrev cJxe99ae_isNaN_b9ae7 : ByteArray := prog_11_method_6_code
def yJxe99ae_isNaN_b9ae7 : MethodName := ⟨RJxe99ae, "isNaN", "(D)Z"⟩
abbrev cJxe99ae_doubleToLongBits_ccdee : ByteArray := prog_11_method_23_code
def yJxe99ae_doubleToLongBits_ccdee : MethodName := ⟨RJxe99ae, "doubleToLongBits", "(D)J"⟩
def RJxf58ca : String := "java/lang/Float"
def TJxf58ca : u_T := fun k => match k with
  | _ => ("", "", "", false)
def tyJxf58ca : Nat → FieldType := fun k => match k with
  | _ => .int
abbrev wsJxf58ca0 : List Cond := u_ws RJxf58ca TJxf58ca 0
theorem nmJxf58ca : ∀ a, a < 0 → ∀ b, b < 0 → a ≠ b → (TJxf58ca a).2.1 ≠ (TJxf58ca b).2.1 := by decide +kernel
theorem tyJxf58ca_ok : ∀ k, k < 0 → parseFieldDescriptor (TJxf58ca k).2.2.1 = some (tyJxf58ca k) := by decide +kernel
abbrev cJxf58ca_isNaN_12338 : ByteArray := prog_13_method_6_code
def yJxf58ca_isNaN_12338 : MethodName := ⟨RJxf58ca, "isNaN", "(F)Z"⟩
abbrev cJxf58ca_floatToIntBits_5c35a : ByteArray := prog_13_method_24_code
def yJxf58ca_floatToIntBits_5c35a : MethodName := ⟨RJxf58ca, "floatToIntBits", "(F)I"⟩
def RJ9 : String := "java/lang/Math"
def TJ9 : u_T := fun k => match k with
  | _ => ("", "", "", false)
def tyJ9 : Nat → FieldType := fun k => match k with
  | _ => .int
abbrev wsJ90 : List Cond := u_ws RJ9 TJ9 0
theorem nmJ9 : ∀ a, a < 0 → ∀ b, b < 0 → a ≠ b → (TJ9 a).2.1 ≠ (TJ9 b).2.1 := by decide +kernel
theorem tyJ9_ok : ∀ k, k < 0 → parseFieldDescriptor (TJ9 k).2.2.1 = some (tyJ9 k) := by decide +kernel
abbrev cJ9_max_7cf53 : ByteArray := prog_17_method_65_code
def yJ9_max_7cf53 : MethodName := ⟨RJ9, "max", "(II)I"⟩
abbrev cJ9_min_7cf53 : ByteArray := prog_17_method_69_code
def yJ9_min_7cf53 : MethodName := ⟨RJ9, "min", "(II)I"⟩
def RJ0 : String := "java/lang/String"
def TJ0 : u_T := fun k => match k with
  | _ => ("", "", "", false)
def tyJ0 : Nat → FieldType := fun k => match k with
  | _ => .int
abbrev wsJ00 : List Cond := u_ws RJ0 TJ0 0
theorem nmJ0 : ∀ a, a < 0 → ∀ b, b < 0 → a ≠ b → (TJ0 a).2.1 ≠ (TJ0 b).2.1 := by decide +kernel
theorem tyJ0_ok : ∀ k, k < 0 → parseFieldDescriptor (TJ0 k).2.2.1 = some (tyJ0 k) := by decide +kernel
def RJ10 : String := "java/lang/System"
def TJ10 : u_T := fun k => match k with
  | _ => ("", "", "", false)
def tyJ10 : Nat → FieldType := fun k => match k with
  | _ => .int
abbrev wsJ100 : List Cond := u_ws RJ10 TJ10 0
theorem nmJ10 : ∀ a, a < 0 → ∀ b, b < 0 → a ≠ b → (TJ10 a).2.1 ≠ (TJ10 b).2.1 := by decide +kernel
theorem tyJ10_ok : ∀ k, k < 0 → parseFieldDescriptor (TJ10 k).2.2.1 = some (tyJ10 k) := by decide +kernel
def RL : String := "PinnedLeavesLaw"
abbrev cL_come : ByteArray := method_3_code
def yL_come : MethodName := ⟨RL, "come", "(LPinnedLeaves;[J)I"⟩
abbrev cL_leave : ByteArray := method_4_code
def yL_leave : MethodName := ⟨RL, "leave", "(LPinnedLeaves;I[J)I"⟩
abbrev cL_enter : ByteArray := method_5_code
def yL_enter : MethodName := ⟨RL, "enter", "(LPinnedLeaves;I[J)I"⟩
abbrev cL_rest : ByteArray := method_6_code
def yL_rest : MethodName := ⟨RL, "rest", "(LPinnedLeaves;I[J)I"⟩
abbrev cL_ring : ByteArray := method_7_code
def yL_ring : MethodName := ⟨RL, "ring", "(LPinnedLeaves;[J)I"⟩
abbrev cL_grow : ByteArray := method_8_code
def yL_grow : MethodName := ⟨RL, "grow", "(LPinnedLeaves;II[J)I"⟩
abbrev cL_note : ByteArray := method_9_code
def yL_note : MethodName := ⟨RL, "note", "(LPinnedLeaves;III[J)I"⟩
abbrev cL_pin : ByteArray := method_10_code
def yL_pin : MethodName := ⟨RL, "pin", "(LPinnedLeaves;II[J)I"⟩
abbrev cL_loosen : ByteArray := method_11_code
def yL_loosen : MethodName := ⟨RL, "loosen", "(LPinnedLeaves;II[J)I"⟩
abbrev cL_look : ByteArray := method_12_code
def yL_look : MethodName := ⟨RL, "look", "(LPinnedLeaves;II[J)I"⟩
abbrev cL_take : ByteArray := method_13_code
def yL_take : MethodName := ⟨RL, "take", "(LPinnedLeaves;II[J)I"⟩
abbrev cL_swap : ByteArray := method_14_code
def yL_swap : MethodName := ⟨RL, "swap", "(LPinnedLeaves;III[J)I"⟩
abbrev cL_rake : ByteArray := method_15_code
def yL_rake : MethodName := ⟨RL, "rake", "(LPinnedLeaves;I[J)I"⟩
abbrev cL_set : ByteArray := method_16_code
def yL_set : MethodName := ⟨RL, "set", "(LPinnedLeaves;II[J)I"⟩
abbrev cL_append : ByteArray := method_17_code
def yL_append : MethodName := ⟨RL, "append", "(LPinnedLeaves;I[J)I"⟩
abbrev cL_obey : ByteArray := method_18_code
def yL_obey : MethodName := ⟨RL, "obey", "(LPinnedLeaves;[J)I"⟩
abbrev cL_goBack : ByteArray := method_19_code
def yL_goBack : MethodName := ⟨RL, "goBack", "(LPinnedLeaves;[J)I"⟩
abbrev cL_undo : ByteArray := method_20_code
def yL_undo : MethodName := ⟨RL, "undo", "(LPinnedLeaves;[J)I"⟩
abbrev cL_branch : ByteArray := method_21_code
def yL_branch : MethodName := ⟨RL, "branch", "(LPinnedLeaves;I[J)I"⟩
abbrev cL_leaf : ByteArray := method_22_code
def yL_leaf : MethodName := ⟨RL, "leaf", "(LPinnedLeaves;II[J)I"⟩
abbrev cL_child : ByteArray := method_23_code
def yL_child : MethodName := ⟨RL, "child", "(LPinnedLeaves;II[J)I"⟩
abbrev cL_hook : ByteArray := method_24_code
def yL_hook : MethodName := ⟨RL, "hook", "(LPinnedLeaves;III[J)I"⟩
abbrev cL_heap : ByteArray := method_25_code
def yL_heap : MethodName := ⟨RL, "heap", "(LPinnedLeaves;II[J)I"⟩
abbrev cL_count : ByteArray := method_26_code
def yL_count : MethodName := ⟨RL, "count", "(LPinnedLeaves;I[J)I"⟩
abbrev cL_setting : ByteArray := method_27_code
def yL_setting : MethodName := ⟨RL, "setting", "(LPinnedLeaves;I[J)I"⟩
abbrev cL_why : ByteArray := method_28_code
def yL_why : MethodName := ⟨RL, "why", "(LPinnedLeaves;I[J)I"⟩
abbrev cL_ifRaked : ByteArray := method_29_code
def yL_ifRaked : MethodName := ⟨RL, "ifRaked", "(LPinnedLeaves;II[J)I"⟩
abbrev cL_ifLoosened : ByteArray := method_30_code
def yL_ifLoosened : MethodName := ⟨RL, "ifLoosened", "(LPinnedLeaves;II[J)I"⟩
abbrev cL_ifRested : ByteArray := method_31_code
def yL_ifRested : MethodName := ⟨RL, "ifRested", "(LPinnedLeaves;I[J)I"⟩
abbrev cL_law : ByteArray := code
def yL_law : MethodName := ⟨RL, "law", "([I)Z"⟩
theorem inJxe99ae : ∀ w ∈ wsJxe99ae0, w ∈ lw_tbl := by decide +kernel
theorem inJxf58ca : ∀ w ∈ wsJxf58ca0, w ∈ lw_tbl := by decide +kernel
theorem inJ9 : ∀ w ∈ wsJ90, w ∈ lw_tbl := by decide +kernel
theorem inJ0 : ∀ w ∈ wsJ00, w ∈ lw_tbl := by decide +kernel
theorem inJ10 : ∀ w ∈ wsJ100, w ∈ lw_tbl := by decide +kernel
abbrev vwCl : List vw_C := [(RX0, TX0, 7), (RX1, TX1, 3), (RX2, TX2, 7), (RX3, TX3, 2), (RX4, TX4, 1), (RX5, TX5, 3), (RX6, TX6, 11), (RX7, TX7, 5), (RX8, TX8, 11)]
/-! the words of all methods: the good ones of the tables -/
def gw : List Cond := lw_tbl.filter goodWord
theorem gw_good : GoodIn gw gw := fun w h => ⟨h, good_of_word (List.mem_filter.mp h).2⟩
theorem gw_tbl : ∀ w ∈ gw, w ∈ lw_tbl := fun w h => (List.mem_filter.mp h).1
theorem gw_t {w : Cond} (h : w ∈ tables_1) (g : goodWord w = true) : w ∈ gw := List.mem_filter.mpr ⟨List.mem_append_right _ h, g⟩
theorem gw_p {y : MethodName} {n : Nat} (h : (y, n) ∈ lw_privs) : Cond.selects y.cls y y ∈ gw := List.mem_filter.mpr ⟨List.mem_append_left _ (List.mem_map.mpr ⟨(y, n), h, rfl⟩), rfl⟩
theorem gw_t1 {w : Cond} (h : w ∈ tables_1_1) (g : goodWord w = true) : w ∈ gw := gw_t (List.mem_append_left _ h) g
theorem gw_t2 {w : Cond} (h : w ∈ tables_1_2) (g : goodWord w = true) : w ∈ gw := gw_t (List.mem_append_right _ (List.mem_append_left _ h)) g
theorem gw_t3 {w : Cond} (h : w ∈ tables_1_3) (g : goodWord w = true) : w ∈ gw := gw_t (List.mem_append_right _ (List.mem_append_right _ (List.mem_append_left _ h))) g
theorem gw_t4 {w : Cond} (h : w ∈ tables_1_4) (g : goodWord w = true) : w ∈ gw := gw_t (List.mem_append_right _ (List.mem_append_right _ (List.mem_append_right _ (List.mem_append_left _ h)))) g
theorem gw_t5 {w : Cond} (h : w ∈ tables_1_5) (g : goodWord w = true) : w ∈ gw := gw_t (List.mem_append_right _ (List.mem_append_right _ (List.mem_append_right _ (List.mem_append_right _ (List.mem_append_left _ h))))) g
theorem gw_t6 {w : Cond} (h : w ∈ tables_1_6) (g : goodWord w = true) : w ∈ gw := gw_t (List.mem_append_right _ (List.mem_append_right _ (List.mem_append_right _ (List.mem_append_right _ (List.mem_append_right _ (List.mem_append_left _ h)))))) g
theorem gw_t7 {w : Cond} (h : w ∈ tables_1_7) (g : goodWord w = true) : w ∈ gw := gw_t (List.mem_append_right _ (List.mem_append_right _ (List.mem_append_right _ (List.mem_append_right _ (List.mem_append_right _ (List.mem_append_right _ (h))))))) g
theorem wq0 : Cond.classLink RL 8 RX7 ∈ gw := gw_t1 (List.mem_of_getElem? (i := 20) rfl) rfl
theorem wq1 : Cond.instantiable RX7 5 ∈ gw := gw_t1 (List.mem_of_getElem? (i := 21) rfl) rfl
theorem wq2 : Cond.initialized RX7 ∈ gw := gw_t1 (List.mem_of_getElem? (i := 1) rfl) rfl
theorem wq3 : Cond.classLink RL 107 RX8 ∈ gw := gw_t5 (List.mem_of_getElem? (i := 126) rfl) rfl
theorem wq4 : Cond.instantiable RX8 11 ∈ gw := gw_t5 (List.mem_of_getElem? (i := 127) rfl) rfl
theorem wq5 : Cond.initialized RX8 ∈ gw := gw_t1 (List.mem_of_getElem? (i := 9) rfl) rfl
theorem wq6 : Cond.arrayClass .long ∈ gw := gw_t7 (List.mem_of_getElem? (i := 118) rfl) rfl
theorem wq7 : Cond.methodLink RL 106 yX7_init ∈ gw := gw_t1 (List.mem_of_getElem? (i := 22) rfl) rfl
theorem wq8 : Cond.instanceMethod yX7_init ∈ gw := gw_t1 (List.mem_of_getElem? (i := 23) rfl) rfl
theorem wq9 : Cond.code yX7_init cX7_init 1 none ∈ gw := gw_t1 (List.mem_of_getElem? (i := 24) rfl) rfl
theorem wq10 : Cond.methodLink RX7 1 objectInit ∈ gw := gw_t1 (List.mem_of_getElem? (i := 25) rfl) rfl
theorem wq11 : Cond.instanceMethod objectInit ∈ gw := gw_t1 (List.mem_of_getElem? (i := 26) rfl) rfl
theorem wq12 : Cond.code objectInit ⟨#[0xb1]⟩ 1 none ∈ gw := gw_t1 (List.mem_of_getElem? (i := 27) rfl) rfl
theorem wq13 : Cond.classLink RX7 7 RX6 ∈ gw := gw_t1 (List.mem_of_getElem? (i := 28) rfl) rfl
theorem wq14 : Cond.instantiable RX6 11 ∈ gw := gw_t1 (List.mem_of_getElem? (i := 29) rfl) rfl
theorem wq15 : Cond.initialized RX6 ∈ gw := gw_t1 (List.mem_of_getElem? (i := 2) rfl) rfl
theorem wq16 : Cond.fieldLink RX7 10 "PinnedLeaves" "yard" "LPinnedLeaves$Yard;" ∈ gw := gw_t1 (List.mem_of_getElem? (i := 221) rfl) rfl
theorem wq17 : Cond.fieldLink RX7 16 "PinnedLeaves" "snapshot" "LPinnedLeaves$Yard;" ∈ gw := gw_t1 (List.mem_of_getElem? (i := 222) rfl) rfl
theorem wq18 : Cond.classLink RX7 19 RX5 ∈ gw := gw_t1 (List.mem_of_getElem? (i := 187) rfl) rfl
theorem wq19 : Cond.instantiable RX5 3 ∈ gw := gw_t1 (List.mem_of_getElem? (i := 188) rfl) rfl
theorem wq20 : Cond.initialized RX5 ∈ gw := gw_t1 (List.mem_of_getElem? (i := 7) rfl) rfl
theorem wq21 : Cond.fieldLink RX7 22 "PinnedLeaves" "saved" "LPinnedLeaves$SavedYards;" ∈ gw := gw_t1 (List.mem_of_getElem? (i := 223) rfl) rfl
theorem wq22 : Cond.classLink RX7 26 RX3 ∈ gw := gw_t1 (List.mem_of_getElem? (i := 206) rfl) rfl
theorem wq23 : Cond.instantiable RX3 2 ∈ gw := gw_t1 (List.mem_of_getElem? (i := 207) rfl) rfl
theorem wq24 : Cond.initialized RX3 ∈ gw := gw_t1 (List.mem_of_getElem? (i := 8) rfl) rfl
theorem wq25 : Cond.fieldLink RX7 29 "PinnedLeaves" "text" "LPinnedLeaves$OrderText;" ∈ gw := gw_t1 (List.mem_of_getElem? (i := 224) rfl) rfl
theorem wq26 : Cond.instanceMethod yX6_init ∈ gw := gw_t1 (List.mem_of_getElem? (i := 31) rfl) rfl
theorem wq27 : Cond.code yX6_init cX6_init 1 none ∈ gw := gw_t1 (List.mem_of_getElem? (i := 32) rfl) rfl
theorem wq28 : Cond.methodLink RX6 3 objectInit ∈ gw := gw_t1 (List.mem_of_getElem? (i := 33) rfl) rfl
theorem wq29 : Cond.fieldLink RX6 9 "PinnedLeaves$Yard" "rakeAt" "I" ∈ gw := gw_t1 (List.mem_of_getElem? (i := 150) rfl) rfl
theorem wq30 : Cond.fieldLink RX6 15 "PinnedLeaves$Yard" "burnsBy" "I" ∈ gw := gw_t1 (List.mem_of_getElem? (i := 152) rfl) rfl
theorem wq31 : Cond.classLink RX6 18 RX2 ∈ gw := gw_t1 (List.mem_of_getElem? (i := 34) rfl) rfl
theorem wq32 : Cond.instantiable RX2 7 ∈ gw := gw_t1 (List.mem_of_getElem? (i := 35) rfl) rfl
theorem wq33 : Cond.initialized RX2 ∈ gw := gw_t1 (List.mem_of_getElem? (i := 3) rfl) rfl
theorem wq34 : Cond.fieldLink RX6 21 "PinnedLeaves$Yard" "leaves" "LPinnedLeaves$Leaves;" ∈ gw := gw_t1 (List.mem_of_getElem? (i := 158) rfl) rfl
theorem wq35 : Cond.classLink RX6 25 RX0 ∈ gw := gw_t1 (List.mem_of_getElem? (i := 86) rfl) rfl
theorem wq36 : Cond.instantiable RX0 7 ∈ gw := gw_t1 (List.mem_of_getElem? (i := 87) rfl) rfl
theorem wq37 : Cond.initialized RX0 ∈ gw := gw_t1 (List.mem_of_getElem? (i := 5) rfl) rfl
theorem wq38 : Cond.fieldLink RX6 28 "PinnedLeaves$Yard" "children" "LPinnedLeaves$Children;" ∈ gw := gw_t1 (List.mem_of_getElem? (i := 160) rfl) rfl
theorem wq39 : Cond.classLink RX6 32 RX1 ∈ gw := gw_t1 (List.mem_of_getElem? (i := 128) rfl) rfl
theorem wq40 : Cond.instantiable RX1 3 ∈ gw := gw_t1 (List.mem_of_getElem? (i := 129) rfl) rfl
theorem wq41 : Cond.initialized RX1 ∈ gw := gw_t1 (List.mem_of_getElem? (i := 6) rfl) rfl
theorem wq42 : Cond.fieldLink RX6 35 "PinnedLeaves$Yard" "hooks" "LPinnedLeaves$Hooks;" ∈ gw := gw_t1 (List.mem_of_getElem? (i := 162) rfl) rfl
theorem wq43 : Cond.methodLink RX6 20 yX2_init ∈ gw := gw_t1 (List.mem_of_getElem? (i := 36) rfl) rfl
theorem wq44 : Cond.instanceMethod yX2_init ∈ gw := gw_t1 (List.mem_of_getElem? (i := 37) rfl) rfl
theorem wq45 : Cond.code yX2_init cX2_init 1 none ∈ gw := gw_t1 (List.mem_of_getElem? (i := 38) rfl) rfl
theorem wq46 : Cond.methodLink RX2 3 objectInit ∈ gw := gw_t1 (List.mem_of_getElem? (i := 39) rfl) rfl
theorem wq47 : Cond.classLink RX2 9 RX4 ∈ gw := gw_t1 (List.mem_of_getElem? (i := 40) rfl) rfl
theorem wq48 : Cond.instantiable RX4 1 ∈ gw := gw_t1 (List.mem_of_getElem? (i := 41) rfl) rfl
theorem wq49 : Cond.initialized RX4 ∈ gw := gw_t1 (List.mem_of_getElem? (i := 4) rfl) rfl
theorem wq50 : Cond.fieldLink RX2 14 "PinnedLeaves$Leaves" "onBranch" "LPinnedLeaves$Row;" ∈ gw := gw_t1 (List.mem_of_getElem? (i := 58) rfl) rfl
theorem wq51 : Cond.fieldLink RX2 20 "PinnedLeaves$Leaves" "colours" "LPinnedLeaves$Row;" ∈ gw := gw_t1 (List.mem_of_getElem? (i := 61) rfl) rfl
theorem wq52 : Cond.fieldLink RX2 23 "PinnedLeaves$Leaves" "where" "LPinnedLeaves$Row;" ∈ gw := gw_t1 (List.mem_of_getElem? (i := 63) rfl) rfl
theorem wq53 : Cond.fieldLink RX2 26 "PinnedLeaves$Leaves" "lastBranch" "LPinnedLeaves$Row;" ∈ gw := gw_t1 (List.mem_of_getElem? (i := 65) rfl) rfl
theorem wq54 : Cond.fieldLink RX2 29 "PinnedLeaves$Leaves" "asideSince" "LPinnedLeaves$Row;" ∈ gw := gw_t1 (List.mem_of_getElem? (i := 67) rfl) rfl
theorem wq55 : Cond.fieldLink RX2 32 "PinnedLeaves$Leaves" "heapOf" "LPinnedLeaves$Row;" ∈ gw := gw_t1 (List.mem_of_getElem? (i := 69) rfl) rfl
theorem wq56 : Cond.methodLink RX2 11 yX4_init ∈ gw := gw_t1 (List.mem_of_getElem? (i := 42) rfl) rfl
theorem wq57 : Cond.instanceMethod yX4_init ∈ gw := gw_t1 (List.mem_of_getElem? (i := 43) rfl) rfl
theorem wq58 : Cond.code yX4_init cX4_init 2 none ∈ gw := gw_t1 (List.mem_of_getElem? (i := 44) rfl) rfl
theorem wq59 : Cond.methodLink RX4 3 objectInit ∈ gw := gw_t1 (List.mem_of_getElem? (i := 45) rfl) rfl
theorem wq60 : Cond.arrayClass .int ∈ gw := gw_t1 (List.mem_of_getElem? (i := 50) rfl) rfl
theorem wq61 : Cond.fieldLink RX4 9 "PinnedLeaves$Row" "cells" "[I" ∈ gw := gw_t1 (List.mem_of_getElem? (i := 46) rfl) rfl
theorem wq62 : Cond.methodLink RX2 35 yX4_fill ∈ gw := gw_t1 (List.mem_of_getElem? (i := 51) rfl) rfl
theorem wq63 : Cond.instanceMethod yX4_fill ∈ gw := gw_t1 (List.mem_of_getElem? (i := 52) rfl) rfl
theorem wq64 : Cond.selects RX4 yX4_fill yX4_fill ∈ gw := gw_t1 (List.mem_of_getElem? (i := 53) rfl) rfl
theorem wq65 : Cond.code yX4_fill cX4_fill 3 none ∈ gw := gw_t1 (List.mem_of_getElem? (i := 54) rfl) rfl
theorem wq66 : Cond.methodLink RX6 27 yX0_init ∈ gw := gw_t1 (List.mem_of_getElem? (i := 88) rfl) rfl
theorem wq67 : Cond.instanceMethod yX0_init ∈ gw := gw_t1 (List.mem_of_getElem? (i := 89) rfl) rfl
theorem wq68 : Cond.code yX0_init cX0_init 1 none ∈ gw := gw_t1 (List.mem_of_getElem? (i := 90) rfl) rfl
theorem wq69 : Cond.methodLink RX0 3 objectInit ∈ gw := gw_t1 (List.mem_of_getElem? (i := 91) rfl) rfl
theorem wq70 : Cond.classLink RX0 9 RX4 ∈ gw := gw_t1 (List.mem_of_getElem? (i := 92) rfl) rfl
theorem wq71 : Cond.fieldLink RX0 14 "PinnedLeaves$Children" "here" "LPinnedLeaves$Row;" ∈ gw := gw_t1 (List.mem_of_getElem? (i := 99) rfl) rfl
theorem wq72 : Cond.fieldLink RX0 20 "PinnedLeaves$Children" "cameInAt" "LPinnedLeaves$Row;" ∈ gw := gw_t1 (List.mem_of_getElem? (i := 100) rfl) rfl
theorem wq73 : Cond.fieldLink RX0 23 "PinnedLeaves$Children" "tookOff" "LPinnedLeaves$Row;" ∈ gw := gw_t1 (List.mem_of_getElem? (i := 102) rfl) rfl
theorem wq74 : Cond.fieldLink RX0 26 "PinnedLeaves$Children" "burnt" "LPinnedLeaves$Row;" ∈ gw := gw_t1 (List.mem_of_getElem? (i := 104) rfl) rfl
theorem wq75 : Cond.fieldLink RX0 29 "PinnedLeaves$Children" "rakings" "LPinnedLeaves$Row;" ∈ gw := gw_t1 (List.mem_of_getElem? (i := 106) rfl) rfl
theorem wq76 : Cond.fieldLink RX0 32 "PinnedLeaves$Children" "heapSize" "LPinnedLeaves$Row;" ∈ gw := gw_t1 (List.mem_of_getElem? (i := 108) rfl) rfl
theorem wq77 : Cond.fieldLink RX0 35 "PinnedLeaves$Children" "heaps" "LPinnedLeaves$Row;" ∈ gw := gw_t1 (List.mem_of_getElem? (i := 111) rfl) rfl
theorem wq78 : Cond.methodLink RX0 11 yX4_init ∈ gw := gw_t1 (List.mem_of_getElem? (i := 93) rfl) rfl
theorem wq79 : Cond.methodLink RX0 38 yX4_fill ∈ gw := gw_t1 (List.mem_of_getElem? (i := 94) rfl) rfl
theorem wq80 : Cond.methodLink RX0 41 yX4_put ∈ gw := gw_t1 (List.mem_of_getElem? (i := 95) rfl) rfl
theorem wq81 : Cond.instanceMethod yX4_put ∈ gw := gw_t1 (List.mem_of_getElem? (i := 96) rfl) rfl
theorem wq82 : Cond.selects RX4 yX4_put yX4_put ∈ gw := gw_t1 (List.mem_of_getElem? (i := 97) rfl) rfl
theorem wq83 : Cond.code yX4_put cX4_put 3 none ∈ gw := gw_t1 (List.mem_of_getElem? (i := 98) rfl) rfl
theorem wq84 : Cond.methodLink RX6 34 yX1_init ∈ gw := gw_t1 (List.mem_of_getElem? (i := 130) rfl) rfl
theorem wq85 : Cond.instanceMethod yX1_init ∈ gw := gw_t1 (List.mem_of_getElem? (i := 131) rfl) rfl
theorem wq86 : Cond.code yX1_init cX1_init 1 none ∈ gw := gw_t1 (List.mem_of_getElem? (i := 132) rfl) rfl
theorem wq87 : Cond.methodLink RX1 3 objectInit ∈ gw := gw_t1 (List.mem_of_getElem? (i := 133) rfl) rfl
theorem wq88 : Cond.classLink RX1 9 RX4 ∈ gw := gw_t1 (List.mem_of_getElem? (i := 134) rfl) rfl
theorem wq89 : Cond.fieldLink RX1 16 "PinnedLeaves$Hooks" "pinned" "LPinnedLeaves$Row;" ∈ gw := gw_t1 (List.mem_of_getElem? (i := 137) rfl) rfl
theorem wq90 : Cond.fieldLink RX1 20 "PinnedLeaves$Hooks" "noted" "LPinnedLeaves$Row;" ∈ gw := gw_t1 (List.mem_of_getElem? (i := 139) rfl) rfl
theorem wq91 : Cond.fieldLink RX1 23 "PinnedLeaves$Hooks" "branches" "LPinnedLeaves$Row;" ∈ gw := gw_t1 (List.mem_of_getElem? (i := 140) rfl) rfl
theorem wq92 : Cond.methodLink RX1 13 yX4_init ∈ gw := gw_t1 (List.mem_of_getElem? (i := 135) rfl) rfl
theorem wq93 : Cond.methodLink RX1 26 yX4_fill ∈ gw := gw_t1 (List.mem_of_getElem? (i := 136) rfl) rfl
theorem wq94 : Cond.methodLink RX7 21 yX5_init ∈ gw := gw_t1 (List.mem_of_getElem? (i := 189) rfl) rfl
theorem wq95 : Cond.instanceMethod yX5_init ∈ gw := gw_t1 (List.mem_of_getElem? (i := 190) rfl) rfl
theorem wq96 : Cond.code yX5_init cX5_init 2 none ∈ gw := gw_t1 (List.mem_of_getElem? (i := 191) rfl) rfl
theorem wq97 : Cond.methodLink RX5 3 objectInit ∈ gw := gw_t1 (List.mem_of_getElem? (i := 192) rfl) rfl
theorem wq98 : Cond.classLink RX5 9 RX6 ∈ gw := gw_t1 (List.mem_of_getElem? (i := 193) rfl) rfl
theorem wq99 : Cond.fieldLink RX5 11 "PinnedLeaves$SavedYards" "yards" "[LPinnedLeaves$Yard;" ∈ gw := gw_t1 (List.mem_of_getElem? (i := 196) rfl) rfl
theorem wq100 : Cond.instanceMethod yX3_init ∈ gw := gw_t1 (List.mem_of_getElem? (i := 209) rfl) rfl
theorem wq101 : Cond.code yX3_init cX3_init 1 none ∈ gw := gw_t1 (List.mem_of_getElem? (i := 210) rfl) rfl
theorem wq102 : Cond.methodLink RX3 3 objectInit ∈ gw := gw_t1 (List.mem_of_getElem? (i := 211) rfl) rfl
theorem wq103 : Cond.classLink RX3 9 RX4 ∈ gw := gw_t1 (List.mem_of_getElem? (i := 212) rfl) rfl
theorem wq104 : Cond.fieldLink RX3 14 "PinnedLeaves$OrderText" "signs" "LPinnedLeaves$Row;" ∈ gw := gw_t1 (List.mem_of_getElem? (i := 214) rfl) rfl
theorem wq105 : Cond.methodLink RX3 11 yX4_init ∈ gw := gw_t1 (List.mem_of_getElem? (i := 213) rfl) rfl
theorem wq106 : Cond.methodLink RL 109 yX8_init ∈ gw := gw_t5 (List.mem_of_getElem? (i := 128) rfl) rfl
theorem wq107 : Cond.instanceMethod yX8_init ∈ gw := gw_t5 (List.mem_of_getElem? (i := 129) rfl) rfl
theorem wq108 : Cond.code yX8_init cX8_init 2 none ∈ gw := gw_t5 (List.mem_of_getElem? (i := 130) rfl) rfl
theorem wq109 : Cond.methodLink RX8 1 objectInit ∈ gw := gw_t5 (List.mem_of_getElem? (i := 131) rfl) rfl
theorem wq110 : Cond.fieldLink RX8 7 "PinnedLeavesModel" "z" "[I" ∈ gw := gw_t5 (List.mem_of_getElem? (i := 149) rfl) rfl
theorem wq111 : Cond.fieldLink RX8 13 "PinnedLeavesModel" "saved" "[I" ∈ gw := gw_t5 (List.mem_of_getElem? (i := 150) rfl) rfl
theorem wq112 : Cond.fieldLink RX8 16 "PinnedLeavesModel" "kept" "[I" ∈ gw := gw_t5 (List.mem_of_getElem? (i := 152) rfl) rfl
theorem wq113 : Cond.fieldLink RX8 19 "PinnedLeavesModel" "text" "[I" ∈ gw := gw_t5 (List.mem_of_getElem? (i := 154) rfl) rfl
theorem wq114 : Cond.fieldLink RX8 22 "PinnedLeavesModel" "given" "[I" ∈ gw := gw_t5 (List.mem_of_getElem? (i := 157) rfl) rfl
theorem wq115 : Cond.methodLink RX8 25 yX8_clearChild ∈ gw := gw_t5 (List.mem_of_getElem? (i := 132) rfl) rfl
theorem wq116 : Cond.instanceMethod yX8_clearChild ∈ gw := gw_t5 (List.mem_of_getElem? (i := 134) rfl) rfl
theorem wq117 : Cond.selects RX8 yX8_clearChild yX8_clearChild ∈ gw := gw_p (n := _) (List.mem_of_getElem? (i := 11) rfl)
theorem wq118 : Cond.code yX8_clearChild cX8_clearChild 3 none ∈ gw := gw_t5 (List.mem_of_getElem? (i := 135) rfl) rfl
theorem wq119 : Cond.methodLink RX8 29 yX8_setChild ∈ gw := gw_t5 (List.mem_of_getElem? (i := 136) rfl) rfl
theorem wq120 : Cond.instanceMethod yX8_setChild ∈ gw := gw_t5 (List.mem_of_getElem? (i := 138) rfl) rfl
theorem wq121 : Cond.selects RX8 yX8_setChild yX8_setChild ∈ gw := gw_p (n := _) (List.mem_of_getElem? (i := 12) rfl)
theorem wq122 : Cond.code yX8_setChild cX8_setChild 4 none ∈ gw := gw_t5 (List.mem_of_getElem? (i := 139) rfl) rfl
theorem wq123 : Cond.methodLink RX8 45 yX8_emptyHooks ∈ gw := gw_t5 (List.mem_of_getElem? (i := 140) rfl) rfl
theorem wq124 : Cond.instanceMethod yX8_emptyHooks ∈ gw := gw_t5 (List.mem_of_getElem? (i := 142) rfl) rfl
theorem wq125 : Cond.selects RX8 yX8_emptyHooks yX8_emptyHooks ∈ gw := gw_p (n := _) (List.mem_of_getElem? (i := 13) rfl)
theorem wq126 : Cond.code yX8_emptyHooks cX8_emptyHooks 3 none ∈ gw := gw_t5 (List.mem_of_getElem? (i := 143) rfl) rfl
theorem wq127 : Cond.methodLink RX8 41 yX8_setHook ∈ gw := gw_t5 (List.mem_of_getElem? (i := 144) rfl) rfl
theorem wq128 : Cond.instanceMethod yX8_setHook ∈ gw := gw_t5 (List.mem_of_getElem? (i := 146) rfl) rfl
theorem wq129 : Cond.selects RX8 yX8_setHook yX8_setHook ∈ gw := gw_p (n := _) (List.mem_of_getElem? (i := 14) rfl)
theorem wq130 : Cond.code yX8_setHook cX8_setHook 6 none ∈ gw := gw_t5 (List.mem_of_getElem? (i := 147) rfl) rfl
theorem wq131 : Cond.methodLink RL 110 yL_come ∈ gw := gw_t3 (List.mem_of_getElem? (i := 44) rfl) rfl
theorem wq132 : Cond.static yL_come ∈ gw := gw_t3 (List.mem_of_getElem? (i := 45) rfl) rfl
theorem wq133 : Cond.initialized RL ∈ gw := gw_t1 (List.mem_of_getElem? (i := 0) rfl) rfl
theorem wq134 : Cond.codeWith yL_come cL_come 3 (some .int) [(0, 8, 11, 13)] ∈ gw := gw_t3 (List.mem_of_getElem? (i := 46) rfl) rfl
theorem wq135 : Cond.classLink RL 13 "java/lang/IllegalStateException" ∈ gw := gw_t3 (List.mem_of_getElem? (i := 47) rfl) rfl
theorem wq136 : Cond.methodLink RL 7 yX7_come ∈ gw := gw_t3 (List.mem_of_getElem? (i := 48) rfl) rfl
theorem wq137 : Cond.instanceMethod yX7_come ∈ gw := gw_t3 (List.mem_of_getElem? (i := 49) rfl) rfl
theorem wq138 : Cond.selects RX7 yX7_come yX7_come ∈ gw := gw_t3 (List.mem_of_getElem? (i := 50) rfl) rfl
theorem wq139 : Cond.code yX7_come cX7_come 1 (some .int) ∈ gw := gw_t3 (List.mem_of_getElem? (i := 51) rfl) rfl
theorem wq140 : Cond.classLink RX7 43 "java/lang/IllegalStateException" ∈ gw := gw_t3 (List.mem_of_getElem? (i := 56) rfl) rfl
theorem wq141 : Cond.initialized "java/lang/IllegalStateException" ∈ gw := gw_t1 (List.mem_of_getElem? (i := 13) rfl) rfl
theorem wq142 : Cond.fieldLink RX7 33 "PinnedLeaves$Yard" "children" "LPinnedLeaves$Children;" ∈ gw := gw_t1 (List.mem_of_getElem? (i := 161) rfl) rfl
theorem wq143 : Cond.methodLink RX7 37 yX0_lowestFree ∈ gw := gw_t3 (List.mem_of_getElem? (i := 52) rfl) rfl
theorem wq144 : Cond.instanceMethod yX0_lowestFree ∈ gw := gw_t3 (List.mem_of_getElem? (i := 53) rfl) rfl
theorem wq145 : Cond.selects RX0 yX0_lowestFree yX0_lowestFree ∈ gw := gw_t3 (List.mem_of_getElem? (i := 54) rfl) rfl
theorem wq146 : Cond.code yX0_lowestFree cX0_lowestFree 2 (some .int) ∈ gw := gw_t3 (List.mem_of_getElem? (i := 55) rfl) rfl
theorem wq147 : Cond.methodLink RX0 53 yX0_isHere ∈ gw := gw_t2 (List.mem_of_getElem? (i := 170) rfl) rfl
theorem wq148 : Cond.instanceMethod yX0_isHere ∈ gw := gw_t2 (List.mem_of_getElem? (i := 171) rfl) rfl
theorem wq149 : Cond.selects RX0 yX0_isHere yX0_isHere ∈ gw := gw_t2 (List.mem_of_getElem? (i := 172) rfl) rfl
theorem wq150 : Cond.code yX0_isHere cX0_isHere 2 (some .boolean) ∈ gw := gw_t2 (List.mem_of_getElem? (i := 173) rfl) rfl
theorem wq151 : Cond.methodLink RX0 45 yX4_get ∈ gw := gw_t2 (List.mem_of_getElem? (i := 86) rfl) rfl
theorem wq152 : Cond.instanceMethod yX4_get ∈ gw := gw_t2 (List.mem_of_getElem? (i := 22) rfl) rfl
theorem wq153 : Cond.selects RX4 yX4_get yX4_get ∈ gw := gw_t2 (List.mem_of_getElem? (i := 23) rfl) rfl
theorem wq154 : Cond.code yX4_get cX4_get 2 (some .int) ∈ gw := gw_t2 (List.mem_of_getElem? (i := 24) rfl) rfl
theorem wq155 : Cond.methodLink RX7 50 yX5_push ∈ gw := gw_t3 (List.mem_of_getElem? (i := 124) rfl) rfl
theorem wq156 : Cond.instanceMethod yX5_push ∈ gw := gw_t3 (List.mem_of_getElem? (i := 125) rfl) rfl
theorem wq157 : Cond.selects RX5 yX5_push yX5_push ∈ gw := gw_t3 (List.mem_of_getElem? (i := 126) rfl) rfl
theorem wq158 : Cond.code yX5_push cX5_push 3 none ∈ gw := gw_t3 (List.mem_of_getElem? (i := 127) rfl) rfl
theorem wq159 : Cond.fieldLink RX5 22 "PinnedLeaves$SavedYards" "next" "I" ∈ gw := gw_t1 (List.mem_of_getElem? (i := 197) rfl) rfl
theorem wq160 : Cond.fieldLink RX5 18 "PinnedLeaves$SavedYards" "size" "I" ∈ gw := gw_t1 (List.mem_of_getElem? (i := 198) rfl) rfl
theorem wq161 : Cond.methodLink RX5 33 Lib.Math.min.name ∈ gw := gw_t3 (List.mem_of_getElem? (i := 133) rfl) rfl
theorem wq162 : Cond.static Lib.Math.min.name ∈ gw := gw_t2 (List.mem_of_getElem? (i := 54) rfl) rfl
theorem wq163 : Cond.initialized "java/lang/Math" ∈ gw := gw_t1 (List.mem_of_getElem? (i := 14) rfl) rfl
theorem wq164 : Cond.code Lib.Math.min.name Lib.Math.min.code 2 (some .int) ∈ gw := gw_t2 (List.mem_of_getElem? (i := 55) rfl) rfl
theorem wq165 : Cond.methodLink RX5 25 yX5_placeAt ∈ gw := gw_t3 (List.mem_of_getElem? (i := 128) rfl) rfl
theorem wq166 : Cond.instanceMethod yX5_placeAt ∈ gw := gw_t3 (List.mem_of_getElem? (i := 130) rfl) rfl
theorem wq167 : Cond.selects RX5 yX5_placeAt yX5_placeAt ∈ gw := gw_p (n := _) (List.mem_of_getElem? (i := 6) rfl)
theorem wq168 : Cond.code yX5_placeAt cX5_placeAt 2 (some (.object "PinnedLeaves$Yard")) ∈ gw := gw_t3 (List.mem_of_getElem? (i := 131) rfl) rfl
theorem wq169 : Cond.methodLink RX5 29 yX6_copyFrom ∈ gw := gw_t3 (List.mem_of_getElem? (i := 132) rfl) rfl
theorem wq170 : Cond.instanceMethod yX6_copyFrom ∈ gw := gw_t2 (List.mem_of_getElem? (i := 42) rfl) rfl
theorem wq171 : Cond.selects RX6 yX6_copyFrom yX6_copyFrom ∈ gw := gw_t2 (List.mem_of_getElem? (i := 43) rfl) rfl
theorem wq172 : Cond.code yX6_copyFrom cX6_copyFrom 2 none ∈ gw := gw_t2 (List.mem_of_getElem? (i := 44) rfl) rfl
theorem wq173 : Cond.fieldLink RX6 39 "PinnedLeaves$Yard" "bell" "I" ∈ gw := gw_t1 (List.mem_of_getElem? (i := 148) rfl) rfl
theorem wq174 : Cond.fieldLink RX6 42 "PinnedLeaves$Yard" "rakings" "I" ∈ gw := gw_t1 (List.mem_of_getElem? (i := 153) rfl) rfl
theorem wq175 : Cond.fieldLink RX6 45 "PinnedLeaves$Yard" "lookedThrough" "I" ∈ gw := gw_t1 (List.mem_of_getElem? (i := 154) rfl) rfl
theorem wq176 : Cond.fieldLink RX6 48 "PinnedLeaves$Yard" "failedPins" "I" ∈ gw := gw_t1 (List.mem_of_getElem? (i := 155) rfl) rfl
theorem wq177 : Cond.fieldLink RX6 51 "PinnedLeaves$Yard" "dangers" "I" ∈ gw := gw_t1 (List.mem_of_getElem? (i := 156) rfl) rfl
theorem wq178 : Cond.fieldLink RX6 54 "PinnedLeaves$Yard" "mostAside" "I" ∈ gw := gw_t1 (List.mem_of_getElem? (i := 157) rfl) rfl
theorem wq179 : Cond.methodLink RX6 57 yX2_copyFrom ∈ gw := gw_t2 (List.mem_of_getElem? (i := 45) rfl) rfl
theorem wq180 : Cond.instanceMethod yX2_copyFrom ∈ gw := gw_t2 (List.mem_of_getElem? (i := 46) rfl) rfl
theorem wq181 : Cond.selects RX2 yX2_copyFrom yX2_copyFrom ∈ gw := gw_t2 (List.mem_of_getElem? (i := 47) rfl) rfl
theorem wq182 : Cond.code yX2_copyFrom cX2_copyFrom 2 none ∈ gw := gw_t2 (List.mem_of_getElem? (i := 48) rfl) rfl
theorem wq183 : Cond.fieldLink RX2 38 "PinnedLeaves$Leaves" "grown" "I" ∈ gw := gw_t1 (List.mem_of_getElem? (i := 55) rfl) rfl
theorem wq184 : Cond.methodLink RX2 54 yX4_copyFrom ∈ gw := gw_t2 (List.mem_of_getElem? (i := 49) rfl) rfl
theorem wq185 : Cond.instanceMethod yX4_copyFrom ∈ gw := gw_t2 (List.mem_of_getElem? (i := 50) rfl) rfl
theorem wq186 : Cond.selects RX4 yX4_copyFrom yX4_copyFrom ∈ gw := gw_t2 (List.mem_of_getElem? (i := 51) rfl) rfl
theorem wq187 : Cond.code yX4_copyFrom cX4_copyFrom 2 none ∈ gw := gw_t2 (List.mem_of_getElem? (i := 52) rfl) rfl
theorem wq188 : Cond.methodLink RX4 23 Lib.Math.min.name ∈ gw := gw_t2 (List.mem_of_getElem? (i := 53) rfl) rfl
theorem wq189 : Cond.methodLink RX4 29 arraycopyName ∈ gw := gw_t2 (List.mem_of_getElem? (i := 56) rfl) rfl
theorem wq190 : Cond.native arraycopyName ∈ gw := gw_t2 (List.mem_of_getElem? (i := 58) rfl) rfl
theorem wq191 : Cond.static arraycopyName ∈ gw := gw_t2 (List.mem_of_getElem? (i := 57) rfl) rfl
theorem wq192 : Cond.initialized "java/lang/System" ∈ gw := gw_t1 (List.mem_of_getElem? (i := 15) rfl) rfl
theorem wq193 : Cond.methodLink RX6 61 yX0_copyFrom ∈ gw := gw_t2 (List.mem_of_getElem? (i := 59) rfl) rfl
theorem wq194 : Cond.instanceMethod yX0_copyFrom ∈ gw := gw_t2 (List.mem_of_getElem? (i := 60) rfl) rfl
theorem wq195 : Cond.selects RX0 yX0_copyFrom yX0_copyFrom ∈ gw := gw_t2 (List.mem_of_getElem? (i := 61) rfl) rfl
theorem wq196 : Cond.code yX0_copyFrom cX0_copyFrom 2 none ∈ gw := gw_t2 (List.mem_of_getElem? (i := 62) rfl) rfl
theorem wq197 : Cond.methodLink RX0 63 yX4_copyFrom ∈ gw := gw_t2 (List.mem_of_getElem? (i := 63) rfl) rfl
theorem wq198 : Cond.methodLink RX6 64 yX1_copyFrom ∈ gw := gw_t2 (List.mem_of_getElem? (i := 64) rfl) rfl
theorem wq199 : Cond.instanceMethod yX1_copyFrom ∈ gw := gw_t2 (List.mem_of_getElem? (i := 65) rfl) rfl
theorem wq200 : Cond.selects RX1 yX1_copyFrom yX1_copyFrom ∈ gw := gw_t2 (List.mem_of_getElem? (i := 66) rfl) rfl
theorem wq201 : Cond.code yX1_copyFrom cX1_copyFrom 2 none ∈ gw := gw_t2 (List.mem_of_getElem? (i := 67) rfl) rfl
theorem wq202 : Cond.methodLink RX1 60 yX4_copyFrom ∈ gw := gw_t2 (List.mem_of_getElem? (i := 68) rfl) rfl
theorem wq203 : Cond.methodLink RX7 54 yX6_addChild ∈ gw := gw_t3 (List.mem_of_getElem? (i := 134) rfl) rfl
theorem wq204 : Cond.instanceMethod yX6_addChild ∈ gw := gw_t3 (List.mem_of_getElem? (i := 135) rfl) rfl
theorem wq205 : Cond.selects RX6 yX6_addChild yX6_addChild ∈ gw := gw_t3 (List.mem_of_getElem? (i := 136) rfl) rfl
theorem wq206 : Cond.code yX6_addChild cX6_addChild 2 (some .int) ∈ gw := gw_t3 (List.mem_of_getElem? (i := 137) rfl) rfl
theorem wq207 : Cond.methodLink RX6 67 yX0_lowestFree ∈ gw := gw_t3 (List.mem_of_getElem? (i := 138) rfl) rfl
theorem wq208 : Cond.methodLink RX6 71 yX0_fillPlace ∈ gw := gw_t3 (List.mem_of_getElem? (i := 139) rfl) rfl
theorem wq209 : Cond.instanceMethod yX0_fillPlace ∈ gw := gw_t3 (List.mem_of_getElem? (i := 140) rfl) rfl
theorem wq210 : Cond.selects RX0 yX0_fillPlace yX0_fillPlace ∈ gw := gw_t3 (List.mem_of_getElem? (i := 141) rfl) rfl
theorem wq211 : Cond.code yX0_fillPlace cX0_fillPlace 2 none ∈ gw := gw_t3 (List.mem_of_getElem? (i := 142) rfl) rfl
theorem wq212 : Cond.methodLink RL 115 yX8_come ∈ gw := gw_t5 (List.mem_of_getElem? (i := 202) rfl) rfl
theorem wq213 : Cond.instanceMethod yX8_come ∈ gw := gw_t5 (List.mem_of_getElem? (i := 203) rfl) rfl
theorem wq214 : Cond.selects RX8 yX8_come yX8_come ∈ gw := gw_t5 (List.mem_of_getElem? (i := 204) rfl) rfl
theorem wq215 : Cond.code yX8_come cX8_come 2 (some .int) ∈ gw := gw_t5 (List.mem_of_getElem? (i := 205) rfl) rfl
theorem wq216 : Cond.fieldLink RX8 33 "PinnedLeavesModel" "thrown" "I" ∈ gw := gw_t5 (List.mem_of_getElem? (i := 148) rfl) rfl
theorem wq217 : Cond.methodLink RX8 82 yX8_children ∈ gw := gw_t5 (List.mem_of_getElem? (i := 206) rfl) rfl
theorem wq218 : Cond.instanceMethod yX8_children ∈ gw := gw_t5 (List.mem_of_getElem? (i := 208) rfl) rfl
theorem wq219 : Cond.selects RX8 yX8_children yX8_children ∈ gw := gw_p (n := _) (List.mem_of_getElem? (i := 16) rfl)
theorem wq220 : Cond.code yX8_children cX8_children 3 (some .int) ∈ gw := gw_t5 (List.mem_of_getElem? (i := 209) rfl) rfl
theorem wq221 : Cond.methodLink RX8 37 yX8_ofChild ∈ gw := gw_t5 (List.mem_of_getElem? (i := 210) rfl) rfl
theorem wq222 : Cond.instanceMethod yX8_ofChild ∈ gw := gw_t5 (List.mem_of_getElem? (i := 212) rfl) rfl
theorem wq223 : Cond.selects RX8 yX8_ofChild yX8_ofChild ∈ gw := gw_p (n := _) (List.mem_of_getElem? (i := 17) rfl)
theorem wq224 : Cond.code yX8_ofChild cX8_ofChild 3 (some .int) ∈ gw := gw_t5 (List.mem_of_getElem? (i := 213) rfl) rfl
theorem wq225 : Cond.methodLink RX8 79 yX8_record ∈ gw := gw_t5 (List.mem_of_getElem? (i := 198) rfl) rfl
theorem wq226 : Cond.instanceMethod yX8_record ∈ gw := gw_t5 (List.mem_of_getElem? (i := 200) rfl) rfl
theorem wq227 : Cond.selects RX8 yX8_record yX8_record ∈ gw := gw_p (n := _) (List.mem_of_getElem? (i := 15) rfl)
theorem wq228 : Cond.code yX8_record cX8_record 2 none ∈ gw := gw_t5 (List.mem_of_getElem? (i := 201) rfl) rfl
theorem wq229 : Cond.fieldLink RX8 72 "PinnedLeavesModel" "saves" "I" ∈ gw := gw_t5 (List.mem_of_getElem? (i := 151) rfl) rfl
theorem wq230 : Cond.methodLink RL 116 yX8_thrown ∈ gw := gw_t5 (List.mem_of_getElem? (i := 182) rfl) rfl
theorem wq231 : Cond.instanceMethod yX8_thrown ∈ gw := gw_t5 (List.mem_of_getElem? (i := 183) rfl) rfl
theorem wq232 : Cond.selects RX8 yX8_thrown yX8_thrown ∈ gw := gw_t5 (List.mem_of_getElem? (i := 184) rfl) rfl
theorem wq233 : Cond.code yX8_thrown cX8_thrown 1 (some .int) ∈ gw := gw_t5 (List.mem_of_getElem? (i := 185) rfl) rfl
theorem wq234 : Cond.methodLink RL 119 yL_leave ∈ gw := gw_t3 (List.mem_of_getElem? (i := 143) rfl) rfl
theorem wq235 : Cond.static yL_leave ∈ gw := gw_t3 (List.mem_of_getElem? (i := 144) rfl) rfl
theorem wq236 : Cond.codeWith yL_leave cL_leave 4 (some .int) [(0, 9, 12, 19), (0, 9, 15, 13)] ∈ gw := gw_t3 (List.mem_of_getElem? (i := 145) rfl) rfl
theorem wq237 : Cond.classLink RL 19 "java/lang/IndexOutOfBoundsException" ∈ gw := gw_t3 (List.mem_of_getElem? (i := 146) rfl) rfl
theorem wq238 : Cond.methodLink RL 15 yX7_leave ∈ gw := gw_t3 (List.mem_of_getElem? (i := 147) rfl) rfl
theorem wq239 : Cond.instanceMethod yX7_leave ∈ gw := gw_t3 (List.mem_of_getElem? (i := 148) rfl) rfl
theorem wq240 : Cond.selects RX7 yX7_leave yX7_leave ∈ gw := gw_t3 (List.mem_of_getElem? (i := 149) rfl) rfl
theorem wq241 : Cond.code yX7_leave cX7_leave 2 (some .int) ∈ gw := gw_t3 (List.mem_of_getElem? (i := 150) rfl) rfl
theorem wq242 : Cond.methodLink RX7 57 yX7_needChild ∈ gw := gw_t3 (List.mem_of_getElem? (i := 151) rfl) rfl
theorem wq243 : Cond.instanceMethod yX7_needChild ∈ gw := gw_t3 (List.mem_of_getElem? (i := 153) rfl) rfl
theorem wq244 : Cond.selects RX7 yX7_needChild yX7_needChild ∈ gw := gw_p (n := _) (List.mem_of_getElem? (i := 7) rfl)
theorem wq245 : Cond.code yX7_needChild cX7_needChild 2 none ∈ gw := gw_t3 (List.mem_of_getElem? (i := 154) rfl) rfl
theorem wq246 : Cond.classLink RX7 343 "java/lang/IndexOutOfBoundsException" ∈ gw := gw_t3 (List.mem_of_getElem? (i := 155) rfl) rfl
theorem wq247 : Cond.initialized "java/lang/IndexOutOfBoundsException" ∈ gw := gw_t1 (List.mem_of_getElem? (i := 16) rfl) rfl
theorem wq248 : Cond.methodLink RX7 321 yX0_isHere ∈ gw := gw_t2 (List.mem_of_getElem? (i := 222) rfl) rfl
theorem wq249 : Cond.methodLink RX7 61 yX0_number ∈ gw := gw_t2 (List.mem_of_getElem? (i := 144) rfl) rfl
theorem wq250 : Cond.instanceMethod yX0_number ∈ gw := gw_t2 (List.mem_of_getElem? (i := 145) rfl) rfl
theorem wq251 : Cond.selects RX0 yX0_number yX0_number ∈ gw := gw_t2 (List.mem_of_getElem? (i := 146) rfl) rfl
theorem wq252 : Cond.code yX0_number cX0_number 1 (some .int) ∈ gw := gw_t2 (List.mem_of_getElem? (i := 147) rfl) rfl
theorem wq253 : Cond.methodLink RX0 49 yX4_number ∈ gw := gw_t2 (List.mem_of_getElem? (i := 148) rfl) rfl
theorem wq254 : Cond.instanceMethod yX4_number ∈ gw := gw_t2 (List.mem_of_getElem? (i := 95) rfl) rfl
theorem wq255 : Cond.selects RX4 yX4_number yX4_number ∈ gw := gw_t2 (List.mem_of_getElem? (i := 96) rfl) rfl
theorem wq256 : Cond.code yX4_number cX4_number 6 (some .int) ∈ gw := gw_t2 (List.mem_of_getElem? (i := 97) rfl) rfl
theorem wq257 : Cond.methodLink RX7 66 yX6_removeChild ∈ gw := gw_t3 (List.mem_of_getElem? (i := 172) rfl) rfl
theorem wq258 : Cond.instanceMethod yX6_removeChild ∈ gw := gw_t3 (List.mem_of_getElem? (i := 173) rfl) rfl
theorem wq259 : Cond.selects RX6 yX6_removeChild yX6_removeChild ∈ gw := gw_t3 (List.mem_of_getElem? (i := 174) rfl) rfl
theorem wq260 : Cond.code yX6_removeChild cX6_removeChild 6 (some .int) ∈ gw := gw_t3 (List.mem_of_getElem? (i := 175) rfl) rfl
theorem wq261 : Cond.fieldLink RX6 75 "PinnedLeaves$Children" "heapSize" "LPinnedLeaves$Row;" ∈ gw := gw_t1 (List.mem_of_getElem? (i := 109) rfl) rfl
theorem wq262 : Cond.fieldLink RX6 96 "PinnedLeaves$Leaves" "heapOf" "LPinnedLeaves$Row;" ∈ gw := gw_t1 (List.mem_of_getElem? (i := 70) rfl) rfl
theorem wq263 : Cond.methodLink RX6 79 yX4_get ∈ gw := gw_t2 (List.mem_of_getElem? (i := 81) rfl) rfl
theorem wq264 : Cond.methodLink RX6 85 yX0_lowestBesides ∈ gw := gw_t3 (List.mem_of_getElem? (i := 176) rfl) rfl
theorem wq265 : Cond.instanceMethod yX0_lowestBesides ∈ gw := gw_t3 (List.mem_of_getElem? (i := 177) rfl) rfl
theorem wq266 : Cond.selects RX0 yX0_lowestBesides yX0_lowestBesides ∈ gw := gw_t3 (List.mem_of_getElem? (i := 178) rfl) rfl
theorem wq267 : Cond.code yX0_lowestBesides cX0_lowestBesides 3 (some .int) ∈ gw := gw_t3 (List.mem_of_getElem? (i := 179) rfl) rfl
theorem wq268 : Cond.methodLink RX6 88 yX0_leafOnHeap ∈ gw := gw_t2 (List.mem_of_getElem? (i := 82) rfl) rfl
theorem wq269 : Cond.instanceMethod yX0_leafOnHeap ∈ gw := gw_t2 (List.mem_of_getElem? (i := 83) rfl) rfl
theorem wq270 : Cond.selects RX0 yX0_leafOnHeap yX0_leafOnHeap ∈ gw := gw_t2 (List.mem_of_getElem? (i := 84) rfl) rfl
theorem wq271 : Cond.code yX0_leafOnHeap cX0_leafOnHeap 4 (some .int) ∈ gw := gw_t2 (List.mem_of_getElem? (i := 85) rfl) rfl
theorem wq272 : Cond.methodLink RX6 92 yX0_putOnHeap ∈ gw := gw_t3 (List.mem_of_getElem? (i := 180) rfl) rfl
theorem wq273 : Cond.instanceMethod yX0_putOnHeap ∈ gw := gw_t3 (List.mem_of_getElem? (i := 181) rfl) rfl
theorem wq274 : Cond.selects RX0 yX0_putOnHeap yX0_putOnHeap ∈ gw := gw_t3 (List.mem_of_getElem? (i := 182) rfl) rfl
theorem wq275 : Cond.code yX0_putOnHeap cX0_putOnHeap 3 none ∈ gw := gw_t3 (List.mem_of_getElem? (i := 183) rfl) rfl
theorem wq276 : Cond.methodLink RX0 60 yX4_add ∈ gw := gw_t3 (List.mem_of_getElem? (i := 184) rfl) rfl
theorem wq277 : Cond.instanceMethod yX4_add ∈ gw := gw_t3 (List.mem_of_getElem? (i := 185) rfl) rfl
theorem wq278 : Cond.selects RX4 yX4_add yX4_add ∈ gw := gw_t3 (List.mem_of_getElem? (i := 186) rfl) rfl
theorem wq279 : Cond.code yX4_add cX4_add 3 none ∈ gw := gw_t3 (List.mem_of_getElem? (i := 187) rfl) rfl
theorem wq280 : Cond.methodLink RX4 15 yX4_get ∈ gw := gw_t3 (List.mem_of_getElem? (i := 188) rfl) rfl
theorem wq281 : Cond.methodLink RX4 19 yX4_put ∈ gw := gw_t3 (List.mem_of_getElem? (i := 189) rfl) rfl
theorem wq282 : Cond.methodLink RX6 99 yX4_put ∈ gw := gw_t3 (List.mem_of_getElem? (i := 190) rfl) rfl
theorem wq283 : Cond.methodLink RX6 102 yX0_emptyPlace ∈ gw := gw_t3 (List.mem_of_getElem? (i := 191) rfl) rfl
theorem wq284 : Cond.instanceMethod yX0_emptyPlace ∈ gw := gw_t3 (List.mem_of_getElem? (i := 192) rfl) rfl
theorem wq285 : Cond.selects RX0 yX0_emptyPlace yX0_emptyPlace ∈ gw := gw_t3 (List.mem_of_getElem? (i := 193) rfl) rfl
theorem wq286 : Cond.code yX0_emptyPlace cX0_emptyPlace 2 none ∈ gw := gw_t3 (List.mem_of_getElem? (i := 194) rfl) rfl
theorem wq287 : Cond.methodLink RX6 105 yX1_releaseAll ∈ gw := gw_t3 (List.mem_of_getElem? (i := 195) rfl) rfl
theorem wq288 : Cond.instanceMethod yX1_releaseAll ∈ gw := gw_t3 (List.mem_of_getElem? (i := 196) rfl) rfl
theorem wq289 : Cond.selects RX1 yX1_releaseAll yX1_releaseAll ∈ gw := gw_t3 (List.mem_of_getElem? (i := 197) rfl) rfl
theorem wq290 : Cond.code yX1_releaseAll cX1_releaseAll 3 none ∈ gw := gw_t3 (List.mem_of_getElem? (i := 198) rfl) rfl
theorem wq291 : Cond.methodLink RX1 40 yX1_release ∈ gw := gw_t3 (List.mem_of_getElem? (i := 199) rfl) rfl
theorem wq292 : Cond.instanceMethod yX1_release ∈ gw := gw_t3 (List.mem_of_getElem? (i := 200) rfl) rfl
theorem wq293 : Cond.selects RX1 yX1_release yX1_release ∈ gw := gw_t3 (List.mem_of_getElem? (i := 201) rfl) rfl
theorem wq294 : Cond.code yX1_release cX1_release 4 none ∈ gw := gw_t3 (List.mem_of_getElem? (i := 202) rfl) rfl
theorem wq295 : Cond.methodLink RX1 29 yX1_firstOf ∈ gw := gw_t2 (List.mem_of_getElem? (i := 213) rfl) rfl
theorem wq296 : Cond.static yX1_firstOf ∈ gw := gw_t2 (List.mem_of_getElem? (i := 92) rfl) rfl
theorem wq297 : Cond.code yX1_firstOf cX1_firstOf 1 (some .int) ∈ gw := gw_t2 (List.mem_of_getElem? (i := 93) rfl) rfl
theorem wq298 : Cond.methodLink RX1 36 yX4_put ∈ gw := gw_t3 (List.mem_of_getElem? (i := 203) rfl) rfl
theorem wq299 : Cond.methodLink RL 122 yX8_leave ∈ gw := gw_t5 (List.mem_of_getElem? (i := 214) rfl) rfl
theorem wq300 : Cond.instanceMethod yX8_leave ∈ gw := gw_t5 (List.mem_of_getElem? (i := 215) rfl) rfl
theorem wq301 : Cond.selects RX8 yX8_leave yX8_leave ∈ gw := gw_t5 (List.mem_of_getElem? (i := 216) rfl) rfl
theorem wq302 : Cond.code yX8_leave cX8_leave 5 (some .int) ∈ gw := gw_t5 (List.mem_of_getElem? (i := 217) rfl) rfl
theorem wq303 : Cond.methodLink RX8 86 yX8_isChild ∈ gw := gw_t5 (List.mem_of_getElem? (i := 218) rfl) rfl
theorem wq304 : Cond.instanceMethod yX8_isChild ∈ gw := gw_t5 (List.mem_of_getElem? (i := 220) rfl) rfl
theorem wq305 : Cond.selects RX8 yX8_isChild yX8_isChild ∈ gw := gw_p (n := _) (List.mem_of_getElem? (i := 18) rfl)
theorem wq306 : Cond.code yX8_isChild cX8_isChild 2 (some .boolean) ∈ gw := gw_t5 (List.mem_of_getElem? (i := 221) rfl) rfl
theorem wq307 : Cond.methodLink RX8 48 yX8_in ∈ gw := gw_t5 (List.mem_of_getElem? (i := 222) rfl) rfl
theorem wq308 : Cond.static yX8_in ∈ gw := gw_t5 (List.mem_of_getElem? (i := 223) rfl) rfl
theorem wq309 : Cond.code yX8_in cX8_in 3 (some .boolean) ∈ gw := gw_t5 (List.mem_of_getElem? (i := 224) rfl) rfl
theorem wq310 : Cond.methodLink RX8 90 yX8_onHeap ∈ gw := gw_t5 (List.mem_of_getElem? (i := 225) rfl) rfl
theorem wq311 : Cond.instanceMethod yX8_onHeap ∈ gw := gw_t5 (List.mem_of_getElem? (i := 227) rfl) rfl
theorem wq312 : Cond.selects RX8 yX8_onHeap yX8_onHeap ∈ gw := gw_p (n := _) (List.mem_of_getElem? (i := 19) rfl)
theorem wq313 : Cond.code yX8_onHeap cX8_onHeap 7 (some .int) ∈ gw := gw_t5 (List.mem_of_getElem? (i := 228) rfl) rfl
theorem wq314 : Cond.methodLink RX8 59 yX8_isOnHeap ∈ gw := gw_t5 (List.mem_of_getElem? (i := 229) rfl) rfl
theorem wq315 : Cond.instanceMethod yX8_isOnHeap ∈ gw := gw_t5 (List.mem_of_getElem? (i := 231) rfl) rfl
theorem wq316 : Cond.selects RX8 yX8_isOnHeap yX8_isOnHeap ∈ gw := gw_p (n := _) (List.mem_of_getElem? (i := 20) rfl)
theorem wq317 : Cond.code yX8_isOnHeap cX8_isOnHeap 3 (some .boolean) ∈ gw := gw_t5 (List.mem_of_getElem? (i := 232) rfl) rfl
theorem wq318 : Cond.methodLink RX8 56 yX8_of ∈ gw := gw_t5 (List.mem_of_getElem? (i := 233) rfl) rfl
theorem wq319 : Cond.instanceMethod yX8_of ∈ gw := gw_t5 (List.mem_of_getElem? (i := 235) rfl) rfl
theorem wq320 : Cond.selects RX8 yX8_of yX8_of ∈ gw := gw_p (n := _) (List.mem_of_getElem? (i := 21) rfl)
theorem wq321 : Cond.code yX8_of cX8_of 3 (some .int) ∈ gw := gw_t5 (List.mem_of_getElem? (i := 236) rfl) rfl
theorem wq322 : Cond.methodLink RX8 93 yX8_putOnHeap ∈ gw := gw_t5 (List.mem_of_getElem? (i := 237) rfl) rfl
theorem wq323 : Cond.instanceMethod yX8_putOnHeap ∈ gw := gw_t5 (List.mem_of_getElem? (i := 239) rfl) rfl
theorem wq324 : Cond.selects RX8 yX8_putOnHeap yX8_putOnHeap ∈ gw := gw_p (n := _) (List.mem_of_getElem? (i := 22) rfl)
theorem wq325 : Cond.code yX8_putOnHeap cX8_putOnHeap 3 none ∈ gw := gw_t6 (List.mem_of_getElem? (i := 0) rfl) rfl
theorem wq326 : Cond.methodLink RX8 63 yX8_setLeaf ∈ gw := gw_t6 (List.mem_of_getElem? (i := 1) rfl) rfl
theorem wq327 : Cond.instanceMethod yX8_setLeaf ∈ gw := gw_t6 (List.mem_of_getElem? (i := 3) rfl) rfl
theorem wq328 : Cond.selects RX8 yX8_setLeaf yX8_setLeaf ∈ gw := gw_p (n := _) (List.mem_of_getElem? (i := 23) rfl)
theorem wq329 : Cond.code yX8_setLeaf cX8_setLeaf 4 none ∈ gw := gw_t6 (List.mem_of_getElem? (i := 4) rfl) rfl
theorem wq330 : Cond.methodLink RL 123 yL_enter ∈ gw := gw_t3 (List.mem_of_getElem? (i := 204) rfl) rfl
theorem wq331 : Cond.static yL_enter ∈ gw := gw_t3 (List.mem_of_getElem? (i := 205) rfl) rfl
theorem wq332 : Cond.codeWith yL_enter cL_enter 4 (some .int) [(0, 9, 12, 19), (0, 9, 15, 13)] ∈ gw := gw_t3 (List.mem_of_getElem? (i := 206) rfl) rfl
theorem wq333 : Cond.methodLink RL 21 yX7_enter ∈ gw := gw_t3 (List.mem_of_getElem? (i := 207) rfl) rfl
theorem wq334 : Cond.instanceMethod yX7_enter ∈ gw := gw_t3 (List.mem_of_getElem? (i := 208) rfl) rfl
theorem wq335 : Cond.selects RX7 yX7_enter yX7_enter ∈ gw := gw_t3 (List.mem_of_getElem? (i := 209) rfl) rfl
theorem wq336 : Cond.code yX7_enter cX7_enter 2 (some .int) ∈ gw := gw_t3 (List.mem_of_getElem? (i := 210) rfl) rfl
theorem wq337 : Cond.methodLink RX7 70 yX6_mayGoIn ∈ gw := gw_t3 (List.mem_of_getElem? (i := 211) rfl) rfl
theorem wq338 : Cond.instanceMethod yX6_mayGoIn ∈ gw := gw_t3 (List.mem_of_getElem? (i := 212) rfl) rfl
theorem wq339 : Cond.selects RX6 yX6_mayGoIn yX6_mayGoIn ∈ gw := gw_t3 (List.mem_of_getElem? (i := 213) rfl) rfl
theorem wq340 : Cond.code yX6_mayGoIn cX6_mayGoIn 2 (some .boolean) ∈ gw := gw_t3 (List.mem_of_getElem? (i := 214) rfl) rfl
theorem wq341 : Cond.methodLink RX6 108 yX0_isHere ∈ gw := gw_t3 (List.mem_of_getElem? (i := 215) rfl) rfl
theorem wq342 : Cond.methodLink RX6 112 yX0_isInYard ∈ gw := gw_t2 (List.mem_of_getElem? (i := 231) rfl) rfl
theorem wq343 : Cond.instanceMethod yX0_isInYard ∈ gw := gw_t2 (List.mem_of_getElem? (i := 107) rfl) rfl
theorem wq344 : Cond.selects RX0 yX0_isInYard yX0_isInYard ∈ gw := gw_t2 (List.mem_of_getElem? (i := 108) rfl) rfl
theorem wq345 : Cond.code yX0_isInYard cX0_isInYard 2 (some .boolean) ∈ gw := gw_t2 (List.mem_of_getElem? (i := 109) rfl) rfl
theorem wq346 : Cond.methodLink RX7 76 yX6_goIn ∈ gw := gw_t3 (List.mem_of_getElem? (i := 217) rfl) rfl
theorem wq347 : Cond.instanceMethod yX6_goIn ∈ gw := gw_t3 (List.mem_of_getElem? (i := 218) rfl) rfl
theorem wq348 : Cond.selects RX6 yX6_goIn yX6_goIn ∈ gw := gw_t3 (List.mem_of_getElem? (i := 219) rfl) rfl
theorem wq349 : Cond.code yX6_goIn cX6_goIn 2 (some .int) ∈ gw := gw_t3 (List.mem_of_getElem? (i := 220) rfl) rfl
theorem wq350 : Cond.fieldLink RX6 115 "PinnedLeaves$Children" "cameInAt" "LPinnedLeaves$Row;" ∈ gw := gw_t1 (List.mem_of_getElem? (i := 101) rfl) rfl
theorem wq351 : Cond.methodLink RL 125 yX8_enter ∈ gw := gw_t6 (List.mem_of_getElem? (i := 5) rfl) rfl
theorem wq352 : Cond.instanceMethod yX8_enter ∈ gw := gw_t6 (List.mem_of_getElem? (i := 6) rfl) rfl
theorem wq353 : Cond.selects RX8 yX8_enter yX8_enter ∈ gw := gw_t6 (List.mem_of_getElem? (i := 7) rfl) rfl
theorem wq354 : Cond.code yX8_enter cX8_enter 2 (some .int) ∈ gw := gw_t6 (List.mem_of_getElem? (i := 8) rfl) rfl
theorem wq355 : Cond.methodLink RX8 100 yX8_whyNotEnter ∈ gw := gw_t6 (List.mem_of_getElem? (i := 9) rfl) rfl
theorem wq356 : Cond.instanceMethod yX8_whyNotEnter ∈ gw := gw_t6 (List.mem_of_getElem? (i := 11) rfl) rfl
theorem wq357 : Cond.selects RX8 yX8_whyNotEnter yX8_whyNotEnter ∈ gw := gw_p (n := _) (List.mem_of_getElem? (i := 24) rfl)
theorem wq358 : Cond.code yX8_whyNotEnter cX8_whyNotEnter 2 (some .int) ∈ gw := gw_t6 (List.mem_of_getElem? (i := 12) rfl) rfl
theorem wq359 : Cond.methodLink RX8 97 yX8_isInYard ∈ gw := gw_t6 (List.mem_of_getElem? (i := 13) rfl) rfl
theorem wq360 : Cond.instanceMethod yX8_isInYard ∈ gw := gw_t6 (List.mem_of_getElem? (i := 15) rfl) rfl
theorem wq361 : Cond.selects RX8 yX8_isInYard yX8_isInYard ∈ gw := gw_p (n := _) (List.mem_of_getElem? (i := 25) rfl)
theorem wq362 : Cond.code yX8_isInYard cX8_isInYard 2 (some .boolean) ∈ gw := gw_t6 (List.mem_of_getElem? (i := 16) rfl) rfl
theorem wq363 : Cond.methodLink RX8 104 yX8_doEnter ∈ gw := gw_t6 (List.mem_of_getElem? (i := 17) rfl) rfl
theorem wq364 : Cond.instanceMethod yX8_doEnter ∈ gw := gw_t6 (List.mem_of_getElem? (i := 19) rfl) rfl
theorem wq365 : Cond.selects RX8 yX8_doEnter yX8_doEnter ∈ gw := gw_p (n := _) (List.mem_of_getElem? (i := 26) rfl)
theorem wq366 : Cond.code yX8_doEnter cX8_doEnter 2 (some .int) ∈ gw := gw_t6 (List.mem_of_getElem? (i := 20) rfl) rfl
theorem wq367 : Cond.methodLink RL 126 yL_rest ∈ gw := gw_t3 (List.mem_of_getElem? (i := 221) rfl) rfl
theorem wq368 : Cond.static yL_rest ∈ gw := gw_t3 (List.mem_of_getElem? (i := 222) rfl) rfl
theorem wq369 : Cond.codeWith yL_rest cL_rest 4 (some .int) [(0, 9, 12, 19), (0, 9, 15, 13)] ∈ gw := gw_t3 (List.mem_of_getElem? (i := 223) rfl) rfl
theorem wq370 : Cond.methodLink RL 24 yX7_rest ∈ gw := gw_t3 (List.mem_of_getElem? (i := 224) rfl) rfl
theorem wq371 : Cond.instanceMethod yX7_rest ∈ gw := gw_t3 (List.mem_of_getElem? (i := 225) rfl) rfl
theorem wq372 : Cond.selects RX7 yX7_rest yX7_rest ∈ gw := gw_t3 (List.mem_of_getElem? (i := 226) rfl) rfl
theorem wq373 : Cond.code yX7_rest cX7_rest 2 (some .int) ∈ gw := gw_t3 (List.mem_of_getElem? (i := 227) rfl) rfl
theorem wq374 : Cond.methodLink RX7 79 yX6_mayLieDown ∈ gw := gw_t3 (List.mem_of_getElem? (i := 228) rfl) rfl
theorem wq375 : Cond.instanceMethod yX6_mayLieDown ∈ gw := gw_t3 (List.mem_of_getElem? (i := 229) rfl) rfl
theorem wq376 : Cond.selects RX6 yX6_mayLieDown yX6_mayLieDown ∈ gw := gw_t3 (List.mem_of_getElem? (i := 230) rfl) rfl
theorem wq377 : Cond.code yX6_mayLieDown cX6_mayLieDown 2 (some .boolean) ∈ gw := gw_t3 (List.mem_of_getElem? (i := 231) rfl) rfl
theorem wq378 : Cond.methodLink RX7 84 yX6_lieDown ∈ gw := gw_t3 (List.mem_of_getElem? (i := 233) rfl) rfl
theorem wq379 : Cond.instanceMethod yX6_lieDown ∈ gw := gw_t3 (List.mem_of_getElem? (i := 234) rfl) rfl
theorem wq380 : Cond.selects RX6 yX6_lieDown yX6_lieDown ∈ gw := gw_t3 (List.mem_of_getElem? (i := 235) rfl) rfl
theorem wq381 : Cond.code yX6_lieDown cX6_lieDown 3 (some .int) ∈ gw := gw_t3 (List.mem_of_getElem? (i := 236) rfl) rfl
theorem wq382 : Cond.methodLink RX6 118 yX1_pinsOfChild ∈ gw := gw_t2 (List.mem_of_getElem? (i := 232) rfl) rfl
theorem wq383 : Cond.instanceMethod yX1_pinsOfChild ∈ gw := gw_t2 (List.mem_of_getElem? (i := 233) rfl) rfl
theorem wq384 : Cond.selects RX1 yX1_pinsOfChild yX1_pinsOfChild ∈ gw := gw_t2 (List.mem_of_getElem? (i := 234) rfl) rfl
theorem wq385 : Cond.code yX1_pinsOfChild cX1_pinsOfChild 2 (some .int) ∈ gw := gw_t2 (List.mem_of_getElem? (i := 235) rfl) rfl
theorem wq386 : Cond.methodLink RX1 43 yX4_number ∈ gw := gw_t2 (List.mem_of_getElem? (i := 130) rfl) rfl
theorem wq387 : Cond.methodLink RL 128 yX8_rest ∈ gw := gw_t6 (List.mem_of_getElem? (i := 21) rfl) rfl
theorem wq388 : Cond.instanceMethod yX8_rest ∈ gw := gw_t6 (List.mem_of_getElem? (i := 22) rfl) rfl
theorem wq389 : Cond.selects RX8 yX8_rest yX8_rest ∈ gw := gw_t6 (List.mem_of_getElem? (i := 23) rfl) rfl
theorem wq390 : Cond.code yX8_rest cX8_rest 2 (some .int) ∈ gw := gw_t6 (List.mem_of_getElem? (i := 24) rfl) rfl
theorem wq391 : Cond.methodLink RX8 110 yX8_whyNotRest ∈ gw := gw_t6 (List.mem_of_getElem? (i := 25) rfl) rfl
theorem wq392 : Cond.instanceMethod yX8_whyNotRest ∈ gw := gw_t6 (List.mem_of_getElem? (i := 27) rfl) rfl
theorem wq393 : Cond.selects RX8 yX8_whyNotRest yX8_whyNotRest ∈ gw := gw_p (n := _) (List.mem_of_getElem? (i := 27) rfl)
theorem wq394 : Cond.code yX8_whyNotRest cX8_whyNotRest 2 (some .int) ∈ gw := gw_t6 (List.mem_of_getElem? (i := 28) rfl) rfl
theorem wq395 : Cond.methodLink RX8 113 yX8_doRest ∈ gw := gw_t6 (List.mem_of_getElem? (i := 29) rfl) rfl
theorem wq396 : Cond.instanceMethod yX8_doRest ∈ gw := gw_t6 (List.mem_of_getElem? (i := 31) rfl) rfl
theorem wq397 : Cond.selects RX8 yX8_doRest yX8_doRest ∈ gw := gw_p (n := _) (List.mem_of_getElem? (i := 28) rfl)
theorem wq398 : Cond.code yX8_doRest cX8_doRest 3 (some .int) ∈ gw := gw_t6 (List.mem_of_getElem? (i := 32) rfl) rfl
theorem wq399 : Cond.methodLink RX8 107 yX8_hooksOf ∈ gw := gw_t6 (List.mem_of_getElem? (i := 33) rfl) rfl
theorem wq400 : Cond.instanceMethod yX8_hooksOf ∈ gw := gw_t6 (List.mem_of_getElem? (i := 35) rfl) rfl
theorem wq401 : Cond.selects RX8 yX8_hooksOf yX8_hooksOf ∈ gw := gw_p (n := _) (List.mem_of_getElem? (i := 29) rfl)
theorem wq402 : Cond.code yX8_hooksOf cX8_hooksOf 5 (some .int) ∈ gw := gw_t6 (List.mem_of_getElem? (i := 36) rfl) rfl
theorem wq403 : Cond.methodLink RX8 52 yX8_ofHook ∈ gw := gw_t6 (List.mem_of_getElem? (i := 37) rfl) rfl
theorem wq404 : Cond.instanceMethod yX8_ofHook ∈ gw := gw_t6 (List.mem_of_getElem? (i := 39) rfl) rfl
theorem wq405 : Cond.selects RX8 yX8_ofHook yX8_ofHook ∈ gw := gw_p (n := _) (List.mem_of_getElem? (i := 30) rfl)
theorem wq406 : Cond.code yX8_ofHook cX8_ofHook 4 (some .int) ∈ gw := gw_t6 (List.mem_of_getElem? (i := 40) rfl) rfl
theorem wq407 : Cond.methodLink RL 129 yL_ring ∈ gw := gw_t3 (List.mem_of_getElem? (i := 237) rfl) rfl
theorem wq408 : Cond.static yL_ring ∈ gw := gw_t3 (List.mem_of_getElem? (i := 238) rfl) rfl
theorem wq409 : Cond.codeWith yL_ring cL_ring 3 (some .int) [(0, 8, 11, 13)] ∈ gw := gw_t3 (List.mem_of_getElem? (i := 239) rfl) rfl
theorem wq410 : Cond.methodLink RL 27 yX7_ring ∈ gw := gw_t4 (List.mem_of_getElem? (i := 0) rfl) rfl
theorem wq411 : Cond.instanceMethod yX7_ring ∈ gw := gw_t4 (List.mem_of_getElem? (i := 1) rfl) rfl
theorem wq412 : Cond.selects RX7 yX7_ring yX7_ring ∈ gw := gw_t4 (List.mem_of_getElem? (i := 2) rfl) rfl
theorem wq413 : Cond.code yX7_ring cX7_ring 1 (some .int) ∈ gw := gw_t4 (List.mem_of_getElem? (i := 3) rfl) rfl
theorem wq414 : Cond.methodLink RX7 87 yX6_mayStrike ∈ gw := gw_t4 (List.mem_of_getElem? (i := 4) rfl) rfl
theorem wq415 : Cond.instanceMethod yX6_mayStrike ∈ gw := gw_t4 (List.mem_of_getElem? (i := 5) rfl) rfl
theorem wq416 : Cond.selects RX6 yX6_mayStrike yX6_mayStrike ∈ gw := gw_t4 (List.mem_of_getElem? (i := 6) rfl) rfl
theorem wq417 : Cond.code yX6_mayStrike cX6_mayStrike 1 (some .boolean) ∈ gw := gw_t4 (List.mem_of_getElem? (i := 7) rfl) rfl
theorem wq418 : Cond.methodLink RX6 121 yX0_maskOfLate ∈ gw := gw_t4 (List.mem_of_getElem? (i := 8) rfl) rfl
theorem wq419 : Cond.instanceMethod yX0_maskOfLate ∈ gw := gw_t2 (List.mem_of_getElem? (i := 103) rfl) rfl
theorem wq420 : Cond.selects RX0 yX0_maskOfLate yX0_maskOfLate ∈ gw := gw_t2 (List.mem_of_getElem? (i := 104) rfl) rfl
theorem wq421 : Cond.code yX0_maskOfLate cX0_maskOfLate 4 (some .int) ∈ gw := gw_t2 (List.mem_of_getElem? (i := 105) rfl) rfl
theorem wq422 : Cond.methodLink RX0 57 yX0_isInYard ∈ gw := gw_t2 (List.mem_of_getElem? (i := 106) rfl) rfl
theorem wq423 : Cond.methodLink RX7 93 yX6_strike ∈ gw := gw_t4 (List.mem_of_getElem? (i := 10) rfl) rfl
theorem wq424 : Cond.instanceMethod yX6_strike ∈ gw := gw_t4 (List.mem_of_getElem? (i := 11) rfl) rfl
theorem wq425 : Cond.selects RX6 yX6_strike yX6_strike ∈ gw := gw_t4 (List.mem_of_getElem? (i := 12) rfl) rfl
theorem wq426 : Cond.code yX6_strike cX6_strike 1 (some .int) ∈ gw := gw_t4 (List.mem_of_getElem? (i := 13) rfl) rfl
theorem wq427 : Cond.methodLink RL 131 yX8_ring ∈ gw := gw_t6 (List.mem_of_getElem? (i := 41) rfl) rfl
theorem wq428 : Cond.instanceMethod yX8_ring ∈ gw := gw_t6 (List.mem_of_getElem? (i := 42) rfl) rfl
theorem wq429 : Cond.selects RX8 yX8_ring yX8_ring ∈ gw := gw_t6 (List.mem_of_getElem? (i := 43) rfl) rfl
theorem wq430 : Cond.code yX8_ring cX8_ring 1 (some .int) ∈ gw := gw_t6 (List.mem_of_getElem? (i := 44) rfl) rfl
theorem wq431 : Cond.methodLink RX8 116 yX8_lateOnes ∈ gw := gw_t6 (List.mem_of_getElem? (i := 45) rfl) rfl
theorem wq432 : Cond.instanceMethod yX8_lateOnes ∈ gw := gw_t6 (List.mem_of_getElem? (i := 47) rfl) rfl
theorem wq433 : Cond.selects RX8 yX8_lateOnes yX8_lateOnes ∈ gw := gw_p (n := _) (List.mem_of_getElem? (i := 31) rfl)
theorem wq434 : Cond.code yX8_lateOnes cX8_lateOnes 3 (some .int) ∈ gw := gw_t6 (List.mem_of_getElem? (i := 48) rfl) rfl
theorem wq435 : Cond.methodLink RX8 119 yX8_doRing ∈ gw := gw_t6 (List.mem_of_getElem? (i := 49) rfl) rfl
theorem wq436 : Cond.instanceMethod yX8_doRing ∈ gw := gw_t6 (List.mem_of_getElem? (i := 51) rfl) rfl
theorem wq437 : Cond.selects RX8 yX8_doRing yX8_doRing ∈ gw := gw_p (n := _) (List.mem_of_getElem? (i := 32) rfl)
theorem wq438 : Cond.code yX8_doRing cX8_doRing 1 (some .int) ∈ gw := gw_t6 (List.mem_of_getElem? (i := 52) rfl) rfl
theorem wq439 : Cond.methodLink RL 132 yL_grow ∈ gw := gw_t4 (List.mem_of_getElem? (i := 14) rfl) rfl
theorem wq440 : Cond.static yL_grow ∈ gw := gw_t4 (List.mem_of_getElem? (i := 15) rfl) rfl
theorem wq441 : Cond.codeWith yL_grow cL_grow 5 (some .int) [(0, 10, 13, 19), (0, 10, 17, 34), (0, 10, 21, 13)] ∈ gw := gw_t4 (List.mem_of_getElem? (i := 16) rfl) rfl
theorem wq442 : Cond.classLink RL 34 "java/lang/IllegalArgumentException" ∈ gw := gw_t4 (List.mem_of_getElem? (i := 17) rfl) rfl
theorem wq443 : Cond.methodLink RL 30 yX7_grow ∈ gw := gw_t4 (List.mem_of_getElem? (i := 18) rfl) rfl
theorem wq444 : Cond.instanceMethod yX7_grow ∈ gw := gw_t4 (List.mem_of_getElem? (i := 19) rfl) rfl
theorem wq445 : Cond.selects RX7 yX7_grow yX7_grow ∈ gw := gw_t4 (List.mem_of_getElem? (i := 20) rfl) rfl
theorem wq446 : Cond.code yX7_grow cX7_grow 3 (some .int) ∈ gw := gw_t4 (List.mem_of_getElem? (i := 21) rfl) rfl
theorem wq447 : Cond.fieldLink RX7 107 "PinnedLeaves$Yard" "leaves" "LPinnedLeaves$Leaves;" ∈ gw := gw_t1 (List.mem_of_getElem? (i := 159) rfl) rfl
theorem wq448 : Cond.methodLink RX7 96 yX7_needBranch ∈ gw := gw_t4 (List.mem_of_getElem? (i := 22) rfl) rfl
theorem wq449 : Cond.static yX7_needBranch ∈ gw := gw_t4 (List.mem_of_getElem? (i := 23) rfl) rfl
theorem wq450 : Cond.code yX7_needBranch cX7_needBranch 1 none ∈ gw := gw_t4 (List.mem_of_getElem? (i := 24) rfl) rfl
theorem wq451 : Cond.methodLink RX7 99 yX7_needColour ∈ gw := gw_t4 (List.mem_of_getElem? (i := 26) rfl) rfl
theorem wq452 : Cond.static yX7_needColour ∈ gw := gw_t4 (List.mem_of_getElem? (i := 27) rfl) rfl
theorem wq453 : Cond.code yX7_needColour cX7_needColour 1 none ∈ gw := gw_t4 (List.mem_of_getElem? (i := 28) rfl) rfl
theorem wq454 : Cond.classLink RX7 181 "java/lang/IllegalArgumentException" ∈ gw := gw_t4 (List.mem_of_getElem? (i := 29) rfl) rfl
theorem wq455 : Cond.initialized "java/lang/IllegalArgumentException" ∈ gw := gw_t1 (List.mem_of_getElem? (i := 17) rfl) rfl
theorem wq456 : Cond.methodLink RX7 102 yX6_maySprout ∈ gw := gw_t4 (List.mem_of_getElem? (i := 45) rfl) rfl
theorem wq457 : Cond.instanceMethod yX6_maySprout ∈ gw := gw_t4 (List.mem_of_getElem? (i := 46) rfl) rfl
theorem wq458 : Cond.selects RX6 yX6_maySprout yX6_maySprout ∈ gw := gw_t4 (List.mem_of_getElem? (i := 47) rfl) rfl
theorem wq459 : Cond.code yX6_maySprout cX6_maySprout 2 (some .boolean) ∈ gw := gw_t4 (List.mem_of_getElem? (i := 48) rfl) rfl
theorem wq460 : Cond.fieldLink RX6 124 "PinnedLeaves$Leaves" "onBranch" "LPinnedLeaves$Row;" ∈ gw := gw_t1 (List.mem_of_getElem? (i := 59) rfl) rfl
theorem wq461 : Cond.fieldLink RX6 127 "PinnedLeaves$Leaves" "grown" "I" ∈ gw := gw_t1 (List.mem_of_getElem? (i := 56) rfl) rfl
theorem wq462 : Cond.methodLink RX7 111 yX2_sprout ∈ gw := gw_t4 (List.mem_of_getElem? (i := 50) rfl) rfl
theorem wq463 : Cond.instanceMethod yX2_sprout ∈ gw := gw_t4 (List.mem_of_getElem? (i := 51) rfl) rfl
theorem wq464 : Cond.selects RX2 yX2_sprout yX2_sprout ∈ gw := gw_t4 (List.mem_of_getElem? (i := 52) rfl) rfl
theorem wq465 : Cond.code yX2_sprout cX2_sprout 4 (some .int) ∈ gw := gw_t4 (List.mem_of_getElem? (i := 53) rfl) rfl
theorem wq466 : Cond.methodLink RX2 42 yX4_put ∈ gw := gw_t4 (List.mem_of_getElem? (i := 54) rfl) rfl
theorem wq467 : Cond.methodLink RL 135 yX8_grow ∈ gw := gw_t6 (List.mem_of_getElem? (i := 53) rfl) rfl
theorem wq468 : Cond.instanceMethod yX8_grow ∈ gw := gw_t6 (List.mem_of_getElem? (i := 54) rfl) rfl
theorem wq469 : Cond.selects RX8 yX8_grow yX8_grow ∈ gw := gw_t6 (List.mem_of_getElem? (i := 55) rfl) rfl
theorem wq470 : Cond.code yX8_grow cX8_grow 3 (some .int) ∈ gw := gw_t6 (List.mem_of_getElem? (i := 56) rfl) rfl
theorem wq471 : Cond.methodLink RX8 128 yX8_whyNotGrow ∈ gw := gw_t6 (List.mem_of_getElem? (i := 57) rfl) rfl
theorem wq472 : Cond.instanceMethod yX8_whyNotGrow ∈ gw := gw_t6 (List.mem_of_getElem? (i := 59) rfl) rfl
theorem wq473 : Cond.selects RX8 yX8_whyNotGrow yX8_whyNotGrow ∈ gw := gw_p (n := _) (List.mem_of_getElem? (i := 33) rfl)
theorem wq474 : Cond.code yX8_whyNotGrow cX8_whyNotGrow 3 (some .int) ∈ gw := gw_t6 (List.mem_of_getElem? (i := 60) rfl) rfl
theorem wq475 : Cond.methodLink RX8 122 yX8_isBranch ∈ gw := gw_t6 (List.mem_of_getElem? (i := 61) rfl) rfl
theorem wq476 : Cond.static yX8_isBranch ∈ gw := gw_t6 (List.mem_of_getElem? (i := 62) rfl) rfl
theorem wq477 : Cond.code yX8_isBranch cX8_isBranch 1 (some .boolean) ∈ gw := gw_t6 (List.mem_of_getElem? (i := 63) rfl) rfl
theorem wq478 : Cond.methodLink RX8 125 yX8_isColour ∈ gw := gw_t6 (List.mem_of_getElem? (i := 64) rfl) rfl
theorem wq479 : Cond.static yX8_isColour ∈ gw := gw_t6 (List.mem_of_getElem? (i := 65) rfl) rfl
theorem wq480 : Cond.code yX8_isColour cX8_isColour 1 (some .boolean) ∈ gw := gw_t6 (List.mem_of_getElem? (i := 66) rfl) rfl
theorem wq481 : Cond.methodLink RX8 131 yX8_doGrow ∈ gw := gw_t6 (List.mem_of_getElem? (i := 67) rfl) rfl
theorem wq482 : Cond.instanceMethod yX8_doGrow ∈ gw := gw_t6 (List.mem_of_getElem? (i := 69) rfl) rfl
theorem wq483 : Cond.selects RX8 yX8_doGrow yX8_doGrow ∈ gw := gw_p (n := _) (List.mem_of_getElem? (i := 34) rfl)
theorem wq484 : Cond.code yX8_doGrow cX8_doGrow 4 (some .int) ∈ gw := gw_t6 (List.mem_of_getElem? (i := 70) rfl) rfl
theorem wq485 : Cond.methodLink RL 136 yL_note ∈ gw := gw_t4 (List.mem_of_getElem? (i := 55) rfl) rfl
theorem wq486 : Cond.static yL_note ∈ gw := gw_t4 (List.mem_of_getElem? (i := 56) rfl) rfl
theorem wq487 : Cond.codeWith yL_note cL_note 6 (some .int) [(0, 12, 15, 19), (0, 12, 19, 13)] ∈ gw := gw_t4 (List.mem_of_getElem? (i := 57) rfl) rfl
theorem wq488 : Cond.methodLink RL 36 yX7_note ∈ gw := gw_t4 (List.mem_of_getElem? (i := 58) rfl) rfl
theorem wq489 : Cond.instanceMethod yX7_note ∈ gw := gw_t4 (List.mem_of_getElem? (i := 59) rfl) rfl
theorem wq490 : Cond.selects RX7 yX7_note yX7_note ∈ gw := gw_t4 (List.mem_of_getElem? (i := 60) rfl) rfl
theorem wq491 : Cond.code yX7_note cX7_note 4 (some .int) ∈ gw := gw_t4 (List.mem_of_getElem? (i := 61) rfl) rfl
theorem wq492 : Cond.methodLink RX7 117 yX7_needHook ∈ gw := gw_t4 (List.mem_of_getElem? (i := 62) rfl) rfl
theorem wq493 : Cond.instanceMethod yX7_needHook ∈ gw := gw_t4 (List.mem_of_getElem? (i := 64) rfl) rfl
theorem wq494 : Cond.selects RX7 yX7_needHook yX7_needHook ∈ gw := gw_p (n := _) (List.mem_of_getElem? (i := 8) rfl)
theorem wq495 : Cond.code yX7_needHook cX7_needHook 3 none ∈ gw := gw_t4 (List.mem_of_getElem? (i := 65) rfl) rfl
theorem wq496 : Cond.methodLink RX7 121 yX6_mayWrite ∈ gw := gw_t4 (List.mem_of_getElem? (i := 67) rfl) rfl
theorem wq497 : Cond.instanceMethod yX6_mayWrite ∈ gw := gw_t4 (List.mem_of_getElem? (i := 68) rfl) rfl
theorem wq498 : Cond.selects RX6 yX6_mayWrite yX6_mayWrite ∈ gw := gw_t4 (List.mem_of_getElem? (i := 69) rfl) rfl
theorem wq499 : Cond.code yX6_mayWrite cX6_mayWrite 4 (some .boolean) ∈ gw := gw_t4 (List.mem_of_getElem? (i := 70) rfl) rfl
theorem wq500 : Cond.methodLink RX6 130 yX1_kindOf ∈ gw := gw_t3 (List.mem_of_getElem? (i := 22) rfl) rfl
theorem wq501 : Cond.instanceMethod yX1_kindOf ∈ gw := gw_t3 (List.mem_of_getElem? (i := 5) rfl) rfl
theorem wq502 : Cond.selects RX1 yX1_kindOf yX1_kindOf ∈ gw := gw_t3 (List.mem_of_getElem? (i := 6) rfl) rfl
theorem wq503 : Cond.code yX1_kindOf cX1_kindOf 4 (some .int) ∈ gw := gw_t3 (List.mem_of_getElem? (i := 7) rfl) rfl
theorem wq504 : Cond.methodLink RX1 33 yX4_get ∈ gw := gw_t3 (List.mem_of_getElem? (i := 8) rfl) rfl
theorem wq505 : Cond.methodLink RX7 127 yX6_write ∈ gw := gw_t4 (List.mem_of_getElem? (i := 72) rfl) rfl
theorem wq506 : Cond.instanceMethod yX6_write ∈ gw := gw_t4 (List.mem_of_getElem? (i := 73) rfl) rfl
theorem wq507 : Cond.selects RX6 yX6_write yX6_write ∈ gw := gw_t4 (List.mem_of_getElem? (i := 74) rfl) rfl
theorem wq508 : Cond.code yX6_write cX6_write 5 (some .int) ∈ gw := gw_t4 (List.mem_of_getElem? (i := 75) rfl) rfl
theorem wq509 : Cond.methodLink RX6 133 yX1_write ∈ gw := gw_t4 (List.mem_of_getElem? (i := 76) rfl) rfl
theorem wq510 : Cond.instanceMethod yX1_write ∈ gw := gw_t4 (List.mem_of_getElem? (i := 77) rfl) rfl
theorem wq511 : Cond.selects RX1 yX1_write yX1_write ∈ gw := gw_t4 (List.mem_of_getElem? (i := 78) rfl) rfl
theorem wq512 : Cond.code yX1_write cX1_write 6 none ∈ gw := gw_t4 (List.mem_of_getElem? (i := 79) rfl) rfl
theorem wq513 : Cond.methodLink RL 139 yX8_note ∈ gw := gw_t6 (List.mem_of_getElem? (i := 71) rfl) rfl
theorem wq514 : Cond.instanceMethod yX8_note ∈ gw := gw_t6 (List.mem_of_getElem? (i := 72) rfl) rfl
theorem wq515 : Cond.selects RX8 yX8_note yX8_note ∈ gw := gw_t6 (List.mem_of_getElem? (i := 73) rfl) rfl
theorem wq516 : Cond.code yX8_note cX8_note 4 (some .int) ∈ gw := gw_t6 (List.mem_of_getElem? (i := 74) rfl) rfl
theorem wq517 : Cond.methodLink RX8 137 yX8_whyNotNote ∈ gw := gw_t6 (List.mem_of_getElem? (i := 75) rfl) rfl
theorem wq518 : Cond.instanceMethod yX8_whyNotNote ∈ gw := gw_t6 (List.mem_of_getElem? (i := 77) rfl) rfl
theorem wq519 : Cond.selects RX8 yX8_whyNotNote yX8_whyNotNote ∈ gw := gw_p (n := _) (List.mem_of_getElem? (i := 35) rfl)
theorem wq520 : Cond.code yX8_whyNotNote cX8_whyNotNote 4 (some .int) ∈ gw := gw_t6 (List.mem_of_getElem? (i := 78) rfl) rfl
theorem wq521 : Cond.methodLink RX8 134 yX8_isHook ∈ gw := gw_t6 (List.mem_of_getElem? (i := 79) rfl) rfl
theorem wq522 : Cond.static yX8_isHook ∈ gw := gw_t6 (List.mem_of_getElem? (i := 80) rfl) rfl
theorem wq523 : Cond.code yX8_isHook cX8_isHook 1 (some .boolean) ∈ gw := gw_t6 (List.mem_of_getElem? (i := 81) rfl) rfl
theorem wq524 : Cond.methodLink RX8 140 yX8_doNote ∈ gw := gw_t6 (List.mem_of_getElem? (i := 82) rfl) rfl
theorem wq525 : Cond.instanceMethod yX8_doNote ∈ gw := gw_t6 (List.mem_of_getElem? (i := 84) rfl) rfl
theorem wq526 : Cond.selects RX8 yX8_doNote yX8_doNote ∈ gw := gw_p (n := _) (List.mem_of_getElem? (i := 36) rfl)
theorem wq527 : Cond.code yX8_doNote cX8_doNote 4 (some .int) ∈ gw := gw_t6 (List.mem_of_getElem? (i := 85) rfl) rfl
theorem wq528 : Cond.methodLink RL 140 yL_pin ∈ gw := gw_t4 (List.mem_of_getElem? (i := 80) rfl) rfl
theorem wq529 : Cond.static yL_pin ∈ gw := gw_t4 (List.mem_of_getElem? (i := 81) rfl) rfl
theorem wq530 : Cond.codeWith yL_pin cL_pin 5 (some .int) [(0, 10, 13, 19), (0, 10, 17, 13)] ∈ gw := gw_t4 (List.mem_of_getElem? (i := 82) rfl) rfl
theorem wq531 : Cond.methodLink RL 40 yX7_pin ∈ gw := gw_t4 (List.mem_of_getElem? (i := 83) rfl) rfl
theorem wq532 : Cond.instanceMethod yX7_pin ∈ gw := gw_t4 (List.mem_of_getElem? (i := 84) rfl) rfl
theorem wq533 : Cond.selects RX7 yX7_pin yX7_pin ∈ gw := gw_t4 (List.mem_of_getElem? (i := 85) rfl) rfl
theorem wq534 : Cond.code yX7_pin cX7_pin 3 (some .int) ∈ gw := gw_t4 (List.mem_of_getElem? (i := 86) rfl) rfl
theorem wq535 : Cond.methodLink RX7 131 yX6_mayFasten ∈ gw := gw_t4 (List.mem_of_getElem? (i := 87) rfl) rfl
theorem wq536 : Cond.instanceMethod yX6_mayFasten ∈ gw := gw_t4 (List.mem_of_getElem? (i := 88) rfl) rfl
theorem wq537 : Cond.selects RX6 yX6_mayFasten yX6_mayFasten ∈ gw := gw_t4 (List.mem_of_getElem? (i := 89) rfl) rfl
theorem wq538 : Cond.code yX6_mayFasten cX6_mayFasten 3 (some .boolean) ∈ gw := gw_t4 (List.mem_of_getElem? (i := 90) rfl) rfl
theorem wq539 : Cond.methodLink RX7 137 yX6_fasten ∈ gw := gw_t4 (List.mem_of_getElem? (i := 92) rfl) rfl
theorem wq540 : Cond.instanceMethod yX6_fasten ∈ gw := gw_t4 (List.mem_of_getElem? (i := 93) rfl) rfl
theorem wq541 : Cond.selects RX6 yX6_fasten yX6_fasten ∈ gw := gw_t4 (List.mem_of_getElem? (i := 94) rfl) rfl
theorem wq542 : Cond.code yX6_fasten cX6_fasten 4 (some .int) ∈ gw := gw_t4 (List.mem_of_getElem? (i := 95) rfl) rfl
theorem wq543 : Cond.methodLink RX6 137 yX1_leafOf ∈ gw := gw_t3 (List.mem_of_getElem? (i := 21) rfl) rfl
theorem wq544 : Cond.instanceMethod yX1_leafOf ∈ gw := gw_t3 (List.mem_of_getElem? (i := 10) rfl) rfl
theorem wq545 : Cond.selects RX1 yX1_leafOf yX1_leafOf ∈ gw := gw_t3 (List.mem_of_getElem? (i := 11) rfl) rfl
theorem wq546 : Cond.code yX1_leafOf cX1_leafOf 4 (some .int) ∈ gw := gw_t3 (List.mem_of_getElem? (i := 12) rfl) rfl
theorem wq547 : Cond.methodLink RX6 140 yX1_branchOf ∈ gw := gw_t4 (List.mem_of_getElem? (i := 96) rfl) rfl
theorem wq548 : Cond.instanceMethod yX1_branchOf ∈ gw := gw_t3 (List.mem_of_getElem? (i := 14) rfl) rfl
theorem wq549 : Cond.selects RX1 yX1_branchOf yX1_branchOf ∈ gw := gw_t3 (List.mem_of_getElem? (i := 15) rfl) rfl
theorem wq550 : Cond.code yX1_branchOf cX1_branchOf 3 (some .int) ∈ gw := gw_t3 (List.mem_of_getElem? (i := 16) rfl) rfl
theorem wq551 : Cond.methodLink RX6 143 yX1_fasten ∈ gw := gw_t4 (List.mem_of_getElem? (i := 97) rfl) rfl
theorem wq552 : Cond.instanceMethod yX1_fasten ∈ gw := gw_t4 (List.mem_of_getElem? (i := 98) rfl) rfl
theorem wq553 : Cond.selects RX1 yX1_fasten yX1_fasten ∈ gw := gw_t4 (List.mem_of_getElem? (i := 99) rfl) rfl
theorem wq554 : Cond.code yX1_fasten cX1_fasten 4 none ∈ gw := gw_t4 (List.mem_of_getElem? (i := 100) rfl) rfl
theorem wq555 : Cond.methodLink RX6 146 yX1_release ∈ gw := gw_t4 (List.mem_of_getElem? (i := 101) rfl) rfl
theorem wq556 : Cond.methodLink RL 142 yX8_pin ∈ gw := gw_t6 (List.mem_of_getElem? (i := 86) rfl) rfl
theorem wq557 : Cond.instanceMethod yX8_pin ∈ gw := gw_t6 (List.mem_of_getElem? (i := 87) rfl) rfl
theorem wq558 : Cond.selects RX8 yX8_pin yX8_pin ∈ gw := gw_t6 (List.mem_of_getElem? (i := 88) rfl) rfl
theorem wq559 : Cond.code yX8_pin cX8_pin 3 (some .int) ∈ gw := gw_t6 (List.mem_of_getElem? (i := 89) rfl) rfl
theorem wq560 : Cond.methodLink RX8 143 yX8_whyNotPin ∈ gw := gw_t6 (List.mem_of_getElem? (i := 90) rfl) rfl
theorem wq561 : Cond.instanceMethod yX8_whyNotPin ∈ gw := gw_t6 (List.mem_of_getElem? (i := 92) rfl) rfl
theorem wq562 : Cond.selects RX8 yX8_whyNotPin yX8_whyNotPin ∈ gw := gw_p (n := _) (List.mem_of_getElem? (i := 37) rfl)
theorem wq563 : Cond.code yX8_whyNotPin cX8_whyNotPin 3 (some .int) ∈ gw := gw_t6 (List.mem_of_getElem? (i := 93) rfl) rfl
theorem wq564 : Cond.methodLink RX8 146 yX8_doPin ∈ gw := gw_t6 (List.mem_of_getElem? (i := 94) rfl) rfl
theorem wq565 : Cond.instanceMethod yX8_doPin ∈ gw := gw_t6 (List.mem_of_getElem? (i := 96) rfl) rfl
theorem wq566 : Cond.selects RX8 yX8_doPin yX8_doPin ∈ gw := gw_p (n := _) (List.mem_of_getElem? (i := 38) rfl)
theorem wq567 : Cond.code yX8_doPin cX8_doPin 5 (some .int) ∈ gw := gw_t6 (List.mem_of_getElem? (i := 97) rfl) rfl
theorem wq568 : Cond.methodLink RL 143 yL_loosen ∈ gw := gw_t4 (List.mem_of_getElem? (i := 102) rfl) rfl
theorem wq569 : Cond.static yL_loosen ∈ gw := gw_t4 (List.mem_of_getElem? (i := 103) rfl) rfl
theorem wq570 : Cond.codeWith yL_loosen cL_loosen 5 (some .int) [(0, 10, 13, 19), (0, 10, 17, 13)] ∈ gw := gw_t4 (List.mem_of_getElem? (i := 104) rfl) rfl
theorem wq571 : Cond.methodLink RL 43 yX7_loosen ∈ gw := gw_t4 (List.mem_of_getElem? (i := 105) rfl) rfl
theorem wq572 : Cond.instanceMethod yX7_loosen ∈ gw := gw_t4 (List.mem_of_getElem? (i := 106) rfl) rfl
theorem wq573 : Cond.selects RX7 yX7_loosen yX7_loosen ∈ gw := gw_t4 (List.mem_of_getElem? (i := 107) rfl) rfl
theorem wq574 : Cond.code yX7_loosen cX7_loosen 3 (some .int) ∈ gw := gw_t4 (List.mem_of_getElem? (i := 108) rfl) rfl
theorem wq575 : Cond.methodLink RX7 140 yX6_mayRelease ∈ gw := gw_t4 (List.mem_of_getElem? (i := 109) rfl) rfl
theorem wq576 : Cond.instanceMethod yX6_mayRelease ∈ gw := gw_t4 (List.mem_of_getElem? (i := 110) rfl) rfl
theorem wq577 : Cond.selects RX6 yX6_mayRelease yX6_mayRelease ∈ gw := gw_t4 (List.mem_of_getElem? (i := 111) rfl) rfl
theorem wq578 : Cond.code yX6_mayRelease cX6_mayRelease 3 (some .boolean) ∈ gw := gw_t4 (List.mem_of_getElem? (i := 112) rfl) rfl
theorem wq579 : Cond.methodLink RX7 145 yX6_release ∈ gw := gw_t4 (List.mem_of_getElem? (i := 114) rfl) rfl
theorem wq580 : Cond.instanceMethod yX6_release ∈ gw := gw_t4 (List.mem_of_getElem? (i := 115) rfl) rfl
theorem wq581 : Cond.selects RX6 yX6_release yX6_release ∈ gw := gw_t4 (List.mem_of_getElem? (i := 116) rfl) rfl
theorem wq582 : Cond.code yX6_release cX6_release 4 (some .int) ∈ gw := gw_t4 (List.mem_of_getElem? (i := 117) rfl) rfl
theorem wq583 : Cond.methodLink RL 145 yX8_loosen ∈ gw := gw_t6 (List.mem_of_getElem? (i := 98) rfl) rfl
theorem wq584 : Cond.instanceMethod yX8_loosen ∈ gw := gw_t6 (List.mem_of_getElem? (i := 99) rfl) rfl
theorem wq585 : Cond.selects RX8 yX8_loosen yX8_loosen ∈ gw := gw_t6 (List.mem_of_getElem? (i := 100) rfl) rfl
theorem wq586 : Cond.code yX8_loosen cX8_loosen 3 (some .int) ∈ gw := gw_t6 (List.mem_of_getElem? (i := 101) rfl) rfl
theorem wq587 : Cond.methodLink RX8 149 yX8_whyNotUse ∈ gw := gw_t6 (List.mem_of_getElem? (i := 102) rfl) rfl
theorem wq588 : Cond.instanceMethod yX8_whyNotUse ∈ gw := gw_t6 (List.mem_of_getElem? (i := 104) rfl) rfl
theorem wq589 : Cond.selects RX8 yX8_whyNotUse yX8_whyNotUse ∈ gw := gw_p (n := _) (List.mem_of_getElem? (i := 39) rfl)
theorem wq590 : Cond.code yX8_whyNotUse cX8_whyNotUse 3 (some .int) ∈ gw := gw_t6 (List.mem_of_getElem? (i := 105) rfl) rfl
theorem wq591 : Cond.methodLink RX8 152 yX8_doLoosen ∈ gw := gw_t6 (List.mem_of_getElem? (i := 106) rfl) rfl
theorem wq592 : Cond.instanceMethod yX8_doLoosen ∈ gw := gw_t6 (List.mem_of_getElem? (i := 108) rfl) rfl
theorem wq593 : Cond.selects RX8 yX8_doLoosen yX8_doLoosen ∈ gw := gw_p (n := _) (List.mem_of_getElem? (i := 40) rfl)
theorem wq594 : Cond.code yX8_doLoosen cX8_doLoosen 4 (some .int) ∈ gw := gw_t6 (List.mem_of_getElem? (i := 109) rfl) rfl
theorem wq595 : Cond.methodLink RL 146 yL_look ∈ gw := gw_t4 (List.mem_of_getElem? (i := 118) rfl) rfl
theorem wq596 : Cond.static yL_look ∈ gw := gw_t4 (List.mem_of_getElem? (i := 119) rfl) rfl
theorem wq597 : Cond.codeWith yL_look cL_look 5 (some .int) [(0, 10, 13, 19), (0, 10, 17, 13)] ∈ gw := gw_t4 (List.mem_of_getElem? (i := 120) rfl) rfl
theorem wq598 : Cond.methodLink RL 46 yX7_look ∈ gw := gw_t4 (List.mem_of_getElem? (i := 121) rfl) rfl
theorem wq599 : Cond.instanceMethod yX7_look ∈ gw := gw_t4 (List.mem_of_getElem? (i := 122) rfl) rfl
theorem wq600 : Cond.selects RX7 yX7_look yX7_look ∈ gw := gw_t4 (List.mem_of_getElem? (i := 123) rfl) rfl
theorem wq601 : Cond.code yX7_look cX7_look 3 (some .int) ∈ gw := gw_t4 (List.mem_of_getElem? (i := 124) rfl) rfl
theorem wq602 : Cond.methodLink RX7 148 yX6_lookThrough ∈ gw := gw_t4 (List.mem_of_getElem? (i := 125) rfl) rfl
theorem wq603 : Cond.instanceMethod yX6_lookThrough ∈ gw := gw_t4 (List.mem_of_getElem? (i := 126) rfl) rfl
theorem wq604 : Cond.selects RX6 yX6_lookThrough yX6_lookThrough ∈ gw := gw_t4 (List.mem_of_getElem? (i := 127) rfl) rfl
theorem wq605 : Cond.code yX6_lookThrough cX6_lookThrough 4 (some .int) ∈ gw := gw_t4 (List.mem_of_getElem? (i := 128) rfl) rfl
theorem wq606 : Cond.fieldLink RX6 149 "PinnedLeaves$Leaves" "where" "LPinnedLeaves$Row;" ∈ gw := gw_t1 (List.mem_of_getElem? (i := 64) rfl) rfl
theorem wq607 : Cond.fieldLink RX6 152 "PinnedLeaves$Leaves" "colours" "LPinnedLeaves$Row;" ∈ gw := gw_t1 (List.mem_of_getElem? (i := 62) rfl) rfl
theorem wq608 : Cond.methodLink RL 148 yX8_look ∈ gw := gw_t6 (List.mem_of_getElem? (i := 110) rfl) rfl
theorem wq609 : Cond.instanceMethod yX8_look ∈ gw := gw_t6 (List.mem_of_getElem? (i := 111) rfl) rfl
theorem wq610 : Cond.selects RX8 yX8_look yX8_look ∈ gw := gw_t6 (List.mem_of_getElem? (i := 112) rfl) rfl
theorem wq611 : Cond.code yX8_look cX8_look 4 (some .int) ∈ gw := gw_t6 (List.mem_of_getElem? (i := 113) rfl) rfl
theorem wq612 : Cond.methodLink RL 149 yL_take ∈ gw := gw_t4 (List.mem_of_getElem? (i := 129) rfl) rfl
theorem wq613 : Cond.static yL_take ∈ gw := gw_t4 (List.mem_of_getElem? (i := 130) rfl) rfl
theorem wq614 : Cond.codeWith yL_take cL_take 5 (some .int) [(0, 10, 13, 19), (0, 10, 17, 13)] ∈ gw := gw_t4 (List.mem_of_getElem? (i := 131) rfl) rfl
theorem wq615 : Cond.methodLink RL 49 yX7_take ∈ gw := gw_t4 (List.mem_of_getElem? (i := 132) rfl) rfl
theorem wq616 : Cond.instanceMethod yX7_take ∈ gw := gw_t4 (List.mem_of_getElem? (i := 133) rfl) rfl
theorem wq617 : Cond.selects RX7 yX7_take yX7_take ∈ gw := gw_t4 (List.mem_of_getElem? (i := 134) rfl) rfl
theorem wq618 : Cond.code yX7_take cX7_take 3 (some .int) ∈ gw := gw_t4 (List.mem_of_getElem? (i := 135) rfl) rfl
theorem wq619 : Cond.methodLink RX7 151 yX6_mayTakeOff ∈ gw := gw_t4 (List.mem_of_getElem? (i := 136) rfl) rfl
theorem wq620 : Cond.instanceMethod yX6_mayTakeOff ∈ gw := gw_t4 (List.mem_of_getElem? (i := 137) rfl) rfl
theorem wq621 : Cond.selects RX6 yX6_mayTakeOff yX6_mayTakeOff ∈ gw := gw_t4 (List.mem_of_getElem? (i := 138) rfl) rfl
theorem wq622 : Cond.code yX6_mayTakeOff cX6_mayTakeOff 3 (some .boolean) ∈ gw := gw_t4 (List.mem_of_getElem? (i := 139) rfl) rfl
theorem wq623 : Cond.methodLink RX7 156 yX6_takeOff ∈ gw := gw_t4 (List.mem_of_getElem? (i := 141) rfl) rfl
theorem wq624 : Cond.instanceMethod yX6_takeOff ∈ gw := gw_t4 (List.mem_of_getElem? (i := 142) rfl) rfl
theorem wq625 : Cond.selects RX6 yX6_takeOff yX6_takeOff ∈ gw := gw_t4 (List.mem_of_getElem? (i := 143) rfl) rfl
theorem wq626 : Cond.code yX6_takeOff cX6_takeOff 5 (some .int) ∈ gw := gw_t4 (List.mem_of_getElem? (i := 144) rfl) rfl
theorem wq627 : Cond.fieldLink RX6 159 "PinnedLeaves$Children" "tookOff" "LPinnedLeaves$Row;" ∈ gw := gw_t1 (List.mem_of_getElem? (i := 103) rfl) rfl
theorem wq628 : Cond.methodLink RX6 171 Lib.Math.max.name ∈ gw := gw_t4 (List.mem_of_getElem? (i := 159) rfl) rfl
theorem wq629 : Cond.static Lib.Math.max.name ∈ gw := gw_t4 (List.mem_of_getElem? (i := 160) rfl) rfl
theorem wq630 : Cond.code Lib.Math.max.name Lib.Math.max.code 2 (some .int) ∈ gw := gw_t4 (List.mem_of_getElem? (i := 161) rfl) rfl
theorem wq631 : Cond.methodLink RX6 155 yX2_putAside ∈ gw := gw_t4 (List.mem_of_getElem? (i := 145) rfl) rfl
theorem wq632 : Cond.instanceMethod yX2_putAside ∈ gw := gw_t4 (List.mem_of_getElem? (i := 146) rfl) rfl
theorem wq633 : Cond.selects RX2 yX2_putAside yX2_putAside ∈ gw := gw_t4 (List.mem_of_getElem? (i := 147) rfl) rfl
theorem wq634 : Cond.code yX2_putAside cX2_putAside 4 none ∈ gw := gw_t4 (List.mem_of_getElem? (i := 148) rfl) rfl
theorem wq635 : Cond.methodLink RX2 46 yX4_get ∈ gw := gw_t4 (List.mem_of_getElem? (i := 149) rfl) rfl
theorem wq636 : Cond.methodLink RX6 162 yX4_add ∈ gw := gw_t4 (List.mem_of_getElem? (i := 150) rfl) rfl
theorem wq637 : Cond.methodLink RX6 165 yX6_clear ∈ gw := gw_t4 (List.mem_of_getElem? (i := 151) rfl) rfl
theorem wq638 : Cond.instanceMethod yX6_clear ∈ gw := gw_t4 (List.mem_of_getElem? (i := 152) rfl) rfl
theorem wq639 : Cond.selects RX6 yX6_clear yX6_clear ∈ gw := gw_t4 (List.mem_of_getElem? (i := 153) rfl) rfl
theorem wq640 : Cond.code yX6_clear cX6_clear 7 (some .int) ∈ gw := gw_t4 (List.mem_of_getElem? (i := 154) rfl) rfl
theorem wq641 : Cond.fieldLink RX6 186 "PinnedLeaves$Children" "heaps" "LPinnedLeaves$Row;" ∈ gw := gw_t1 (List.mem_of_getElem? (i := 112) rfl) rfl
theorem wq642 : Cond.fieldLink RX6 196 "PinnedLeaves$Children" "burnt" "LPinnedLeaves$Row;" ∈ gw := gw_t1 (List.mem_of_getElem? (i := 105) rfl) rfl
theorem wq643 : Cond.fieldLink RX6 199 "PinnedLeaves$Children" "rakings" "LPinnedLeaves$Row;" ∈ gw := gw_t1 (List.mem_of_getElem? (i := 107) rfl) rfl
theorem wq644 : Cond.methodLink RX6 189 yX6_mayBurn ∈ gw := gw_t2 (List.mem_of_getElem? (i := 87) rfl) rfl
theorem wq645 : Cond.instanceMethod yX6_mayBurn ∈ gw := gw_t2 (List.mem_of_getElem? (i := 88) rfl) rfl
theorem wq646 : Cond.selects RX6 yX6_mayBurn yX6_mayBurn ∈ gw := gw_t2 (List.mem_of_getElem? (i := 89) rfl) rfl
theorem wq647 : Cond.code yX6_mayBurn cX6_mayBurn 6 (some .boolean) ∈ gw := gw_t2 (List.mem_of_getElem? (i := 90) rfl) rfl
theorem wq648 : Cond.fieldLink RX6 207 "PinnedLeaves$Leaves" "asideSince" "LPinnedLeaves$Row;" ∈ gw := gw_t1 (List.mem_of_getElem? (i := 68) rfl) rfl
theorem wq649 : Cond.fieldLink RX6 213 "PinnedLeaves$Hooks" "pinned" "LPinnedLeaves$Row;" ∈ gw := gw_t1 (List.mem_of_getElem? (i := 138) rfl) rfl
theorem wq650 : Cond.methodLink RX6 210 yX1_firstOf ∈ gw := gw_t2 (List.mem_of_getElem? (i := 91) rfl) rfl
theorem wq651 : Cond.methodLink RX6 216 yX4_number ∈ gw := gw_t2 (List.mem_of_getElem? (i := 94) rfl) rfl
theorem wq652 : Cond.methodLink RX6 193 yX2_burn ∈ gw := gw_t4 (List.mem_of_getElem? (i := 155) rfl) rfl
theorem wq653 : Cond.instanceMethod yX2_burn ∈ gw := gw_t4 (List.mem_of_getElem? (i := 156) rfl) rfl
theorem wq654 : Cond.selects RX2 yX2_burn yX2_burn ∈ gw := gw_t4 (List.mem_of_getElem? (i := 157) rfl) rfl
theorem wq655 : Cond.code yX2_burn cX2_burn 2 none ∈ gw := gw_t4 (List.mem_of_getElem? (i := 158) rfl) rfl
theorem wq656 : Cond.methodLink RX6 201 yX0_number ∈ gw := gw_t2 (List.mem_of_getElem? (i := 174) rfl) rfl
theorem wq657 : Cond.methodLink RX6 168 yX2_numberWhere ∈ gw := gw_t2 (List.mem_of_getElem? (i := 179) rfl) rfl
theorem wq658 : Cond.instanceMethod yX2_numberWhere ∈ gw := gw_t2 (List.mem_of_getElem? (i := 136) rfl) rfl
theorem wq659 : Cond.selects RX2 yX2_numberWhere yX2_numberWhere ∈ gw := gw_t2 (List.mem_of_getElem? (i := 137) rfl) rfl
theorem wq660 : Cond.code yX2_numberWhere cX2_numberWhere 2 (some .int) ∈ gw := gw_t2 (List.mem_of_getElem? (i := 138) rfl) rfl
theorem wq661 : Cond.methodLink RX2 50 yX4_number ∈ gw := gw_t2 (List.mem_of_getElem? (i := 139) rfl) rfl
theorem wq662 : Cond.methodLink RL 151 yX8_take ∈ gw := gw_t6 (List.mem_of_getElem? (i := 114) rfl) rfl
theorem wq663 : Cond.instanceMethod yX8_take ∈ gw := gw_t6 (List.mem_of_getElem? (i := 115) rfl) rfl
theorem wq664 : Cond.selects RX8 yX8_take yX8_take ∈ gw := gw_t6 (List.mem_of_getElem? (i := 116) rfl) rfl
theorem wq665 : Cond.code yX8_take cX8_take 3 (some .int) ∈ gw := gw_t6 (List.mem_of_getElem? (i := 117) rfl) rfl
theorem wq666 : Cond.methodLink RX8 164 yX8_whyNotTake ∈ gw := gw_t6 (List.mem_of_getElem? (i := 118) rfl) rfl
theorem wq667 : Cond.instanceMethod yX8_whyNotTake ∈ gw := gw_t6 (List.mem_of_getElem? (i := 120) rfl) rfl
theorem wq668 : Cond.selects RX8 yX8_whyNotTake yX8_whyNotTake ∈ gw := gw_p (n := _) (List.mem_of_getElem? (i := 41) rfl)
theorem wq669 : Cond.code yX8_whyNotTake cX8_whyNotTake 3 (some .int) ∈ gw := gw_t6 (List.mem_of_getElem? (i := 121) rfl) rfl
theorem wq670 : Cond.methodLink RX8 167 yX8_doTake ∈ gw := gw_t6 (List.mem_of_getElem? (i := 122) rfl) rfl
theorem wq671 : Cond.instanceMethod yX8_doTake ∈ gw := gw_t6 (List.mem_of_getElem? (i := 124) rfl) rfl
theorem wq672 : Cond.selects RX8 yX8_doTake yX8_doTake ∈ gw := gw_p (n := _) (List.mem_of_getElem? (i := 42) rfl)
theorem wq673 : Cond.code yX8_doTake cX8_doTake 6 (some .int) ∈ gw := gw_t6 (List.mem_of_getElem? (i := 125) rfl) rfl
theorem wq674 : Cond.methodLink RX8 155 yX8_heapOf ∈ gw := gw_t6 (List.mem_of_getElem? (i := 126) rfl) rfl
theorem wq675 : Cond.instanceMethod yX8_heapOf ∈ gw := gw_t6 (List.mem_of_getElem? (i := 128) rfl) rfl
theorem wq676 : Cond.selects RX8 yX8_heapOf yX8_heapOf ∈ gw := gw_p (n := _) (List.mem_of_getElem? (i := 43) rfl)
theorem wq677 : Cond.code yX8_heapOf cX8_heapOf 4 (some .int) ∈ gw := gw_t6 (List.mem_of_getElem? (i := 129) rfl) rfl
theorem wq678 : Cond.methodLink RX8 158 yX8_doRake ∈ gw := gw_t6 (List.mem_of_getElem? (i := 130) rfl) rfl
theorem wq679 : Cond.instanceMethod yX8_doRake ∈ gw := gw_t6 (List.mem_of_getElem? (i := 132) rfl) rfl
theorem wq680 : Cond.selects RX8 yX8_doRake yX8_doRake ∈ gw := gw_p (n := _) (List.mem_of_getElem? (i := 44) rfl)
theorem wq681 : Cond.code yX8_doRake cX8_doRake 4 (some .int) ∈ gw := gw_t6 (List.mem_of_getElem? (i := 133) rfl) rfl
theorem wq682 : Cond.methodLink RX8 69 yX8_mayBurn ∈ gw := gw_t6 (List.mem_of_getElem? (i := 134) rfl) rfl
theorem wq683 : Cond.instanceMethod yX8_mayBurn ∈ gw := gw_t6 (List.mem_of_getElem? (i := 136) rfl) rfl
theorem wq684 : Cond.selects RX8 yX8_mayBurn yX8_mayBurn ∈ gw := gw_p (n := _) (List.mem_of_getElem? (i := 45) rfl)
theorem wq685 : Cond.code yX8_mayBurn cX8_mayBurn 3 (some .boolean) ∈ gw := gw_t6 (List.mem_of_getElem? (i := 137) rfl) rfl
theorem wq686 : Cond.methodLink RX8 66 yX8_holders ∈ gw := gw_t6 (List.mem_of_getElem? (i := 138) rfl) rfl
theorem wq687 : Cond.instanceMethod yX8_holders ∈ gw := gw_t6 (List.mem_of_getElem? (i := 140) rfl) rfl
theorem wq688 : Cond.selects RX8 yX8_holders yX8_holders ∈ gw := gw_p (n := _) (List.mem_of_getElem? (i := 46) rfl)
theorem wq689 : Cond.code yX8_holders cX8_holders 7 (some .int) ∈ gw := gw_t6 (List.mem_of_getElem? (i := 141) rfl) rfl
theorem wq690 : Cond.methodLink RX8 161 yX8_leavesAt ∈ gw := gw_t6 (List.mem_of_getElem? (i := 142) rfl) rfl
theorem wq691 : Cond.instanceMethod yX8_leavesAt ∈ gw := gw_t6 (List.mem_of_getElem? (i := 144) rfl) rfl
theorem wq692 : Cond.selects RX8 yX8_leavesAt yX8_leavesAt ∈ gw := gw_p (n := _) (List.mem_of_getElem? (i := 47) rfl)
theorem wq693 : Cond.code yX8_leavesAt cX8_leavesAt 4 (some .int) ∈ gw := gw_t6 (List.mem_of_getElem? (i := 145) rfl) rfl
theorem wq694 : Cond.methodLink RL 152 yL_swap ∈ gw := gw_t4 (List.mem_of_getElem? (i := 162) rfl) rfl
theorem wq695 : Cond.static yL_swap ∈ gw := gw_t4 (List.mem_of_getElem? (i := 163) rfl) rfl
theorem wq696 : Cond.codeWith yL_swap cL_swap 6 (some .int) [(0, 12, 15, 19), (0, 12, 19, 34), (0, 12, 23, 13)] ∈ gw := gw_t4 (List.mem_of_getElem? (i := 164) rfl) rfl
theorem wq697 : Cond.methodLink RL 52 yX7_swap ∈ gw := gw_t4 (List.mem_of_getElem? (i := 165) rfl) rfl
theorem wq698 : Cond.instanceMethod yX7_swap ∈ gw := gw_t4 (List.mem_of_getElem? (i := 166) rfl) rfl
theorem wq699 : Cond.selects RX7 yX7_swap yX7_swap ∈ gw := gw_t4 (List.mem_of_getElem? (i := 167) rfl) rfl
theorem wq700 : Cond.code yX7_swap cX7_swap 4 (some .int) ∈ gw := gw_t4 (List.mem_of_getElem? (i := 168) rfl) rfl
theorem wq701 : Cond.methodLink RX7 159 yX6_mayExchange ∈ gw := gw_t4 (List.mem_of_getElem? (i := 169) rfl) rfl
theorem wq702 : Cond.instanceMethod yX6_mayExchange ∈ gw := gw_t4 (List.mem_of_getElem? (i := 170) rfl) rfl
theorem wq703 : Cond.selects RX6 yX6_mayExchange yX6_mayExchange ∈ gw := gw_t4 (List.mem_of_getElem? (i := 171) rfl) rfl
theorem wq704 : Cond.code yX6_mayExchange cX6_mayExchange 3 (some .boolean) ∈ gw := gw_t4 (List.mem_of_getElem? (i := 172) rfl) rfl
theorem wq705 : Cond.methodLink RX6 176 yX6_mayTakeOff ∈ gw := gw_t4 (List.mem_of_getElem? (i := 173) rfl) rfl
theorem wq706 : Cond.methodLink RX7 164 yX6_exchange ∈ gw := gw_t4 (List.mem_of_getElem? (i := 175) rfl) rfl
theorem wq707 : Cond.instanceMethod yX6_exchange ∈ gw := gw_t4 (List.mem_of_getElem? (i := 176) rfl) rfl
theorem wq708 : Cond.selects RX6 yX6_exchange yX6_exchange ∈ gw := gw_t4 (List.mem_of_getElem? (i := 177) rfl) rfl
theorem wq709 : Cond.code yX6_exchange cX6_exchange 4 (some .int) ∈ gw := gw_t4 (List.mem_of_getElem? (i := 178) rfl) rfl
theorem wq710 : Cond.methodLink RX6 180 yX6_takeOff ∈ gw := gw_t4 (List.mem_of_getElem? (i := 179) rfl) rfl
theorem wq711 : Cond.methodLink RX6 183 yX2_sprout ∈ gw := gw_t4 (List.mem_of_getElem? (i := 180) rfl) rfl
theorem wq712 : Cond.methodLink RL 154 yX8_swap ∈ gw := gw_t6 (List.mem_of_getElem? (i := 146) rfl) rfl
theorem wq713 : Cond.instanceMethod yX8_swap ∈ gw := gw_t6 (List.mem_of_getElem? (i := 147) rfl) rfl
theorem wq714 : Cond.selects RX8 yX8_swap yX8_swap ∈ gw := gw_t6 (List.mem_of_getElem? (i := 148) rfl) rfl
theorem wq715 : Cond.code yX8_swap cX8_swap 4 (some .int) ∈ gw := gw_t6 (List.mem_of_getElem? (i := 149) rfl) rfl
theorem wq716 : Cond.methodLink RX8 170 yX8_whyNotSwap ∈ gw := gw_t6 (List.mem_of_getElem? (i := 150) rfl) rfl
theorem wq717 : Cond.instanceMethod yX8_whyNotSwap ∈ gw := gw_t6 (List.mem_of_getElem? (i := 152) rfl) rfl
theorem wq718 : Cond.selects RX8 yX8_whyNotSwap yX8_whyNotSwap ∈ gw := gw_p (n := _) (List.mem_of_getElem? (i := 48) rfl)
theorem wq719 : Cond.code yX8_whyNotSwap cX8_whyNotSwap 4 (some .int) ∈ gw := gw_t6 (List.mem_of_getElem? (i := 153) rfl) rfl
theorem wq720 : Cond.methodLink RX8 173 yX8_doSwap ∈ gw := gw_t6 (List.mem_of_getElem? (i := 154) rfl) rfl
theorem wq721 : Cond.instanceMethod yX8_doSwap ∈ gw := gw_t6 (List.mem_of_getElem? (i := 156) rfl) rfl
theorem wq722 : Cond.selects RX8 yX8_doSwap yX8_doSwap ∈ gw := gw_p (n := _) (List.mem_of_getElem? (i := 49) rfl)
theorem wq723 : Cond.code yX8_doSwap cX8_doSwap 4 (some .int) ∈ gw := gw_t6 (List.mem_of_getElem? (i := 157) rfl) rfl
theorem wq724 : Cond.methodLink RL 155 yL_rake ∈ gw := gw_t4 (List.mem_of_getElem? (i := 181) rfl) rfl
theorem wq725 : Cond.static yL_rake ∈ gw := gw_t4 (List.mem_of_getElem? (i := 182) rfl) rfl
theorem wq726 : Cond.codeWith yL_rake cL_rake 4 (some .int) [(0, 9, 12, 19), (0, 9, 15, 13)] ∈ gw := gw_t4 (List.mem_of_getElem? (i := 183) rfl) rfl
theorem wq727 : Cond.methodLink RL 55 yX7_rake ∈ gw := gw_t4 (List.mem_of_getElem? (i := 184) rfl) rfl
theorem wq728 : Cond.instanceMethod yX7_rake ∈ gw := gw_t4 (List.mem_of_getElem? (i := 185) rfl) rfl
theorem wq729 : Cond.selects RX7 yX7_rake yX7_rake ∈ gw := gw_t4 (List.mem_of_getElem? (i := 186) rfl) rfl
theorem wq730 : Cond.code yX7_rake cX7_rake 2 (some .int) ∈ gw := gw_t4 (List.mem_of_getElem? (i := 187) rfl) rfl
theorem wq731 : Cond.methodLink RX7 167 yX6_mayClear ∈ gw := gw_t4 (List.mem_of_getElem? (i := 188) rfl) rfl
theorem wq732 : Cond.instanceMethod yX6_mayClear ∈ gw := gw_t4 (List.mem_of_getElem? (i := 189) rfl) rfl
theorem wq733 : Cond.selects RX6 yX6_mayClear yX6_mayClear ∈ gw := gw_t4 (List.mem_of_getElem? (i := 190) rfl) rfl
theorem wq734 : Cond.code yX6_mayClear cX6_mayClear 2 (some .boolean) ∈ gw := gw_t4 (List.mem_of_getElem? (i := 191) rfl) rfl
theorem wq735 : Cond.methodLink RX7 172 yX6_clear ∈ gw := gw_t4 (List.mem_of_getElem? (i := 193) rfl) rfl
theorem wq736 : Cond.methodLink RL 157 yX8_rake ∈ gw := gw_t6 (List.mem_of_getElem? (i := 158) rfl) rfl
theorem wq737 : Cond.instanceMethod yX8_rake ∈ gw := gw_t6 (List.mem_of_getElem? (i := 159) rfl) rfl
theorem wq738 : Cond.selects RX8 yX8_rake yX8_rake ∈ gw := gw_t6 (List.mem_of_getElem? (i := 160) rfl) rfl
theorem wq739 : Cond.code yX8_rake cX8_rake 2 (some .int) ∈ gw := gw_t6 (List.mem_of_getElem? (i := 161) rfl) rfl
theorem wq740 : Cond.methodLink RX8 176 yX8_whyNotRake ∈ gw := gw_t6 (List.mem_of_getElem? (i := 162) rfl) rfl
theorem wq741 : Cond.instanceMethod yX8_whyNotRake ∈ gw := gw_t6 (List.mem_of_getElem? (i := 164) rfl) rfl
theorem wq742 : Cond.selects RX8 yX8_whyNotRake yX8_whyNotRake ∈ gw := gw_p (n := _) (List.mem_of_getElem? (i := 50) rfl)
theorem wq743 : Cond.code yX8_whyNotRake cX8_whyNotRake 2 (some .int) ∈ gw := gw_t6 (List.mem_of_getElem? (i := 165) rfl) rfl
theorem wq744 : Cond.methodLink RL 158 yL_set ∈ gw := gw_t4 (List.mem_of_getElem? (i := 194) rfl) rfl
theorem wq745 : Cond.static yL_set ∈ gw := gw_t4 (List.mem_of_getElem? (i := 195) rfl) rfl
theorem wq746 : Cond.codeWith yL_set cL_set 5 (some .int) [(0, 10, 13, 19), (0, 10, 17, 34)] ∈ gw := gw_t4 (List.mem_of_getElem? (i := 196) rfl) rfl
theorem wq747 : Cond.methodLink RL 58 yX7_set ∈ gw := gw_t4 (List.mem_of_getElem? (i := 197) rfl) rfl
theorem wq748 : Cond.instanceMethod yX7_set ∈ gw := gw_t4 (List.mem_of_getElem? (i := 198) rfl) rfl
theorem wq749 : Cond.selects RX7 yX7_set yX7_set ∈ gw := gw_t4 (List.mem_of_getElem? (i := 199) rfl) rfl
theorem wq750 : Cond.code yX7_set cX7_set 3 (some .int) ∈ gw := gw_t4 (List.mem_of_getElem? (i := 200) rfl) rfl
theorem wq751 : Cond.methodLink RX7 175 yX7_needSetting ∈ gw := gw_t4 (List.mem_of_getElem? (i := 201) rfl) rfl
theorem wq752 : Cond.static yX7_needSetting ∈ gw := gw_t4 (List.mem_of_getElem? (i := 202) rfl) rfl
theorem wq753 : Cond.code yX7_needSetting cX7_needSetting 1 none ∈ gw := gw_t4 (List.mem_of_getElem? (i := 203) rfl) rfl
theorem wq754 : Cond.methodLink RX7 178 yX7_isValueOf ∈ gw := gw_t4 (List.mem_of_getElem? (i := 205) rfl) rfl
theorem wq755 : Cond.static yX7_isValueOf ∈ gw := gw_t4 (List.mem_of_getElem? (i := 206) rfl) rfl
theorem wq756 : Cond.code yX7_isValueOf cX7_isValueOf 2 (some .boolean) ∈ gw := gw_t4 (List.mem_of_getElem? (i := 207) rfl) rfl
theorem wq757 : Cond.methodLink RX7 186 yX6_change ∈ gw := gw_t4 (List.mem_of_getElem? (i := 209) rfl) rfl
theorem wq758 : Cond.instanceMethod yX6_change ∈ gw := gw_t4 (List.mem_of_getElem? (i := 210) rfl) rfl
theorem wq759 : Cond.selects RX6 yX6_change yX6_change ∈ gw := gw_t4 (List.mem_of_getElem? (i := 211) rfl) rfl
theorem wq760 : Cond.code yX6_change cX6_change 4 (some .int) ∈ gw := gw_t4 (List.mem_of_getElem? (i := 212) rfl) rfl
theorem wq761 : Cond.methodLink RX6 204 yX6_valueOf ∈ gw := gw_t4 (List.mem_of_getElem? (i := 213) rfl) rfl
theorem wq762 : Cond.instanceMethod yX6_valueOf ∈ gw := gw_t2 (List.mem_of_getElem? (i := 193) rfl) rfl
theorem wq763 : Cond.selects RX6 yX6_valueOf yX6_valueOf ∈ gw := gw_t2 (List.mem_of_getElem? (i := 194) rfl) rfl
theorem wq764 : Cond.code yX6_valueOf cX6_valueOf 2 (some .int) ∈ gw := gw_t2 (List.mem_of_getElem? (i := 195) rfl) rfl
theorem wq765 : Cond.methodLink RL 160 yX8_set ∈ gw := gw_t6 (List.mem_of_getElem? (i := 166) rfl) rfl
theorem wq766 : Cond.instanceMethod yX8_set ∈ gw := gw_t6 (List.mem_of_getElem? (i := 167) rfl) rfl
theorem wq767 : Cond.selects RX8 yX8_set yX8_set ∈ gw := gw_t6 (List.mem_of_getElem? (i := 168) rfl) rfl
theorem wq768 : Cond.code yX8_set cX8_set 5 (some .int) ∈ gw := gw_t6 (List.mem_of_getElem? (i := 169) rfl) rfl
theorem wq769 : Cond.methodLink RL 161 yL_append ∈ gw := gw_t4 (List.mem_of_getElem? (i := 214) rfl) rfl
theorem wq770 : Cond.static yL_append ∈ gw := gw_t4 (List.mem_of_getElem? (i := 215) rfl) rfl
theorem wq771 : Cond.codeWith yL_append cL_append 4 (some .int) [(0, 9, 12, 34), (0, 9, 15, 13)] ∈ gw := gw_t4 (List.mem_of_getElem? (i := 216) rfl) rfl
theorem wq772 : Cond.methodLink RL 61 yX7_append ∈ gw := gw_t4 (List.mem_of_getElem? (i := 217) rfl) rfl
theorem wq773 : Cond.instanceMethod yX7_append ∈ gw := gw_t4 (List.mem_of_getElem? (i := 218) rfl) rfl
theorem wq774 : Cond.selects RX7 yX7_append yX7_append ∈ gw := gw_t4 (List.mem_of_getElem? (i := 219) rfl) rfl
theorem wq775 : Cond.code yX7_append cX7_append 2 (some .int) ∈ gw := gw_t4 (List.mem_of_getElem? (i := 220) rfl) rfl
theorem wq776 : Cond.methodLink RX7 191 yX3_length ∈ gw := gw_t3 (List.mem_of_getElem? (i := 39) rfl) rfl
theorem wq777 : Cond.instanceMethod yX3_length ∈ gw := gw_t3 (List.mem_of_getElem? (i := 40) rfl) rfl
theorem wq778 : Cond.selects RX3 yX3_length yX3_length ∈ gw := gw_t3 (List.mem_of_getElem? (i := 41) rfl) rfl
theorem wq779 : Cond.code yX3_length cX3_length 1 (some .int) ∈ gw := gw_t3 (List.mem_of_getElem? (i := 42) rfl) rfl
theorem wq780 : Cond.fieldLink RX3 20 "PinnedLeaves$OrderText" "length" "I" ∈ gw := gw_t1 (List.mem_of_getElem? (i := 215) rfl) rfl
theorem wq781 : Cond.methodLink RX7 196 yX3_add ∈ gw := gw_t4 (List.mem_of_getElem? (i := 223) rfl) rfl
theorem wq782 : Cond.instanceMethod yX3_add ∈ gw := gw_t4 (List.mem_of_getElem? (i := 224) rfl) rfl
theorem wq783 : Cond.selects RX3 yX3_add yX3_add ∈ gw := gw_t4 (List.mem_of_getElem? (i := 225) rfl) rfl
theorem wq784 : Cond.code yX3_add cX3_add 2 (some .int) ∈ gw := gw_t4 (List.mem_of_getElem? (i := 226) rfl) rfl
theorem wq785 : Cond.methodLink RX3 24 yX4_put ∈ gw := gw_t4 (List.mem_of_getElem? (i := 227) rfl) rfl
theorem wq786 : Cond.methodLink RL 163 yX8_append ∈ gw := gw_t6 (List.mem_of_getElem? (i := 170) rfl) rfl
theorem wq787 : Cond.instanceMethod yX8_append ∈ gw := gw_t6 (List.mem_of_getElem? (i := 171) rfl) rfl
theorem wq788 : Cond.selects RX8 yX8_append yX8_append ∈ gw := gw_t6 (List.mem_of_getElem? (i := 172) rfl) rfl
theorem wq789 : Cond.code yX8_append cX8_append 2 (some .int) ∈ gw := gw_t6 (List.mem_of_getElem? (i := 173) rfl) rfl
theorem wq790 : Cond.fieldLink RX8 179 "PinnedLeavesModel" "length" "I" ∈ gw := gw_t5 (List.mem_of_getElem? (i := 155) rfl) rfl
theorem wq791 : Cond.methodLink RL 164 yX7_clearBuffer ∈ gw := gw_t1 (List.mem_of_getElem? (i := 237) rfl) rfl
theorem wq792 : Cond.instanceMethod yX7_clearBuffer ∈ gw := gw_t1 (List.mem_of_getElem? (i := 238) rfl) rfl
theorem wq793 : Cond.selects RX7 yX7_clearBuffer yX7_clearBuffer ∈ gw := gw_t1 (List.mem_of_getElem? (i := 239) rfl) rfl
theorem wq794 : Cond.code yX7_clearBuffer cX7_clearBuffer 1 (some .int) ∈ gw := gw_t2 (List.mem_of_getElem? (i := 0) rfl) rfl
theorem wq795 : Cond.methodLink RX7 199 yX3_empty ∈ gw := gw_t2 (List.mem_of_getElem? (i := 1) rfl) rfl
theorem wq796 : Cond.instanceMethod yX3_empty ∈ gw := gw_t2 (List.mem_of_getElem? (i := 2) rfl) rfl
theorem wq797 : Cond.selects RX3 yX3_empty yX3_empty ∈ gw := gw_t2 (List.mem_of_getElem? (i := 3) rfl) rfl
theorem wq798 : Cond.code yX3_empty cX3_empty 2 (some .int) ∈ gw := gw_t2 (List.mem_of_getElem? (i := 4) rfl) rfl
theorem wq799 : Cond.methodLink RL 167 yX8_clearBuffer ∈ gw := gw_t6 (List.mem_of_getElem? (i := 174) rfl) rfl
theorem wq800 : Cond.instanceMethod yX8_clearBuffer ∈ gw := gw_t6 (List.mem_of_getElem? (i := 175) rfl) rfl
theorem wq801 : Cond.selects RX8 yX8_clearBuffer yX8_clearBuffer ∈ gw := gw_t6 (List.mem_of_getElem? (i := 176) rfl) rfl
theorem wq802 : Cond.code yX8_clearBuffer cX8_clearBuffer 2 (some .int) ∈ gw := gw_t6 (List.mem_of_getElem? (i := 177) rfl) rfl
theorem wq803 : Cond.methodLink RL 168 yX7_firstError ∈ gw := gw_t2 (List.mem_of_getElem? (i := 5) rfl) rfl
theorem wq804 : Cond.instanceMethod yX7_firstError ∈ gw := gw_t2 (List.mem_of_getElem? (i := 6) rfl) rfl
theorem wq805 : Cond.selects RX7 yX7_firstError yX7_firstError ∈ gw := gw_t2 (List.mem_of_getElem? (i := 7) rfl) rfl
theorem wq806 : Cond.code yX7_firstError cX7_firstError 1 (some .int) ∈ gw := gw_t2 (List.mem_of_getElem? (i := 8) rfl) rfl
theorem wq807 : Cond.methodLink RX7 202 yX3_firstWrong ∈ gw := gw_t2 (List.mem_of_getElem? (i := 9) rfl) rfl
theorem wq808 : Cond.instanceMethod yX3_firstWrong ∈ gw := gw_t2 (List.mem_of_getElem? (i := 10) rfl) rfl
theorem wq809 : Cond.selects RX3 yX3_firstWrong yX3_firstWrong ∈ gw := gw_t2 (List.mem_of_getElem? (i := 11) rfl) rfl
theorem wq810 : Cond.code yX3_firstWrong cX3_firstWrong 3 (some .int) ∈ gw := gw_t2 (List.mem_of_getElem? (i := 12) rfl) rfl
theorem wq811 : Cond.methodLink RX3 35 yX3_fits ∈ gw := gw_t2 (List.mem_of_getElem? (i := 13) rfl) rfl
theorem wq812 : Cond.instanceMethod yX3_fits ∈ gw := gw_t2 (List.mem_of_getElem? (i := 15) rfl) rfl
theorem wq813 : Cond.selects RX3 yX3_fits yX3_fits ∈ gw := gw_p (n := _) (List.mem_of_getElem? (i := 0) rfl)
theorem wq814 : Cond.code yX3_fits cX3_fits 3 (some .boolean) ∈ gw := gw_t2 (List.mem_of_getElem? (i := 16) rfl) rfl
theorem wq815 : Cond.methodLink RX3 32 yX3_signAt ∈ gw := gw_t2 (List.mem_of_getElem? (i := 17) rfl) rfl
theorem wq816 : Cond.instanceMethod yX3_signAt ∈ gw := gw_t2 (List.mem_of_getElem? (i := 18) rfl) rfl
theorem wq817 : Cond.selects RX3 yX3_signAt yX3_signAt ∈ gw := gw_t2 (List.mem_of_getElem? (i := 19) rfl) rfl
theorem wq818 : Cond.code yX3_signAt cX3_signAt 2 (some .int) ∈ gw := gw_t2 (List.mem_of_getElem? (i := 20) rfl) rfl
theorem wq819 : Cond.methodLink RX3 28 yX4_get ∈ gw := gw_t2 (List.mem_of_getElem? (i := 21) rfl) rfl
theorem wq820 : Cond.methodLink RX3 51 yX3_isOrder ∈ gw := gw_t2 (List.mem_of_getElem? (i := 25) rfl) rfl
theorem wq821 : Cond.static yX3_isOrder ∈ gw := gw_t2 (List.mem_of_getElem? (i := 26) rfl) rfl
theorem wq822 : Cond.code yX3_isOrder cX3_isOrder 1 (some .boolean) ∈ gw := gw_t2 (List.mem_of_getElem? (i := 27) rfl) rfl
theorem wq823 : Cond.methodLink RX3 43 yX3_operandAt ∈ gw := gw_t2 (List.mem_of_getElem? (i := 28) rfl) rfl
theorem wq824 : Cond.static yX3_operandAt ∈ gw := gw_t2 (List.mem_of_getElem? (i := 29) rfl) rfl
theorem wq825 : Cond.code yX3_operandAt cX3_operandAt 2 (some .int) ∈ gw := gw_t2 (List.mem_of_getElem? (i := 30) rfl) rfl
theorem wq826 : Cond.methodLink RX3 57 yX3_operandOf ∈ gw := gw_t2 (List.mem_of_getElem? (i := 31) rfl) rfl
theorem wq827 : Cond.static yX3_operandOf ∈ gw := gw_t2 (List.mem_of_getElem? (i := 32) rfl) rfl
theorem wq828 : Cond.code yX3_operandOf cX3_operandOf 4 (some .int) ∈ gw := gw_t2 (List.mem_of_getElem? (i := 33) rfl) rfl
theorem wq829 : Cond.methodLink RX3 54 yX3_isOperand ∈ gw := gw_t2 (List.mem_of_getElem? (i := 34) rfl) rfl
theorem wq830 : Cond.static yX3_isOperand ∈ gw := gw_t2 (List.mem_of_getElem? (i := 35) rfl) rfl
theorem wq831 : Cond.code yX3_isOperand cX3_isOperand 2 (some .boolean) ∈ gw := gw_t2 (List.mem_of_getElem? (i := 36) rfl) rfl
theorem wq832 : Cond.methodLink RL 171 yX8_firstError ∈ gw := gw_t6 (List.mem_of_getElem? (i := 178) rfl) rfl
theorem wq833 : Cond.instanceMethod yX8_firstError ∈ gw := gw_t6 (List.mem_of_getElem? (i := 179) rfl) rfl
theorem wq834 : Cond.selects RX8 yX8_firstError yX8_firstError ∈ gw := gw_t6 (List.mem_of_getElem? (i := 180) rfl) rfl
theorem wq835 : Cond.code yX8_firstError cX8_firstError 1 (some .int) ∈ gw := gw_t6 (List.mem_of_getElem? (i := 181) rfl) rfl
theorem wq836 : Cond.methodLink RX8 197 yX8_findError ∈ gw := gw_t6 (List.mem_of_getElem? (i := 182) rfl) rfl
theorem wq837 : Cond.instanceMethod yX8_findError ∈ gw := gw_t6 (List.mem_of_getElem? (i := 184) rfl) rfl
theorem wq838 : Cond.selects RX8 yX8_findError yX8_findError ∈ gw := gw_p (n := _) (List.mem_of_getElem? (i := 51) rfl)
theorem wq839 : Cond.code yX8_findError cX8_findError 2 (some .int) ∈ gw := gw_t6 (List.mem_of_getElem? (i := 185) rfl) rfl
theorem wq840 : Cond.fieldLink RX8 191 "PinnedLeavesModel" "isComplete" "Z" ∈ gw := gw_t5 (List.mem_of_getElem? (i := 158) rfl) rfl
theorem wq841 : Cond.methodLink RX8 194 yX8_readOrder ∈ gw := gw_t6 (List.mem_of_getElem? (i := 186) rfl) rfl
theorem wq842 : Cond.instanceMethod yX8_readOrder ∈ gw := gw_t6 (List.mem_of_getElem? (i := 188) rfl) rfl
theorem wq843 : Cond.selects RX8 yX8_readOrder yX8_readOrder ∈ gw := gw_p (n := _) (List.mem_of_getElem? (i := 52) rfl)
theorem wq844 : Cond.code yX8_readOrder cX8_readOrder 7 (some .int) ∈ gw := gw_t6 (List.mem_of_getElem? (i := 189) rfl) rfl
theorem wq845 : Cond.fieldLink RX8 182 "PinnedLeavesModel" "letter" "I" ∈ gw := gw_t5 (List.mem_of_getElem? (i := 156) rfl) rfl
theorem wq846 : Cond.methodLink RX8 185 yX8_shapeOf ∈ gw := gw_t6 (List.mem_of_getElem? (i := 190) rfl) rfl
theorem wq847 : Cond.static yX8_shapeOf ∈ gw := gw_t6 (List.mem_of_getElem? (i := 191) rfl) rfl
theorem wq848 : Cond.code yX8_shapeOf cX8_shapeOf 1 (some .int) ∈ gw := gw_t6 (List.mem_of_getElem? (i := 192) rfl) rfl
theorem wq849 : Cond.methodLink RX8 188 yX8_valueOf ∈ gw := gw_t6 (List.mem_of_getElem? (i := 193) rfl) rfl
theorem wq850 : Cond.static yX8_valueOf ∈ gw := gw_t6 (List.mem_of_getElem? (i := 194) rfl) rfl
theorem wq851 : Cond.code yX8_valueOf cX8_valueOf 4 (some .int) ∈ gw := gw_t6 (List.mem_of_getElem? (i := 195) rfl) rfl
theorem wq852 : Cond.methodLink RL 172 yL_obey ∈ gw := gw_t4 (List.mem_of_getElem? (i := 228) rfl) rfl
theorem wq853 : Cond.static yL_obey ∈ gw := gw_t4 (List.mem_of_getElem? (i := 229) rfl) rfl
theorem wq854 : Cond.codeWith yL_obey cL_obey 3 (some .int) [(0, 8, 11, 34)] ∈ gw := gw_t4 (List.mem_of_getElem? (i := 230) rfl) rfl
theorem wq855 : Cond.methodLink RL 64 yX7_obey ∈ gw := gw_t4 (List.mem_of_getElem? (i := 231) rfl) rfl
theorem wq856 : Cond.instanceMethod yX7_obey ∈ gw := gw_t4 (List.mem_of_getElem? (i := 232) rfl) rfl
theorem wq857 : Cond.selects RX7 yX7_obey yX7_obey ∈ gw := gw_t4 (List.mem_of_getElem? (i := 233) rfl) rfl
theorem wq858 : Cond.code yX7_obey cX7_obey 3 (some .int) ∈ gw := gw_t4 (List.mem_of_getElem? (i := 234) rfl) rfl
theorem wq859 : Cond.methodLink RX7 205 yX3_isComplete ∈ gw := gw_t4 (List.mem_of_getElem? (i := 235) rfl) rfl
theorem wq860 : Cond.instanceMethod yX3_isComplete ∈ gw := gw_t4 (List.mem_of_getElem? (i := 236) rfl) rfl
theorem wq861 : Cond.selects RX3 yX3_isComplete yX3_isComplete ∈ gw := gw_t4 (List.mem_of_getElem? (i := 237) rfl) rfl
theorem wq862 : Cond.code yX3_isComplete cX3_isComplete 3 (some .boolean) ∈ gw := gw_t4 (List.mem_of_getElem? (i := 238) rfl) rfl
theorem wq863 : Cond.methodLink RX3 39 yX3_startsPart ∈ gw := gw_t4 (List.mem_of_getElem? (i := 239) rfl) rfl
theorem wq864 : Cond.instanceMethod yX3_startsPart ∈ gw := gw_t5 (List.mem_of_getElem? (i := 0) rfl) rfl
theorem wq865 : Cond.selects RX3 yX3_startsPart yX3_startsPart ∈ gw := gw_t5 (List.mem_of_getElem? (i := 1) rfl) rfl
theorem wq866 : Cond.code yX3_startsPart cX3_startsPart 2 (some .boolean) ∈ gw := gw_t5 (List.mem_of_getElem? (i := 2) rfl) rfl
theorem wq867 : Cond.methodLink RX3 47 yX3_firstWrong ∈ gw := gw_t5 (List.mem_of_getElem? (i := 3) rfl) rfl
theorem wq868 : Cond.methodLink RX7 210 yX3_startsPart ∈ gw := gw_t5 (List.mem_of_getElem? (i := 5) rfl) rfl
theorem wq869 : Cond.methodLink RX7 213 yX7_carryOut ∈ gw := gw_t5 (List.mem_of_getElem? (i := 6) rfl) rfl
theorem wq870 : Cond.instanceMethod yX7_carryOut ∈ gw := gw_t5 (List.mem_of_getElem? (i := 8) rfl) rfl
theorem wq871 : Cond.selects RX7 yX7_carryOut yX7_carryOut ∈ gw := gw_p (n := _) (List.mem_of_getElem? (i := 9) rfl)
theorem wq872 : Cond.code yX7_carryOut cX7_carryOut 5 (some .int) ∈ gw := gw_t5 (List.mem_of_getElem? (i := 9) rfl) rfl
theorem wq873 : Cond.methodLink RX7 360 yX3_digitAt ∈ gw := gw_t5 (List.mem_of_getElem? (i := 10) rfl) rfl
theorem wq874 : Cond.instanceMethod yX3_digitAt ∈ gw := gw_t5 (List.mem_of_getElem? (i := 11) rfl) rfl
theorem wq875 : Cond.selects RX3 yX3_digitAt yX3_digitAt ∈ gw := gw_t5 (List.mem_of_getElem? (i := 12) rfl) rfl
theorem wq876 : Cond.code yX3_digitAt cX3_digitAt 2 (some .int) ∈ gw := gw_t5 (List.mem_of_getElem? (i := 13) rfl) rfl
theorem wq877 : Cond.methodLink RX7 363 yX3_branchAt ∈ gw := gw_t5 (List.mem_of_getElem? (i := 14) rfl) rfl
theorem wq878 : Cond.instanceMethod yX3_branchAt ∈ gw := gw_t5 (List.mem_of_getElem? (i := 15) rfl) rfl
theorem wq879 : Cond.selects RX3 yX3_branchAt yX3_branchAt ∈ gw := gw_t5 (List.mem_of_getElem? (i := 16) rfl) rfl
theorem wq880 : Cond.code yX3_branchAt cX3_branchAt 2 (some .int) ∈ gw := gw_t5 (List.mem_of_getElem? (i := 17) rfl) rfl
theorem wq881 : Cond.methodLink RX7 366 yX3_signAt ∈ gw := gw_t3 (List.mem_of_getElem? (i := 43) rfl) rfl
theorem wq882 : Cond.methodLink RL 174 yX8_obey ∈ gw := gw_t6 (List.mem_of_getElem? (i := 196) rfl) rfl
theorem wq883 : Cond.instanceMethod yX8_obey ∈ gw := gw_t6 (List.mem_of_getElem? (i := 197) rfl) rfl
theorem wq884 : Cond.selects RX8 yX8_obey yX8_obey ∈ gw := gw_t6 (List.mem_of_getElem? (i := 198) rfl) rfl
theorem wq885 : Cond.code yX8_obey cX8_obey 4 (some .int) ∈ gw := gw_t6 (List.mem_of_getElem? (i := 199) rfl) rfl
theorem wq886 : Cond.methodLink RX8 200 yX8_canDo ∈ gw := gw_t6 (List.mem_of_getElem? (i := 200) rfl) rfl
theorem wq887 : Cond.instanceMethod yX8_canDo ∈ gw := gw_t6 (List.mem_of_getElem? (i := 202) rfl) rfl
theorem wq888 : Cond.selects RX8 yX8_canDo yX8_canDo ∈ gw := gw_p (n := _) (List.mem_of_getElem? (i := 53) rfl)
theorem wq889 : Cond.code yX8_canDo cX8_canDo 1 (some .boolean) ∈ gw := gw_t6 (List.mem_of_getElem? (i := 203) rfl) rfl
theorem wq890 : Cond.methodLink RX8 204 yX8_doOrder ∈ gw := gw_t6 (List.mem_of_getElem? (i := 204) rfl) rfl
theorem wq891 : Cond.instanceMethod yX8_doOrder ∈ gw := gw_t6 (List.mem_of_getElem? (i := 206) rfl) rfl
theorem wq892 : Cond.selects RX8 yX8_doOrder yX8_doOrder ∈ gw := gw_p (n := _) (List.mem_of_getElem? (i := 54) rfl)
theorem wq893 : Cond.code yX8_doOrder cX8_doOrder 1 (some .int) ∈ gw := gw_t6 (List.mem_of_getElem? (i := 207) rfl) rfl
theorem wq894 : Cond.methodLink RL 175 yX7_keep ∈ gw := gw_t2 (List.mem_of_getElem? (i := 37) rfl) rfl
theorem wq895 : Cond.instanceMethod yX7_keep ∈ gw := gw_t2 (List.mem_of_getElem? (i := 38) rfl) rfl
theorem wq896 : Cond.selects RX7 yX7_keep yX7_keep ∈ gw := gw_t2 (List.mem_of_getElem? (i := 39) rfl) rfl
theorem wq897 : Cond.code yX7_keep cX7_keep 1 (some .int) ∈ gw := gw_t2 (List.mem_of_getElem? (i := 40) rfl) rfl
theorem wq898 : Cond.fieldLink RX7 219 "PinnedLeaves" "hasSnapshot" "Z" ∈ gw := gw_t1 (List.mem_of_getElem? (i := 225) rfl) rfl
theorem wq899 : Cond.fieldLink RX7 223 "PinnedLeaves$Yard" "bell" "I" ∈ gw := gw_t1 (List.mem_of_getElem? (i := 149) rfl) rfl
theorem wq900 : Cond.methodLink RX7 216 yX6_copyFrom ∈ gw := gw_t2 (List.mem_of_getElem? (i := 41) rfl) rfl
theorem wq901 : Cond.methodLink RL 178 yX8_keep ∈ gw := gw_t5 (List.mem_of_getElem? (i := 190) rfl) rfl
theorem wq902 : Cond.instanceMethod yX8_keep ∈ gw := gw_t5 (List.mem_of_getElem? (i := 191) rfl) rfl
theorem wq903 : Cond.selects RX8 yX8_keep yX8_keep ∈ gw := gw_t5 (List.mem_of_getElem? (i := 192) rfl) rfl
theorem wq904 : Cond.code yX8_keep cX8_keep 2 (some .int) ∈ gw := gw_t5 (List.mem_of_getElem? (i := 193) rfl) rfl
theorem wq905 : Cond.fieldLink RX8 75 "PinnedLeavesModel" "isKept" "Z" ∈ gw := gw_t5 (List.mem_of_getElem? (i := 153) rfl) rfl
theorem wq906 : Cond.methodLink RL 179 yL_goBack ∈ gw := gw_t5 (List.mem_of_getElem? (i := 18) rfl) rfl
theorem wq907 : Cond.static yL_goBack ∈ gw := gw_t5 (List.mem_of_getElem? (i := 19) rfl) rfl
theorem wq908 : Cond.codeWith yL_goBack cL_goBack 3 (some .int) [(0, 8, 11, 13)] ∈ gw := gw_t5 (List.mem_of_getElem? (i := 20) rfl) rfl
theorem wq909 : Cond.methodLink RL 67 yX7_goBack ∈ gw := gw_t5 (List.mem_of_getElem? (i := 21) rfl) rfl
theorem wq910 : Cond.instanceMethod yX7_goBack ∈ gw := gw_t5 (List.mem_of_getElem? (i := 22) rfl) rfl
theorem wq911 : Cond.selects RX7 yX7_goBack yX7_goBack ∈ gw := gw_t5 (List.mem_of_getElem? (i := 23) rfl) rfl
theorem wq912 : Cond.code yX7_goBack cX7_goBack 1 (some .int) ∈ gw := gw_t5 (List.mem_of_getElem? (i := 24) rfl) rfl
theorem wq913 : Cond.methodLink RL 181 yX8_goBack ∈ gw := gw_t5 (List.mem_of_getElem? (i := 194) rfl) rfl
theorem wq914 : Cond.instanceMethod yX8_goBack ∈ gw := gw_t5 (List.mem_of_getElem? (i := 195) rfl) rfl
theorem wq915 : Cond.selects RX8 yX8_goBack yX8_goBack ∈ gw := gw_t5 (List.mem_of_getElem? (i := 196) rfl) rfl
theorem wq916 : Cond.code yX8_goBack cX8_goBack 2 (some .int) ∈ gw := gw_t5 (List.mem_of_getElem? (i := 197) rfl) rfl
theorem wq917 : Cond.methodLink RL 182 yL_undo ∈ gw := gw_t5 (List.mem_of_getElem? (i := 26) rfl) rfl
theorem wq918 : Cond.static yL_undo ∈ gw := gw_t5 (List.mem_of_getElem? (i := 27) rfl) rfl
theorem wq919 : Cond.codeWith yL_undo cL_undo 3 (some .int) [(0, 8, 11, 13)] ∈ gw := gw_t5 (List.mem_of_getElem? (i := 28) rfl) rfl
theorem wq920 : Cond.methodLink RL 70 yX7_undo ∈ gw := gw_t5 (List.mem_of_getElem? (i := 29) rfl) rfl
theorem wq921 : Cond.instanceMethod yX7_undo ∈ gw := gw_t5 (List.mem_of_getElem? (i := 30) rfl) rfl
theorem wq922 : Cond.selects RX7 yX7_undo yX7_undo ∈ gw := gw_t5 (List.mem_of_getElem? (i := 31) rfl) rfl
theorem wq923 : Cond.code yX7_undo cX7_undo 1 (some .int) ∈ gw := gw_t5 (List.mem_of_getElem? (i := 32) rfl) rfl
theorem wq924 : Cond.methodLink RX7 229 yX5_number ∈ gw := gw_t2 (List.mem_of_getElem? (i := 158) rfl) rfl
theorem wq925 : Cond.instanceMethod yX5_number ∈ gw := gw_t2 (List.mem_of_getElem? (i := 159) rfl) rfl
theorem wq926 : Cond.selects RX5 yX5_number yX5_number ∈ gw := gw_t2 (List.mem_of_getElem? (i := 160) rfl) rfl
theorem wq927 : Cond.code yX5_number cX5_number 1 (some .int) ∈ gw := gw_t2 (List.mem_of_getElem? (i := 161) rfl) rfl
theorem wq928 : Cond.methodLink RX7 232 yX5_popInto ∈ gw := gw_t5 (List.mem_of_getElem? (i := 34) rfl) rfl
theorem wq929 : Cond.instanceMethod yX5_popInto ∈ gw := gw_t5 (List.mem_of_getElem? (i := 35) rfl) rfl
theorem wq930 : Cond.selects RX5 yX5_popInto yX5_popInto ∈ gw := gw_t5 (List.mem_of_getElem? (i := 36) rfl) rfl
theorem wq931 : Cond.code yX5_popInto cX5_popInto 4 none ∈ gw := gw_t5 (List.mem_of_getElem? (i := 37) rfl) rfl
theorem wq932 : Cond.methodLink RL 184 yX8_undo ∈ gw := gw_t5 (List.mem_of_getElem? (i := 186) rfl) rfl
theorem wq933 : Cond.instanceMethod yX8_undo ∈ gw := gw_t5 (List.mem_of_getElem? (i := 187) rfl) rfl
theorem wq934 : Cond.selects RX8 yX8_undo yX8_undo ∈ gw := gw_t5 (List.mem_of_getElem? (i := 188) rfl) rfl
theorem wq935 : Cond.code yX8_undo cX8_undo 2 (some .int) ∈ gw := gw_t5 (List.mem_of_getElem? (i := 189) rfl) rfl
theorem wq936 : Cond.methodLink RL 185 yL_branch ∈ gw := gw_t5 (List.mem_of_getElem? (i := 38) rfl) rfl
theorem wq937 : Cond.static yL_branch ∈ gw := gw_t5 (List.mem_of_getElem? (i := 39) rfl) rfl
theorem wq938 : Cond.codeWith yL_branch cL_branch 4 (some .int) [(0, 9, 12, 19)] ∈ gw := gw_t5 (List.mem_of_getElem? (i := 40) rfl) rfl
theorem wq939 : Cond.methodLink RL 73 yX7_branch ∈ gw := gw_t5 (List.mem_of_getElem? (i := 41) rfl) rfl
theorem wq940 : Cond.instanceMethod yX7_branch ∈ gw := gw_t5 (List.mem_of_getElem? (i := 42) rfl) rfl
theorem wq941 : Cond.selects RX7 yX7_branch yX7_branch ∈ gw := gw_t5 (List.mem_of_getElem? (i := 43) rfl) rfl
theorem wq942 : Cond.code yX7_branch cX7_branch 2 (some .int) ∈ gw := gw_t5 (List.mem_of_getElem? (i := 44) rfl) rfl
theorem wq943 : Cond.fieldLink RX7 235 "PinnedLeaves$Leaves" "onBranch" "LPinnedLeaves$Row;" ∈ gw := gw_t1 (List.mem_of_getElem? (i := 60) rfl) rfl
theorem wq944 : Cond.methodLink RX7 239 yX4_get ∈ gw := gw_t2 (List.mem_of_getElem? (i := 196) rfl) rfl
theorem wq945 : Cond.methodLink RL 187 yX8_branch ∈ gw := gw_t6 (List.mem_of_getElem? (i := 208) rfl) rfl
theorem wq946 : Cond.instanceMethod yX8_branch ∈ gw := gw_t6 (List.mem_of_getElem? (i := 209) rfl) rfl
theorem wq947 : Cond.selects RX8 yX8_branch yX8_branch ∈ gw := gw_t6 (List.mem_of_getElem? (i := 210) rfl) rfl
theorem wq948 : Cond.code yX8_branch cX8_branch 2 (some .int) ∈ gw := gw_t6 (List.mem_of_getElem? (i := 211) rfl) rfl
theorem wq949 : Cond.methodLink RL 188 yL_leaf ∈ gw := gw_t5 (List.mem_of_getElem? (i := 45) rfl) rfl
theorem wq950 : Cond.static yL_leaf ∈ gw := gw_t5 (List.mem_of_getElem? (i := 46) rfl) rfl
theorem wq951 : Cond.codeWith yL_leaf cL_leaf 5 (some .int) [(0, 10, 13, 19), (0, 10, 17, 34)] ∈ gw := gw_t5 (List.mem_of_getElem? (i := 47) rfl) rfl
theorem wq952 : Cond.methodLink RL 76 yX7_leaf ∈ gw := gw_t5 (List.mem_of_getElem? (i := 48) rfl) rfl
theorem wq953 : Cond.instanceMethod yX7_leaf ∈ gw := gw_t5 (List.mem_of_getElem? (i := 49) rfl) rfl
theorem wq954 : Cond.selects RX7 yX7_leaf yX7_leaf ∈ gw := gw_t5 (List.mem_of_getElem? (i := 50) rfl) rfl
theorem wq955 : Cond.code yX7_leaf cX7_leaf 3 (some .int) ∈ gw := gw_t5 (List.mem_of_getElem? (i := 51) rfl) rfl
theorem wq956 : Cond.methodLink RX7 244 yX7_needLeaf ∈ gw := gw_t5 (List.mem_of_getElem? (i := 52) rfl) rfl
theorem wq957 : Cond.instanceMethod yX7_needLeaf ∈ gw := gw_t5 (List.mem_of_getElem? (i := 54) rfl) rfl
theorem wq958 : Cond.selects RX7 yX7_needLeaf yX7_needLeaf ∈ gw := gw_p (n := _) (List.mem_of_getElem? (i := 10) rfl)
theorem wq959 : Cond.code yX7_needLeaf cX7_needLeaf 2 none ∈ gw := gw_t5 (List.mem_of_getElem? (i := 55) rfl) rfl
theorem wq960 : Cond.fieldLink RX7 314 "PinnedLeaves$Leaves" "grown" "I" ∈ gw := gw_t1 (List.mem_of_getElem? (i := 57) rfl) rfl
theorem wq961 : Cond.methodLink RX7 247 yX7_needWhat ∈ gw := gw_t5 (List.mem_of_getElem? (i := 57) rfl) rfl
theorem wq962 : Cond.static yX7_needWhat ∈ gw := gw_t5 (List.mem_of_getElem? (i := 58) rfl) rfl
theorem wq963 : Cond.code yX7_needWhat cX7_needWhat 2 none ∈ gw := gw_t5 (List.mem_of_getElem? (i := 59) rfl) rfl
theorem wq964 : Cond.methodLink RX7 250 yX6_numberOfLeaf ∈ gw := gw_t2 (List.mem_of_getElem? (i := 201) rfl) rfl
theorem wq965 : Cond.instanceMethod yX6_numberOfLeaf ∈ gw := gw_t2 (List.mem_of_getElem? (i := 202) rfl) rfl
theorem wq966 : Cond.selects RX6 yX6_numberOfLeaf yX6_numberOfLeaf ∈ gw := gw_t2 (List.mem_of_getElem? (i := 203) rfl) rfl
theorem wq967 : Cond.code yX6_numberOfLeaf cX6_numberOfLeaf 3 (some .int) ∈ gw := gw_t2 (List.mem_of_getElem? (i := 204) rfl) rfl
theorem wq968 : Cond.fieldLink RX6 225 "PinnedLeaves$Leaves" "lastBranch" "LPinnedLeaves$Row;" ∈ gw := gw_t1 (List.mem_of_getElem? (i := 66) rfl) rfl
theorem wq969 : Cond.methodLink RX6 228 yX1_maskOfHolders ∈ gw := gw_t2 (List.mem_of_getElem? (i := 205) rfl) rfl
theorem wq970 : Cond.instanceMethod yX1_maskOfHolders ∈ gw := gw_t2 (List.mem_of_getElem? (i := 206) rfl) rfl
theorem wq971 : Cond.selects RX1 yX1_maskOfHolders yX1_maskOfHolders ∈ gw := gw_t2 (List.mem_of_getElem? (i := 207) rfl) rfl
theorem wq972 : Cond.code yX1_maskOfHolders cX1_maskOfHolders 4 (some .int) ∈ gw := gw_t2 (List.mem_of_getElem? (i := 208) rfl) rfl
theorem wq973 : Cond.methodLink RX1 47 yX1_pinsOnBy ∈ gw := gw_t2 (List.mem_of_getElem? (i := 209) rfl) rfl
theorem wq974 : Cond.instanceMethod yX1_pinsOnBy ∈ gw := gw_t2 (List.mem_of_getElem? (i := 210) rfl) rfl
theorem wq975 : Cond.selects RX1 yX1_pinsOnBy yX1_pinsOnBy ∈ gw := gw_t2 (List.mem_of_getElem? (i := 211) rfl) rfl
theorem wq976 : Cond.code yX1_pinsOnBy cX1_pinsOnBy 3 (some .int) ∈ gw := gw_t2 (List.mem_of_getElem? (i := 212) rfl) rfl
theorem wq977 : Cond.methodLink RX6 222 yX1_pinsOn ∈ gw := gw_t2 (List.mem_of_getElem? (i := 126) rfl) rfl
theorem wq978 : Cond.instanceMethod yX1_pinsOn ∈ gw := gw_t2 (List.mem_of_getElem? (i := 127) rfl) rfl
theorem wq979 : Cond.selects RX1 yX1_pinsOn yX1_pinsOn ∈ gw := gw_t2 (List.mem_of_getElem? (i := 128) rfl) rfl
theorem wq980 : Cond.code yX1_pinsOn cX1_pinsOn 2 (some .int) ∈ gw := gw_t2 (List.mem_of_getElem? (i := 129) rfl) rfl
theorem wq981 : Cond.methodLink RX6 231 yX1_notesOn ∈ gw := gw_t2 (List.mem_of_getElem? (i := 214) rfl) rfl
theorem wq982 : Cond.instanceMethod yX1_notesOn ∈ gw := gw_t2 (List.mem_of_getElem? (i := 215) rfl) rfl
theorem wq983 : Cond.selects RX1 yX1_notesOn yX1_notesOn ∈ gw := gw_t2 (List.mem_of_getElem? (i := 216) rfl) rfl
theorem wq984 : Cond.code yX1_notesOn cX1_notesOn 2 (some .int) ∈ gw := gw_t2 (List.mem_of_getElem? (i := 217) rfl) rfl
theorem wq985 : Cond.methodLink RL 190 yX8_leaf ∈ gw := gw_t6 (List.mem_of_getElem? (i := 212) rfl) rfl
theorem wq986 : Cond.instanceMethod yX8_leaf ∈ gw := gw_t6 (List.mem_of_getElem? (i := 213) rfl) rfl
theorem wq987 : Cond.selects RX8 yX8_leaf yX8_leaf ∈ gw := gw_t6 (List.mem_of_getElem? (i := 214) rfl) rfl
theorem wq988 : Cond.code yX8_leaf cX8_leaf 3 (some .int) ∈ gw := gw_t6 (List.mem_of_getElem? (i := 215) rfl) rfl
theorem wq989 : Cond.methodLink RX8 210 yX8_isLeaf ∈ gw := gw_t6 (List.mem_of_getElem? (i := 216) rfl) rfl
theorem wq990 : Cond.instanceMethod yX8_isLeaf ∈ gw := gw_t6 (List.mem_of_getElem? (i := 218) rfl) rfl
theorem wq991 : Cond.selects RX8 yX8_isLeaf yX8_isLeaf ∈ gw := gw_p (n := _) (List.mem_of_getElem? (i := 55) rfl)
theorem wq992 : Cond.code yX8_isLeaf cX8_isLeaf 2 (some .boolean) ∈ gw := gw_t6 (List.mem_of_getElem? (i := 219) rfl) rfl
theorem wq993 : Cond.methodLink RX8 213 yX8_leafNow ∈ gw := gw_t6 (List.mem_of_getElem? (i := 220) rfl) rfl
theorem wq994 : Cond.instanceMethod yX8_leafNow ∈ gw := gw_t6 (List.mem_of_getElem? (i := 222) rfl) rfl
theorem wq995 : Cond.selects RX8 yX8_leafNow yX8_leafNow ∈ gw := gw_p (n := _) (List.mem_of_getElem? (i := 56) rfl)
theorem wq996 : Cond.code yX8_leafNow cX8_leafNow 3 (some .int) ∈ gw := gw_t6 (List.mem_of_getElem? (i := 223) rfl) rfl
theorem wq997 : Cond.methodLink RX8 207 yX8_hooksOn ∈ gw := gw_t6 (List.mem_of_getElem? (i := 224) rfl) rfl
theorem wq998 : Cond.instanceMethod yX8_hooksOn ∈ gw := gw_t6 (List.mem_of_getElem? (i := 226) rfl) rfl
theorem wq999 : Cond.selects RX8 yX8_hooksOn yX8_hooksOn ∈ gw := gw_p (n := _) (List.mem_of_getElem? (i := 57) rfl)
theorem wq1000 : Cond.code yX8_hooksOn cX8_hooksOn 6 (some .int) ∈ gw := gw_t6 (List.mem_of_getElem? (i := 227) rfl) rfl
theorem wq1001 : Cond.methodLink RL 191 yL_child ∈ gw := gw_t5 (List.mem_of_getElem? (i := 61) rfl) rfl
theorem wq1002 : Cond.static yL_child ∈ gw := gw_t5 (List.mem_of_getElem? (i := 62) rfl) rfl
theorem wq1003 : Cond.codeWith yL_child cL_child 5 (some .int) [(0, 10, 13, 19), (0, 10, 17, 34)] ∈ gw := gw_t5 (List.mem_of_getElem? (i := 63) rfl) rfl
theorem wq1004 : Cond.methodLink RL 79 yX7_child ∈ gw := gw_t5 (List.mem_of_getElem? (i := 64) rfl) rfl
theorem wq1005 : Cond.instanceMethod yX7_child ∈ gw := gw_t5 (List.mem_of_getElem? (i := 65) rfl) rfl
theorem wq1006 : Cond.selects RX7 yX7_child yX7_child ∈ gw := gw_t5 (List.mem_of_getElem? (i := 66) rfl) rfl
theorem wq1007 : Cond.code yX7_child cX7_child 3 (some .int) ∈ gw := gw_t5 (List.mem_of_getElem? (i := 67) rfl) rfl
theorem wq1008 : Cond.methodLink RX7 253 yX6_numberOfChild ∈ gw := gw_t2 (List.mem_of_getElem? (i := 227) rfl) rfl
theorem wq1009 : Cond.instanceMethod yX6_numberOfChild ∈ gw := gw_t2 (List.mem_of_getElem? (i := 228) rfl) rfl
theorem wq1010 : Cond.selects RX6 yX6_numberOfChild yX6_numberOfChild ∈ gw := gw_t2 (List.mem_of_getElem? (i := 229) rfl) rfl
theorem wq1011 : Cond.code yX6_numberOfChild cX6_numberOfChild 3 (some .int) ∈ gw := gw_t2 (List.mem_of_getElem? (i := 230) rfl) rfl
theorem wq1012 : Cond.methodLink RX6 234 yX1_notesOfChild ∈ gw := gw_t2 (List.mem_of_getElem? (i := 236) rfl) rfl
theorem wq1013 : Cond.instanceMethod yX1_notesOfChild ∈ gw := gw_t2 (List.mem_of_getElem? (i := 237) rfl) rfl
theorem wq1014 : Cond.selects RX1 yX1_notesOfChild yX1_notesOfChild ∈ gw := gw_t2 (List.mem_of_getElem? (i := 238) rfl) rfl
theorem wq1015 : Cond.code yX1_notesOfChild cX1_notesOfChild 2 (some .int) ∈ gw := gw_t2 (List.mem_of_getElem? (i := 239) rfl) rfl
theorem wq1016 : Cond.methodLink RL 193 yX8_child ∈ gw := gw_t6 (List.mem_of_getElem? (i := 228) rfl) rfl
theorem wq1017 : Cond.instanceMethod yX8_child ∈ gw := gw_t6 (List.mem_of_getElem? (i := 229) rfl) rfl
theorem wq1018 : Cond.selects RX8 yX8_child yX8_child ∈ gw := gw_t6 (List.mem_of_getElem? (i := 230) rfl) rfl
theorem wq1019 : Cond.code yX8_child cX8_child 3 (some .int) ∈ gw := gw_t6 (List.mem_of_getElem? (i := 231) rfl) rfl
theorem wq1020 : Cond.methodLink RX8 216 yX8_childNow ∈ gw := gw_t6 (List.mem_of_getElem? (i := 232) rfl) rfl
theorem wq1021 : Cond.instanceMethod yX8_childNow ∈ gw := gw_t6 (List.mem_of_getElem? (i := 234) rfl) rfl
theorem wq1022 : Cond.selects RX8 yX8_childNow yX8_childNow ∈ gw := gw_p (n := _) (List.mem_of_getElem? (i := 58) rfl)
theorem wq1023 : Cond.code yX8_childNow cX8_childNow 3 (some .int) ∈ gw := gw_t6 (List.mem_of_getElem? (i := 235) rfl) rfl
theorem wq1024 : Cond.methodLink RL 194 yL_hook ∈ gw := gw_t5 (List.mem_of_getElem? (i := 68) rfl) rfl
theorem wq1025 : Cond.static yL_hook ∈ gw := gw_t5 (List.mem_of_getElem? (i := 69) rfl) rfl
theorem wq1026 : Cond.codeWith yL_hook cL_hook 6 (some .int) [(0, 12, 15, 19), (0, 12, 19, 34)] ∈ gw := gw_t5 (List.mem_of_getElem? (i := 70) rfl) rfl
theorem wq1027 : Cond.methodLink RL 82 yX7_hook ∈ gw := gw_t5 (List.mem_of_getElem? (i := 71) rfl) rfl
theorem wq1028 : Cond.instanceMethod yX7_hook ∈ gw := gw_t5 (List.mem_of_getElem? (i := 72) rfl) rfl
theorem wq1029 : Cond.selects RX7 yX7_hook yX7_hook ∈ gw := gw_t5 (List.mem_of_getElem? (i := 73) rfl) rfl
theorem wq1030 : Cond.code yX7_hook cX7_hook 4 (some .int) ∈ gw := gw_t5 (List.mem_of_getElem? (i := 74) rfl) rfl
theorem wq1031 : Cond.fieldLink RX7 256 "PinnedLeaves$Yard" "hooks" "LPinnedLeaves$Hooks;" ∈ gw := gw_t1 (List.mem_of_getElem? (i := 163) rfl) rfl
theorem wq1032 : Cond.methodLink RX7 260 yX1_numberOfHook ∈ gw := gw_t3 (List.mem_of_getElem? (i := 0) rfl) rfl
theorem wq1033 : Cond.instanceMethod yX1_numberOfHook ∈ gw := gw_t3 (List.mem_of_getElem? (i := 1) rfl) rfl
theorem wq1034 : Cond.selects RX1 yX1_numberOfHook yX1_numberOfHook ∈ gw := gw_t3 (List.mem_of_getElem? (i := 2) rfl) rfl
theorem wq1035 : Cond.code yX1_numberOfHook cX1_numberOfHook 4 (some .int) ∈ gw := gw_t3 (List.mem_of_getElem? (i := 3) rfl) rfl
theorem wq1036 : Cond.methodLink RX1 51 yX1_kindOf ∈ gw := gw_t3 (List.mem_of_getElem? (i := 4) rfl) rfl
theorem wq1037 : Cond.methodLink RX1 54 yX1_leafOf ∈ gw := gw_t3 (List.mem_of_getElem? (i := 9) rfl) rfl
theorem wq1038 : Cond.methodLink RX1 57 yX1_branchOf ∈ gw := gw_t3 (List.mem_of_getElem? (i := 13) rfl) rfl
theorem wq1039 : Cond.methodLink RL 196 yX8_hook ∈ gw := gw_t6 (List.mem_of_getElem? (i := 236) rfl) rfl
theorem wq1040 : Cond.instanceMethod yX8_hook ∈ gw := gw_t6 (List.mem_of_getElem? (i := 237) rfl) rfl
theorem wq1041 : Cond.selects RX8 yX8_hook yX8_hook ∈ gw := gw_t6 (List.mem_of_getElem? (i := 238) rfl) rfl
theorem wq1042 : Cond.code yX8_hook cX8_hook 4 (some .int) ∈ gw := gw_t6 (List.mem_of_getElem? (i := 239) rfl) rfl
theorem wq1043 : Cond.methodLink RL 197 yL_heap ∈ gw := gw_t5 (List.mem_of_getElem? (i := 75) rfl) rfl
theorem wq1044 : Cond.static yL_heap ∈ gw := gw_t5 (List.mem_of_getElem? (i := 76) rfl) rfl
theorem wq1045 : Cond.codeWith yL_heap cL_heap 5 (some .int) [(0, 10, 13, 19), (0, 10, 17, 34)] ∈ gw := gw_t5 (List.mem_of_getElem? (i := 77) rfl) rfl
theorem wq1046 : Cond.methodLink RL 85 yX7_heap ∈ gw := gw_t5 (List.mem_of_getElem? (i := 78) rfl) rfl
theorem wq1047 : Cond.instanceMethod yX7_heap ∈ gw := gw_t5 (List.mem_of_getElem? (i := 79) rfl) rfl
theorem wq1048 : Cond.selects RX7 yX7_heap yX7_heap ∈ gw := gw_t5 (List.mem_of_getElem? (i := 80) rfl) rfl
theorem wq1049 : Cond.code yX7_heap cX7_heap 3 (some .int) ∈ gw := gw_t5 (List.mem_of_getElem? (i := 81) rfl) rfl
theorem wq1050 : Cond.methodLink RX7 267 yX0_leafOnHeap ∈ gw := gw_t3 (List.mem_of_getElem? (i := 23) rfl) rfl
theorem wq1051 : Cond.methodLink RL 199 yX8_heap ∈ gw := gw_t7 (List.mem_of_getElem? (i := 0) rfl) rfl
theorem wq1052 : Cond.instanceMethod yX8_heap ∈ gw := gw_t7 (List.mem_of_getElem? (i := 1) rfl) rfl
theorem wq1053 : Cond.selects RX8 yX8_heap yX8_heap ∈ gw := gw_t7 (List.mem_of_getElem? (i := 2) rfl) rfl
theorem wq1054 : Cond.code yX8_heap cX8_heap 3 (some .int) ∈ gw := gw_t7 (List.mem_of_getElem? (i := 3) rfl) rfl
theorem wq1055 : Cond.methodLink RL 200 yL_count ∈ gw := gw_t5 (List.mem_of_getElem? (i := 83) rfl) rfl
theorem wq1056 : Cond.static yL_count ∈ gw := gw_t5 (List.mem_of_getElem? (i := 84) rfl) rfl
theorem wq1057 : Cond.codeWith yL_count cL_count 4 (some .int) [(0, 9, 12, 34)] ∈ gw := gw_t5 (List.mem_of_getElem? (i := 85) rfl) rfl
theorem wq1058 : Cond.methodLink RL 88 yX7_count ∈ gw := gw_t5 (List.mem_of_getElem? (i := 86) rfl) rfl
theorem wq1059 : Cond.instanceMethod yX7_count ∈ gw := gw_t5 (List.mem_of_getElem? (i := 87) rfl) rfl
theorem wq1060 : Cond.selects RX7 yX7_count yX7_count ∈ gw := gw_t5 (List.mem_of_getElem? (i := 88) rfl) rfl
theorem wq1061 : Cond.code yX7_count cX7_count 2 (some .int) ∈ gw := gw_t5 (List.mem_of_getElem? (i := 89) rfl) rfl
theorem wq1062 : Cond.methodLink RX7 270 yX7_counted ∈ gw := gw_t2 (List.mem_of_getElem? (i := 154) rfl) rfl
theorem wq1063 : Cond.instanceMethod yX7_counted ∈ gw := gw_t2 (List.mem_of_getElem? (i := 156) rfl) rfl
theorem wq1064 : Cond.selects RX7 yX7_counted yX7_counted ∈ gw := gw_p (n := _) (List.mem_of_getElem? (i := 1) rfl)
theorem wq1065 : Cond.code yX7_counted cX7_counted 2 (some .int) ∈ gw := gw_t2 (List.mem_of_getElem? (i := 157) rfl) rfl
theorem wq1066 : Cond.methodLink RX7 369 yX6_numberOfAll ∈ gw := gw_t2 (List.mem_of_getElem? (i := 162) rfl) rfl
theorem wq1067 : Cond.instanceMethod yX6_numberOfAll ∈ gw := gw_t2 (List.mem_of_getElem? (i := 163) rfl) rfl
theorem wq1068 : Cond.selects RX6 yX6_numberOfAll yX6_numberOfAll ∈ gw := gw_t2 (List.mem_of_getElem? (i := 164) rfl) rfl
theorem wq1069 : Cond.code yX6_numberOfAll cX6_numberOfAll 2 (some .int) ∈ gw := gw_t2 (List.mem_of_getElem? (i := 165) rfl) rfl
theorem wq1070 : Cond.methodLink RX6 237 yX0_mask ∈ gw := gw_t2 (List.mem_of_getElem? (i := 166) rfl) rfl
theorem wq1071 : Cond.instanceMethod yX0_mask ∈ gw := gw_t2 (List.mem_of_getElem? (i := 167) rfl) rfl
theorem wq1072 : Cond.selects RX0 yX0_mask yX0_mask ∈ gw := gw_t2 (List.mem_of_getElem? (i := 168) rfl) rfl
theorem wq1073 : Cond.code yX0_mask cX0_mask 3 (some .int) ∈ gw := gw_t2 (List.mem_of_getElem? (i := 169) rfl) rfl
theorem wq1074 : Cond.methodLink RX6 240 yX0_numberInYard ∈ gw := gw_t2 (List.mem_of_getElem? (i := 175) rfl) rfl
theorem wq1075 : Cond.instanceMethod yX0_numberInYard ∈ gw := gw_t2 (List.mem_of_getElem? (i := 176) rfl) rfl
theorem wq1076 : Cond.selects RX0 yX0_numberInYard yX0_numberInYard ∈ gw := gw_t2 (List.mem_of_getElem? (i := 177) rfl) rfl
theorem wq1077 : Cond.code yX0_numberInYard cX0_numberInYard 1 (some .int) ∈ gw := gw_t2 (List.mem_of_getElem? (i := 178) rfl) rfl
theorem wq1078 : Cond.methodLink RX6 243 yX1_pins ∈ gw := gw_t2 (List.mem_of_getElem? (i := 180) rfl) rfl
theorem wq1079 : Cond.instanceMethod yX1_pins ∈ gw := gw_t2 (List.mem_of_getElem? (i := 181) rfl) rfl
theorem wq1080 : Cond.selects RX1 yX1_pins yX1_pins ∈ gw := gw_t2 (List.mem_of_getElem? (i := 182) rfl) rfl
theorem wq1081 : Cond.code yX1_pins cX1_pins 1 (some .int) ∈ gw := gw_t2 (List.mem_of_getElem? (i := 183) rfl) rfl
theorem wq1082 : Cond.methodLink RX6 246 yX1_notes ∈ gw := gw_t2 (List.mem_of_getElem? (i := 184) rfl) rfl
theorem wq1083 : Cond.instanceMethod yX1_notes ∈ gw := gw_t2 (List.mem_of_getElem? (i := 185) rfl) rfl
theorem wq1084 : Cond.selects RX1 yX1_notes yX1_notes ∈ gw := gw_t2 (List.mem_of_getElem? (i := 186) rfl) rfl
theorem wq1085 : Cond.code yX1_notes cX1_notes 1 (some .int) ∈ gw := gw_t2 (List.mem_of_getElem? (i := 187) rfl) rfl
theorem wq1086 : Cond.methodLink RL 202 yX8_count ∈ gw := gw_t7 (List.mem_of_getElem? (i := 4) rfl) rfl
theorem wq1087 : Cond.instanceMethod yX8_count ∈ gw := gw_t7 (List.mem_of_getElem? (i := 5) rfl) rfl
theorem wq1088 : Cond.selects RX8 yX8_count yX8_count ∈ gw := gw_t7 (List.mem_of_getElem? (i := 6) rfl) rfl
theorem wq1089 : Cond.code yX8_count cX8_count 2 (some .int) ∈ gw := gw_t7 (List.mem_of_getElem? (i := 7) rfl) rfl
theorem wq1090 : Cond.methodLink RX8 219 yX8_countNow ∈ gw := gw_t7 (List.mem_of_getElem? (i := 8) rfl) rfl
theorem wq1091 : Cond.instanceMethod yX8_countNow ∈ gw := gw_t7 (List.mem_of_getElem? (i := 10) rfl) rfl
theorem wq1092 : Cond.selects RX8 yX8_countNow yX8_countNow ∈ gw := gw_p (n := _) (List.mem_of_getElem? (i := 59) rfl)
theorem wq1093 : Cond.code yX8_countNow cX8_countNow 7 (some .int) ∈ gw := gw_t7 (List.mem_of_getElem? (i := 11) rfl) rfl
theorem wq1094 : Cond.methodLink RL 203 yL_setting ∈ gw := gw_t5 (List.mem_of_getElem? (i := 90) rfl) rfl
theorem wq1095 : Cond.static yL_setting ∈ gw := gw_t5 (List.mem_of_getElem? (i := 91) rfl) rfl
theorem wq1096 : Cond.codeWith yL_setting cL_setting 4 (some .int) [(0, 9, 12, 19)] ∈ gw := gw_t5 (List.mem_of_getElem? (i := 92) rfl) rfl
theorem wq1097 : Cond.methodLink RL 91 yX7_setting ∈ gw := gw_t5 (List.mem_of_getElem? (i := 93) rfl) rfl
theorem wq1098 : Cond.instanceMethod yX7_setting ∈ gw := gw_t5 (List.mem_of_getElem? (i := 94) rfl) rfl
theorem wq1099 : Cond.selects RX7 yX7_setting yX7_setting ∈ gw := gw_t5 (List.mem_of_getElem? (i := 95) rfl) rfl
theorem wq1100 : Cond.code yX7_setting cX7_setting 2 (some .int) ∈ gw := gw_t5 (List.mem_of_getElem? (i := 96) rfl) rfl
theorem wq1101 : Cond.methodLink RX7 273 yX6_valueOf ∈ gw := gw_t2 (List.mem_of_getElem? (i := 192) rfl) rfl
theorem wq1102 : Cond.methodLink RL 205 yX8_setting ∈ gw := gw_t7 (List.mem_of_getElem? (i := 12) rfl) rfl
theorem wq1103 : Cond.instanceMethod yX8_setting ∈ gw := gw_t7 (List.mem_of_getElem? (i := 13) rfl) rfl
theorem wq1104 : Cond.selects RX8 yX8_setting yX8_setting ∈ gw := gw_t7 (List.mem_of_getElem? (i := 14) rfl) rfl
theorem wq1105 : Cond.code yX8_setting cX8_setting 2 (some .int) ∈ gw := gw_t7 (List.mem_of_getElem? (i := 15) rfl) rfl
theorem wq1106 : Cond.methodLink RL 206 yL_why ∈ gw := gw_t5 (List.mem_of_getElem? (i := 97) rfl) rfl
theorem wq1107 : Cond.static yL_why ∈ gw := gw_t5 (List.mem_of_getElem? (i := 98) rfl) rfl
theorem wq1108 : Cond.codeWith yL_why cL_why 4 (some .int) [(0, 9, 12, 19)] ∈ gw := gw_t5 (List.mem_of_getElem? (i := 99) rfl) rfl
theorem wq1109 : Cond.methodLink RL 94 yX7_why ∈ gw := gw_t5 (List.mem_of_getElem? (i := 100) rfl) rfl
theorem wq1110 : Cond.instanceMethod yX7_why ∈ gw := gw_t5 (List.mem_of_getElem? (i := 101) rfl) rfl
theorem wq1111 : Cond.selects RX7 yX7_why yX7_why ∈ gw := gw_t5 (List.mem_of_getElem? (i := 102) rfl) rfl
theorem wq1112 : Cond.code yX7_why cX7_why 2 (some .int) ∈ gw := gw_t5 (List.mem_of_getElem? (i := 103) rfl) rfl
theorem wq1113 : Cond.methodLink RX7 276 yX6_whyNotBurnt ∈ gw := gw_t2 (List.mem_of_getElem? (i := 218) rfl) rfl
theorem wq1114 : Cond.instanceMethod yX6_whyNotBurnt ∈ gw := gw_t2 (List.mem_of_getElem? (i := 219) rfl) rfl
theorem wq1115 : Cond.selects RX6 yX6_whyNotBurnt yX6_whyNotBurnt ∈ gw := gw_t2 (List.mem_of_getElem? (i := 220) rfl) rfl
theorem wq1116 : Cond.code yX6_whyNotBurnt cX6_whyNotBurnt 3 (some .int) ∈ gw := gw_t2 (List.mem_of_getElem? (i := 221) rfl) rfl
theorem wq1117 : Cond.methodLink RL 208 yX8_why ∈ gw := gw_t7 (List.mem_of_getElem? (i := 16) rfl) rfl
theorem wq1118 : Cond.instanceMethod yX8_why ∈ gw := gw_t7 (List.mem_of_getElem? (i := 17) rfl) rfl
theorem wq1119 : Cond.selects RX8 yX8_why yX8_why ∈ gw := gw_t7 (List.mem_of_getElem? (i := 18) rfl) rfl
theorem wq1120 : Cond.code yX8_why cX8_why 2 (some .int) ∈ gw := gw_t7 (List.mem_of_getElem? (i := 19) rfl) rfl
theorem wq1121 : Cond.methodLink RX8 222 yX8_whyNot ∈ gw := gw_t7 (List.mem_of_getElem? (i := 20) rfl) rfl
theorem wq1122 : Cond.instanceMethod yX8_whyNot ∈ gw := gw_t7 (List.mem_of_getElem? (i := 22) rfl) rfl
theorem wq1123 : Cond.selects RX8 yX8_whyNot yX8_whyNot ∈ gw := gw_p (n := _) (List.mem_of_getElem? (i := 60) rfl)
theorem wq1124 : Cond.code yX8_whyNot cX8_whyNot 3 (some .int) ∈ gw := gw_t7 (List.mem_of_getElem? (i := 23) rfl) rfl
theorem wq1125 : Cond.methodLink RL 209 yL_ifRaked ∈ gw := gw_t5 (List.mem_of_getElem? (i := 104) rfl) rfl
theorem wq1126 : Cond.static yL_ifRaked ∈ gw := gw_t5 (List.mem_of_getElem? (i := 105) rfl) rfl
theorem wq1127 : Cond.codeWith yL_ifRaked cL_ifRaked 5 (some .int) [(0, 10, 13, 19), (0, 10, 17, 34)] ∈ gw := gw_t5 (List.mem_of_getElem? (i := 106) rfl) rfl
theorem wq1128 : Cond.methodLink RL 97 yX7_ifRaked ∈ gw := gw_t5 (List.mem_of_getElem? (i := 107) rfl) rfl
theorem wq1129 : Cond.instanceMethod yX7_ifRaked ∈ gw := gw_t5 (List.mem_of_getElem? (i := 108) rfl) rfl
theorem wq1130 : Cond.selects RX7 yX7_ifRaked yX7_ifRaked ∈ gw := gw_t5 (List.mem_of_getElem? (i := 109) rfl) rfl
theorem wq1131 : Cond.code yX7_ifRaked cX7_ifRaked 3 (some .int) ∈ gw := gw_t5 (List.mem_of_getElem? (i := 110) rfl) rfl
theorem wq1132 : Cond.methodLink RX7 281 yX6_burnable ∈ gw := gw_t3 (List.mem_of_getElem? (i := 24) rfl) rfl
theorem wq1133 : Cond.instanceMethod yX6_burnable ∈ gw := gw_t2 (List.mem_of_getElem? (i := 78) rfl) rfl
theorem wq1134 : Cond.selects RX6 yX6_burnable yX6_burnable ∈ gw := gw_t2 (List.mem_of_getElem? (i := 79) rfl) rfl
theorem wq1135 : Cond.code yX6_burnable cX6_burnable 7 (some .int) ∈ gw := gw_t2 (List.mem_of_getElem? (i := 80) rfl) rfl
theorem wq1136 : Cond.methodLink RL 211 yX8_ifRaked ∈ gw := gw_t7 (List.mem_of_getElem? (i := 24) rfl) rfl
theorem wq1137 : Cond.instanceMethod yX8_ifRaked ∈ gw := gw_t7 (List.mem_of_getElem? (i := 25) rfl) rfl
theorem wq1138 : Cond.selects RX8 yX8_ifRaked yX8_ifRaked ∈ gw := gw_t7 (List.mem_of_getElem? (i := 26) rfl) rfl
theorem wq1139 : Cond.code yX8_ifRaked cX8_ifRaked 3 (some .int) ∈ gw := gw_t7 (List.mem_of_getElem? (i := 27) rfl) rfl
theorem wq1140 : Cond.methodLink RX8 225 yX8_burnable ∈ gw := gw_t7 (List.mem_of_getElem? (i := 28) rfl) rfl
theorem wq1141 : Cond.instanceMethod yX8_burnable ∈ gw := gw_t7 (List.mem_of_getElem? (i := 30) rfl) rfl
theorem wq1142 : Cond.selects RX8 yX8_burnable yX8_burnable ∈ gw := gw_p (n := _) (List.mem_of_getElem? (i := 61) rfl)
theorem wq1143 : Cond.code yX8_burnable cX8_burnable 5 (some .int) ∈ gw := gw_t7 (List.mem_of_getElem? (i := 31) rfl) rfl
theorem wq1144 : Cond.methodLink RL 212 yX7_bestRake ∈ gw := gw_t2 (List.mem_of_getElem? (i := 69) rfl) rfl
theorem wq1145 : Cond.instanceMethod yX7_bestRake ∈ gw := gw_t2 (List.mem_of_getElem? (i := 70) rfl) rfl
theorem wq1146 : Cond.selects RX7 yX7_bestRake yX7_bestRake ∈ gw := gw_t2 (List.mem_of_getElem? (i := 71) rfl) rfl
theorem wq1147 : Cond.code yX7_bestRake cX7_bestRake 1 (some .int) ∈ gw := gw_t2 (List.mem_of_getElem? (i := 72) rfl) rfl
theorem wq1148 : Cond.methodLink RX7 284 yX6_bestHeap ∈ gw := gw_t2 (List.mem_of_getElem? (i := 73) rfl) rfl
theorem wq1149 : Cond.instanceMethod yX6_bestHeap ∈ gw := gw_t2 (List.mem_of_getElem? (i := 74) rfl) rfl
theorem wq1150 : Cond.selects RX6 yX6_bestHeap yX6_bestHeap ∈ gw := gw_t2 (List.mem_of_getElem? (i := 75) rfl) rfl
theorem wq1151 : Cond.code yX6_bestHeap cX6_bestHeap 6 (some .int) ∈ gw := gw_t2 (List.mem_of_getElem? (i := 76) rfl) rfl
theorem wq1152 : Cond.methodLink RX6 219 yX6_burnable ∈ gw := gw_t2 (List.mem_of_getElem? (i := 77) rfl) rfl
theorem wq1153 : Cond.methodLink RL 215 yX8_bestRake ∈ gw := gw_t7 (List.mem_of_getElem? (i := 32) rfl) rfl
theorem wq1154 : Cond.instanceMethod yX8_bestRake ∈ gw := gw_t7 (List.mem_of_getElem? (i := 33) rfl) rfl
theorem wq1155 : Cond.selects RX8 yX8_bestRake yX8_bestRake ∈ gw := gw_t7 (List.mem_of_getElem? (i := 34) rfl) rfl
theorem wq1156 : Cond.code yX8_bestRake cX8_bestRake 1 (some .int) ∈ gw := gw_t7 (List.mem_of_getElem? (i := 35) rfl) rfl
theorem wq1157 : Cond.methodLink RX8 228 yX8_findBestRake ∈ gw := gw_t7 (List.mem_of_getElem? (i := 36) rfl) rfl
theorem wq1158 : Cond.instanceMethod yX8_findBestRake ∈ gw := gw_t7 (List.mem_of_getElem? (i := 38) rfl) rfl
theorem wq1159 : Cond.selects RX8 yX8_findBestRake yX8_findBestRake ∈ gw := gw_p (n := _) (List.mem_of_getElem? (i := 62) rfl)
theorem wq1160 : Cond.code yX8_findBestRake cX8_findBestRake 5 (some .int) ∈ gw := gw_t7 (List.mem_of_getElem? (i := 39) rfl) rfl
theorem wq1161 : Cond.methodLink RL 216 yL_ifLoosened ∈ gw := gw_t5 (List.mem_of_getElem? (i := 112) rfl) rfl
theorem wq1162 : Cond.static yL_ifLoosened ∈ gw := gw_t5 (List.mem_of_getElem? (i := 113) rfl) rfl
theorem wq1163 : Cond.codeWith yL_ifLoosened cL_ifLoosened 5 (some .int) [(0, 10, 13, 19)] ∈ gw := gw_t5 (List.mem_of_getElem? (i := 114) rfl) rfl
theorem wq1164 : Cond.methodLink RL 100 yX7_ifLoosened ∈ gw := gw_t5 (List.mem_of_getElem? (i := 115) rfl) rfl
theorem wq1165 : Cond.instanceMethod yX7_ifLoosened ∈ gw := gw_t5 (List.mem_of_getElem? (i := 116) rfl) rfl
theorem wq1166 : Cond.selects RX7 yX7_ifLoosened yX7_ifLoosened ∈ gw := gw_t5 (List.mem_of_getElem? (i := 117) rfl) rfl
theorem wq1167 : Cond.code yX7_ifLoosened cX7_ifLoosened 3 (some .int) ∈ gw := gw_t5 (List.mem_of_getElem? (i := 118) rfl) rfl
theorem wq1168 : Cond.methodLink RX7 287 yX6_freedBy ∈ gw := gw_t3 (List.mem_of_getElem? (i := 17) rfl) rfl
theorem wq1169 : Cond.instanceMethod yX6_freedBy ∈ gw := gw_t3 (List.mem_of_getElem? (i := 18) rfl) rfl
theorem wq1170 : Cond.selects RX6 yX6_freedBy yX6_freedBy ∈ gw := gw_t3 (List.mem_of_getElem? (i := 19) rfl) rfl
theorem wq1171 : Cond.code yX6_freedBy cX6_freedBy 5 (some .int) ∈ gw := gw_t3 (List.mem_of_getElem? (i := 20) rfl) rfl
theorem wq1172 : Cond.methodLink RL 218 yX8_ifLoosened ∈ gw := gw_t7 (List.mem_of_getElem? (i := 40) rfl) rfl
theorem wq1173 : Cond.instanceMethod yX8_ifLoosened ∈ gw := gw_t7 (List.mem_of_getElem? (i := 41) rfl) rfl
theorem wq1174 : Cond.selects RX8 yX8_ifLoosened yX8_ifLoosened ∈ gw := gw_t7 (List.mem_of_getElem? (i := 42) rfl) rfl
theorem wq1175 : Cond.code yX8_ifLoosened cX8_ifLoosened 3 (some .int) ∈ gw := gw_t7 (List.mem_of_getElem? (i := 43) rfl) rfl
theorem wq1176 : Cond.methodLink RX8 231 yX8_freedBy ∈ gw := gw_t7 (List.mem_of_getElem? (i := 44) rfl) rfl
theorem wq1177 : Cond.instanceMethod yX8_freedBy ∈ gw := gw_t7 (List.mem_of_getElem? (i := 46) rfl) rfl
theorem wq1178 : Cond.selects RX8 yX8_freedBy yX8_freedBy ∈ gw := gw_p (n := _) (List.mem_of_getElem? (i := 63) rfl)
theorem wq1179 : Cond.code yX8_freedBy cX8_freedBy 5 (some .int) ∈ gw := gw_t7 (List.mem_of_getElem? (i := 47) rfl) rfl
theorem wq1180 : Cond.methodLink RL 219 yX7_late ∈ gw := gw_t2 (List.mem_of_getElem? (i := 98) rfl) rfl
theorem wq1181 : Cond.instanceMethod yX7_late ∈ gw := gw_t2 (List.mem_of_getElem? (i := 99) rfl) rfl
theorem wq1182 : Cond.selects RX7 yX7_late yX7_late ∈ gw := gw_t2 (List.mem_of_getElem? (i := 100) rfl) rfl
theorem wq1183 : Cond.code yX7_late cX7_late 1 (some .int) ∈ gw := gw_t2 (List.mem_of_getElem? (i := 101) rfl) rfl
theorem wq1184 : Cond.methodLink RX7 290 yX0_maskOfLate ∈ gw := gw_t2 (List.mem_of_getElem? (i := 102) rfl) rfl
theorem wq1185 : Cond.methodLink RL 222 yX8_late ∈ gw := gw_t7 (List.mem_of_getElem? (i := 48) rfl) rfl
theorem wq1186 : Cond.instanceMethod yX8_late ∈ gw := gw_t7 (List.mem_of_getElem? (i := 49) rfl) rfl
theorem wq1187 : Cond.selects RX8 yX8_late yX8_late ∈ gw := gw_t7 (List.mem_of_getElem? (i := 50) rfl) rfl
theorem wq1188 : Cond.code yX8_late cX8_late 1 (some .int) ∈ gw := gw_t7 (List.mem_of_getElem? (i := 51) rfl) rfl
theorem wq1189 : Cond.methodLink RL 223 yL_ifRested ∈ gw := gw_t5 (List.mem_of_getElem? (i := 119) rfl) rfl
theorem wq1190 : Cond.static yL_ifRested ∈ gw := gw_t5 (List.mem_of_getElem? (i := 120) rfl) rfl
theorem wq1191 : Cond.codeWith yL_ifRested cL_ifRested 4 (some .int) [(0, 9, 12, 19)] ∈ gw := gw_t5 (List.mem_of_getElem? (i := 121) rfl) rfl
theorem wq1192 : Cond.methodLink RL 103 yX7_ifRested ∈ gw := gw_t5 (List.mem_of_getElem? (i := 122) rfl) rfl
theorem wq1193 : Cond.instanceMethod yX7_ifRested ∈ gw := gw_t5 (List.mem_of_getElem? (i := 123) rfl) rfl
theorem wq1194 : Cond.selects RX7 yX7_ifRested yX7_ifRested ∈ gw := gw_t5 (List.mem_of_getElem? (i := 124) rfl) rfl
theorem wq1195 : Cond.code yX7_ifRested cX7_ifRested 2 (some .int) ∈ gw := gw_t5 (List.mem_of_getElem? (i := 125) rfl) rfl
theorem wq1196 : Cond.methodLink RX7 293 yX6_burnableIfRested ∈ gw := gw_t3 (List.mem_of_getElem? (i := 25) rfl) rfl
theorem wq1197 : Cond.instanceMethod yX6_burnableIfRested ∈ gw := gw_t3 (List.mem_of_getElem? (i := 26) rfl) rfl
theorem wq1198 : Cond.selects RX6 yX6_burnableIfRested yX6_burnableIfRested ∈ gw := gw_t3 (List.mem_of_getElem? (i := 27) rfl) rfl
theorem wq1199 : Cond.code yX6_burnableIfRested cX6_burnableIfRested 4 (some .int) ∈ gw := gw_t3 (List.mem_of_getElem? (i := 28) rfl) rfl
theorem wq1200 : Cond.methodLink RL 225 yX8_ifRested ∈ gw := gw_t7 (List.mem_of_getElem? (i := 52) rfl) rfl
theorem wq1201 : Cond.instanceMethod yX8_ifRested ∈ gw := gw_t7 (List.mem_of_getElem? (i := 53) rfl) rfl
theorem wq1202 : Cond.selects RX8 yX8_ifRested yX8_ifRested ∈ gw := gw_t7 (List.mem_of_getElem? (i := 54) rfl) rfl
theorem wq1203 : Cond.code yX8_ifRested cX8_ifRested 2 (some .int) ∈ gw := gw_t7 (List.mem_of_getElem? (i := 55) rfl) rfl
theorem wq1204 : Cond.methodLink RX8 234 yX8_burnableWithout ∈ gw := gw_t7 (List.mem_of_getElem? (i := 56) rfl) rfl
theorem wq1205 : Cond.instanceMethod yX8_burnableWithout ∈ gw := gw_t7 (List.mem_of_getElem? (i := 58) rfl) rfl
theorem wq1206 : Cond.selects RX8 yX8_burnableWithout yX8_burnableWithout ∈ gw := gw_p (n := _) (List.mem_of_getElem? (i := 64) rfl)
theorem wq1207 : Cond.code yX8_burnableWithout cX8_burnableWithout 5 (some .int) ∈ gw := gw_t7 (List.mem_of_getElem? (i := 59) rfl) rfl
theorem wq1208 : Cond.methodLink RL 226 yX7_ifAllRested ∈ gw := gw_t2 (List.mem_of_getElem? (i := 110) rfl) rfl
theorem wq1209 : Cond.instanceMethod yX7_ifAllRested ∈ gw := gw_t2 (List.mem_of_getElem? (i := 111) rfl) rfl
theorem wq1210 : Cond.selects RX7 yX7_ifAllRested yX7_ifAllRested ∈ gw := gw_t2 (List.mem_of_getElem? (i := 112) rfl) rfl
theorem wq1211 : Cond.code yX7_ifAllRested cX7_ifAllRested 1 (some .int) ∈ gw := gw_t2 (List.mem_of_getElem? (i := 113) rfl) rfl
theorem wq1212 : Cond.methodLink RX7 296 yX6_burnableIfAllRested ∈ gw := gw_t2 (List.mem_of_getElem? (i := 114) rfl) rfl
theorem wq1213 : Cond.instanceMethod yX6_burnableIfAllRested ∈ gw := gw_t2 (List.mem_of_getElem? (i := 115) rfl) rfl
theorem wq1214 : Cond.selects RX6 yX6_burnableIfAllRested yX6_burnableIfAllRested ∈ gw := gw_t2 (List.mem_of_getElem? (i := 116) rfl) rfl
theorem wq1215 : Cond.code yX6_burnableIfAllRested cX6_burnableIfAllRested 4 (some .int) ∈ gw := gw_t2 (List.mem_of_getElem? (i := 117) rfl) rfl
theorem wq1216 : Cond.methodLink RL 229 yX8_ifAllRested ∈ gw := gw_t7 (List.mem_of_getElem? (i := 60) rfl) rfl
theorem wq1217 : Cond.instanceMethod yX8_ifAllRested ∈ gw := gw_t7 (List.mem_of_getElem? (i := 61) rfl) rfl
theorem wq1218 : Cond.selects RX8 yX8_ifAllRested yX8_ifAllRested ∈ gw := gw_t7 (List.mem_of_getElem? (i := 62) rfl) rfl
theorem wq1219 : Cond.code yX8_ifAllRested cX8_ifAllRested 1 (some .int) ∈ gw := gw_t7 (List.mem_of_getElem? (i := 63) rfl) rfl
theorem wq1220 : Cond.methodLink RL 230 yX7_mostHeld ∈ gw := gw_t2 (List.mem_of_getElem? (i := 118) rfl) rfl
theorem wq1221 : Cond.instanceMethod yX7_mostHeld ∈ gw := gw_t2 (List.mem_of_getElem? (i := 119) rfl) rfl
theorem wq1222 : Cond.selects RX7 yX7_mostHeld yX7_mostHeld ∈ gw := gw_t2 (List.mem_of_getElem? (i := 120) rfl) rfl
theorem wq1223 : Cond.code yX7_mostHeld cX7_mostHeld 1 (some .int) ∈ gw := gw_t2 (List.mem_of_getElem? (i := 121) rfl) rfl
theorem wq1224 : Cond.methodLink RX7 299 yX6_mostPinned ∈ gw := gw_t2 (List.mem_of_getElem? (i := 122) rfl) rfl
theorem wq1225 : Cond.instanceMethod yX6_mostPinned ∈ gw := gw_t2 (List.mem_of_getElem? (i := 123) rfl) rfl
theorem wq1226 : Cond.selects RX6 yX6_mostPinned yX6_mostPinned ∈ gw := gw_t2 (List.mem_of_getElem? (i := 124) rfl) rfl
theorem wq1227 : Cond.code yX6_mostPinned cX6_mostPinned 5 (some .int) ∈ gw := gw_t2 (List.mem_of_getElem? (i := 125) rfl) rfl
theorem wq1228 : Cond.methodLink RL 233 yX8_mostHeld ∈ gw := gw_t7 (List.mem_of_getElem? (i := 64) rfl) rfl
theorem wq1229 : Cond.instanceMethod yX8_mostHeld ∈ gw := gw_t7 (List.mem_of_getElem? (i := 65) rfl) rfl
theorem wq1230 : Cond.selects RX8 yX8_mostHeld yX8_mostHeld ∈ gw := gw_t7 (List.mem_of_getElem? (i := 66) rfl) rfl
theorem wq1231 : Cond.code yX8_mostHeld cX8_mostHeld 1 (some .int) ∈ gw := gw_t7 (List.mem_of_getElem? (i := 67) rfl) rfl
theorem wq1232 : Cond.methodLink RX8 237 yX8_findMostHeld ∈ gw := gw_t7 (List.mem_of_getElem? (i := 68) rfl) rfl
theorem wq1233 : Cond.instanceMethod yX8_findMostHeld ∈ gw := gw_t7 (List.mem_of_getElem? (i := 70) rfl) rfl
theorem wq1234 : Cond.selects RX8 yX8_findMostHeld yX8_findMostHeld ∈ gw := gw_p (n := _) (List.mem_of_getElem? (i := 65) rfl)
theorem wq1235 : Cond.code yX8_findMostHeld cX8_findMostHeld 5 (some .int) ∈ gw := gw_t7 (List.mem_of_getElem? (i := 71) rfl) rfl
theorem wq1236 : Cond.methodLink RL 234 yX7_burntShare ∈ gw := gw_t2 (List.mem_of_getElem? (i := 131) rfl) rfl
theorem wq1237 : Cond.instanceMethod yX7_burntShare ∈ gw := gw_t2 (List.mem_of_getElem? (i := 132) rfl) rfl
theorem wq1238 : Cond.selects RX7 yX7_burntShare yX7_burntShare ∈ gw := gw_t2 (List.mem_of_getElem? (i := 133) rfl) rfl
theorem wq1239 : Cond.code yX7_burntShare cX7_burntShare 3 (some .double) ∈ gw := gw_t2 (List.mem_of_getElem? (i := 134) rfl) rfl
theorem wq1240 : Cond.methodLink RX7 302 yX2_numberWhere ∈ gw := gw_t2 (List.mem_of_getElem? (i := 135) rfl) rfl
theorem wq1241 : Cond.methodLink RL 238 yX8_burntShare ∈ gw := gw_t7 (List.mem_of_getElem? (i := 72) rfl) rfl
theorem wq1242 : Cond.instanceMethod yX8_burntShare ∈ gw := gw_t7 (List.mem_of_getElem? (i := 73) rfl) rfl
theorem wq1243 : Cond.selects RX8 yX8_burntShare yX8_burntShare ∈ gw := gw_t7 (List.mem_of_getElem? (i := 74) rfl) rfl
theorem wq1244 : Cond.code yX8_burntShare cX8_burntShare 1 (some .double) ∈ gw := gw_t7 (List.mem_of_getElem? (i := 75) rfl) rfl
theorem wq1245 : Cond.methodLink RX8 240 yX8_shareOfBurnt ∈ gw := gw_t7 (List.mem_of_getElem? (i := 76) rfl) rfl
theorem wq1246 : Cond.instanceMethod yX8_shareOfBurnt ∈ gw := gw_t7 (List.mem_of_getElem? (i := 78) rfl) rfl
theorem wq1247 : Cond.selects RX8 yX8_shareOfBurnt yX8_shareOfBurnt ∈ gw := gw_p (n := _) (List.mem_of_getElem? (i := 66) rfl)
theorem wq1248 : Cond.code yX8_shareOfBurnt cX8_shareOfBurnt 3 (some .double) ∈ gw := gw_t7 (List.mem_of_getElem? (i := 79) rfl) rfl
theorem wq1249 : Cond.methodLink RL 239 yX7_fullness ∈ gw := gw_t2 (List.mem_of_getElem? (i := 140) rfl) rfl
theorem wq1250 : Cond.instanceMethod yX7_fullness ∈ gw := gw_t2 (List.mem_of_getElem? (i := 141) rfl) rfl
theorem wq1251 : Cond.selects RX7 yX7_fullness yX7_fullness ∈ gw := gw_t2 (List.mem_of_getElem? (i := 142) rfl) rfl
theorem wq1252 : Cond.code yX7_fullness cX7_fullness 2 (some .float) ∈ gw := gw_t2 (List.mem_of_getElem? (i := 143) rfl) rfl
theorem wq1253 : Cond.fieldLink RX7 305 "PinnedLeaves$Yard" "rakeAt" "I" ∈ gw := gw_t1 (List.mem_of_getElem? (i := 151) rfl) rfl
theorem wq1254 : Cond.methodLink RL 243 yX8_fullness ∈ gw := gw_t7 (List.mem_of_getElem? (i := 80) rfl) rfl
theorem wq1255 : Cond.instanceMethod yX8_fullness ∈ gw := gw_t7 (List.mem_of_getElem? (i := 81) rfl) rfl
theorem wq1256 : Cond.selects RX8 yX8_fullness yX8_fullness ∈ gw := gw_t7 (List.mem_of_getElem? (i := 82) rfl) rfl
theorem wq1257 : Cond.code yX8_fullness cX8_fullness 1 (some .float) ∈ gw := gw_t7 (List.mem_of_getElem? (i := 83) rfl) rfl
theorem wq1258 : Cond.methodLink RX8 244 yX8_fullnessNow ∈ gw := gw_t7 (List.mem_of_getElem? (i := 84) rfl) rfl
theorem wq1259 : Cond.instanceMethod yX8_fullnessNow ∈ gw := gw_t7 (List.mem_of_getElem? (i := 86) rfl) rfl
theorem wq1260 : Cond.selects RX8 yX8_fullnessNow yX8_fullnessNow ∈ gw := gw_p (n := _) (List.mem_of_getElem? (i := 67) rfl)
theorem wq1261 : Cond.code yX8_fullnessNow cX8_fullnessNow 1 (some .float) ∈ gw := gw_t7 (List.mem_of_getElem? (i := 87) rfl) rfl
theorem wq1262 : Cond.methodLink RL 244 yX7_digest ∈ gw := gw_t2 (List.mem_of_getElem? (i := 149) rfl) rfl
theorem wq1263 : Cond.instanceMethod yX7_digest ∈ gw := gw_t2 (List.mem_of_getElem? (i := 150) rfl) rfl
theorem wq1264 : Cond.selects RX7 yX7_digest yX7_digest ∈ gw := gw_t2 (List.mem_of_getElem? (i := 151) rfl) rfl
theorem wq1265 : Cond.code yX7_digest cX7_digest 4 (some .long) ∈ gw := gw_t2 (List.mem_of_getElem? (i := 152) rfl) rfl
theorem wq1266 : Cond.constantLong RX7 308 (3347) ∈ gw := gw_t2 (List.mem_of_getElem? (i := 153) rfl) rfl
theorem wq1267 : Cond.methodLink RX7 310 yX7_mixed ∈ gw := gw_t2 (List.mem_of_getElem? (i := 188) rfl) rfl
theorem wq1268 : Cond.static yX7_mixed ∈ gw := gw_t2 (List.mem_of_getElem? (i := 189) rfl) rfl
theorem wq1269 : Cond.code yX7_mixed cX7_mixed 4 (some .long) ∈ gw := gw_t2 (List.mem_of_getElem? (i := 190) rfl) rfl
theorem wq1270 : Cond.constantLong RX7 372 (31) ∈ gw := gw_t2 (List.mem_of_getElem? (i := 191) rfl) rfl
theorem wq1271 : Cond.methodLink RX7 317 yX7_mixedLeaf ∈ gw := gw_t2 (List.mem_of_getElem? (i := 197) rfl) rfl
theorem wq1272 : Cond.instanceMethod yX7_mixedLeaf ∈ gw := gw_t2 (List.mem_of_getElem? (i := 199) rfl) rfl
theorem wq1273 : Cond.selects RX7 yX7_mixedLeaf yX7_mixedLeaf ∈ gw := gw_p (n := _) (List.mem_of_getElem? (i := 2) rfl)
theorem wq1274 : Cond.code yX7_mixedLeaf cX7_mixedLeaf 7 (some .long) ∈ gw := gw_t2 (List.mem_of_getElem? (i := 200) rfl) rfl
theorem wq1275 : Cond.methodLink RX7 324 yX7_mixedChild ∈ gw := gw_t2 (List.mem_of_getElem? (i := 223) rfl) rfl
theorem wq1276 : Cond.instanceMethod yX7_mixedChild ∈ gw := gw_t2 (List.mem_of_getElem? (i := 225) rfl) rfl
theorem wq1277 : Cond.selects RX7 yX7_mixedChild yX7_mixedChild ∈ gw := gw_p (n := _) (List.mem_of_getElem? (i := 3) rfl)
theorem wq1278 : Cond.code yX7_mixedChild cX7_mixedChild 8 (some .long) ∈ gw := gw_t2 (List.mem_of_getElem? (i := 226) rfl) rfl
theorem wq1279 : Cond.fieldLink RX7 374 "PinnedLeaves$Children" "heapSize" "LPinnedLeaves$Row;" ∈ gw := gw_t1 (List.mem_of_getElem? (i := 110) rfl) rfl
theorem wq1280 : Cond.methodLink RX7 327 yX7_burntShare ∈ gw := gw_t3 (List.mem_of_getElem? (i := 29) rfl) rfl
theorem wq1281 : Cond.methodLink RX7 331 yX7_bitsOf ∈ gw := gw_t3 (List.mem_of_getElem? (i := 30) rfl) rfl
theorem wq1282 : Cond.static yX7_bitsOf ∈ gw := gw_t3 (List.mem_of_getElem? (i := 31) rfl) rfl
theorem wq1283 : Cond.code yX7_bitsOf cX7_bitsOf 9 (some .long) ∈ gw := gw_t3 (List.mem_of_getElem? (i := 32) rfl) rfl
theorem wq1284 : Cond.constantDouble RX7 377 (4611686018427387904) ∈ gw := gw_t3 (List.mem_of_getElem? (i := 33) rfl) rfl
theorem wq1285 : Cond.methodLink RX7 335 yX7_fullness ∈ gw := gw_t3 (List.mem_of_getElem? (i := 34) rfl) rfl
theorem wq1286 : Cond.methodLink RX7 339 yX7_mixedText ∈ gw := gw_t3 (List.mem_of_getElem? (i := 35) rfl) rfl
theorem wq1287 : Cond.instanceMethod yX7_mixedText ∈ gw := gw_t3 (List.mem_of_getElem? (i := 37) rfl) rfl
theorem wq1288 : Cond.selects RX7 yX7_mixedText yX7_mixedText ∈ gw := gw_p (n := _) (List.mem_of_getElem? (i := 4) rfl)
theorem wq1289 : Cond.code yX7_mixedText cX7_mixedText 6 (some .long) ∈ gw := gw_t3 (List.mem_of_getElem? (i := 38) rfl) rfl
theorem wq1290 : Cond.methodLink RL 248 yX8_digest ∈ gw := gw_t7 (List.mem_of_getElem? (i := 88) rfl) rfl
theorem wq1291 : Cond.instanceMethod yX8_digest ∈ gw := gw_t7 (List.mem_of_getElem? (i := 89) rfl) rfl
theorem wq1292 : Cond.selects RX8 yX8_digest yX8_digest ∈ gw := gw_t7 (List.mem_of_getElem? (i := 90) rfl) rfl
theorem wq1293 : Cond.code yX8_digest cX8_digest 5 (some .long) ∈ gw := gw_t7 (List.mem_of_getElem? (i := 91) rfl) rfl
theorem wq1294 : Cond.constantLong RX8 248 (3347) ∈ gw := gw_t7 (List.mem_of_getElem? (i := 92) rfl) rfl
theorem wq1295 : Cond.constantLong RX8 250 (31) ∈ gw := gw_t7 (List.mem_of_getElem? (i := 93) rfl) rfl
theorem wq1296 : Cond.methodLink RX8 252 yX8_digestOf ∈ gw := gw_t7 (List.mem_of_getElem? (i := 94) rfl) rfl
theorem wq1297 : Cond.instanceMethod yX8_digestOf ∈ gw := gw_t7 (List.mem_of_getElem? (i := 96) rfl) rfl
theorem wq1298 : Cond.selects RX8 yX8_digestOf yX8_digestOf ∈ gw := gw_p (n := _) (List.mem_of_getElem? (i := 68) rfl)
theorem wq1299 : Cond.code yX8_digestOf cX8_digestOf 8 (some .long) ∈ gw := gw_t7 (List.mem_of_getElem? (i := 97) rfl) rfl
theorem wq1300 : Cond.methodLink RX8 256 yJxe99ae_doubleToLongBits_ccdee ∈ gw := gw_t7 (List.mem_of_getElem? (i := 98) rfl) rfl
theorem wq1301 : Cond.static yJxe99ae_doubleToLongBits_ccdee ∈ gw := gw_t7 (List.mem_of_getElem? (i := 99) rfl) rfl
theorem wq1302 : Cond.initialized RJxe99ae ∈ gw := gw_t1 (List.mem_of_getElem? (i := 18) rfl) rfl
theorem wq1303 : Cond.code yJxe99ae_doubleToLongBits_ccdee cJxe99ae_doubleToLongBits_ccdee 2 (some .long) ∈ gw := gw_t7 (List.mem_of_getElem? (i := 100) rfl) rfl
theorem wq1304 : Cond.methodLink RJxe99ae 134 ⟨"java/lang/Double", "doubleToRawLongBits", "(D)J"⟩ ∈ gw := gw_t7 (List.mem_of_getElem? (i := 104) rfl) rfl
theorem wq1305 : Cond.native ⟨"java/lang/Double", "doubleToRawLongBits", "(D)J"⟩ ∈ gw := gw_t7 (List.mem_of_getElem? (i := 106) rfl) rfl
theorem wq1306 : Cond.static ⟨"java/lang/Double", "doubleToRawLongBits", "(D)J"⟩ ∈ gw := gw_t7 (List.mem_of_getElem? (i := 105) rfl) rfl
theorem wq1307 : Cond.initialized "java/lang/Double" ∈ gw := gw_t1 (List.mem_of_getElem? (i := 18) rfl) rfl
theorem wq1308 : Cond.constantLong RJxe99ae 137 (9221120237041090560) ∈ gw := gw_t7 (List.mem_of_getElem? (i := 107) rfl) rfl
theorem wq1309 : Cond.methodLink RJxe99ae 122 yJxe99ae_isNaN_b9ae7 ∈ gw := gw_t7 (List.mem_of_getElem? (i := 101) rfl) rfl
theorem wq1310 : Cond.static yJxe99ae_isNaN_b9ae7 ∈ gw := gw_t7 (List.mem_of_getElem? (i := 102) rfl) rfl
theorem wq1311 : Cond.code yJxe99ae_isNaN_b9ae7 cJxe99ae_isNaN_b9ae7 2 (some .boolean) ∈ gw := gw_t7 (List.mem_of_getElem? (i := 103) rfl) rfl
theorem wq1312 : Cond.methodLink RX8 262 yJxf58ca_floatToIntBits_5c35a ∈ gw := gw_t7 (List.mem_of_getElem? (i := 108) rfl) rfl
theorem wq1313 : Cond.static yJxf58ca_floatToIntBits_5c35a ∈ gw := gw_t7 (List.mem_of_getElem? (i := 109) rfl) rfl
theorem wq1314 : Cond.initialized RJxf58ca ∈ gw := gw_t1 (List.mem_of_getElem? (i := 19) rfl) rfl
theorem wq1315 : Cond.code yJxf58ca_floatToIntBits_5c35a cJxf58ca_floatToIntBits_5c35a 1 (some .int) ∈ gw := gw_t7 (List.mem_of_getElem? (i := 110) rfl) rfl
theorem wq1316 : Cond.methodLink RJxf58ca 74 ⟨"java/lang/Float", "floatToRawIntBits", "(F)I"⟩ ∈ gw := gw_t7 (List.mem_of_getElem? (i := 114) rfl) rfl
theorem wq1317 : Cond.native ⟨"java/lang/Float", "floatToRawIntBits", "(F)I"⟩ ∈ gw := gw_t7 (List.mem_of_getElem? (i := 116) rfl) rfl
theorem wq1318 : Cond.static ⟨"java/lang/Float", "floatToRawIntBits", "(F)I"⟩ ∈ gw := gw_t7 (List.mem_of_getElem? (i := 115) rfl) rfl
theorem wq1319 : Cond.initialized "java/lang/Float" ∈ gw := gw_t1 (List.mem_of_getElem? (i := 19) rfl) rfl
theorem wq1320 : Cond.constant RJxf58ca 77 (2143289344) ∈ gw := gw_t7 (List.mem_of_getElem? (i := 117) rfl) rfl
theorem wq1321 : Cond.methodLink RJxf58ca 59 yJxf58ca_isNaN_12338 ∈ gw := gw_t7 (List.mem_of_getElem? (i := 111) rfl) rfl
theorem wq1322 : Cond.static yJxf58ca_isNaN_12338 ∈ gw := gw_t7 (List.mem_of_getElem? (i := 112) rfl) rfl
theorem wq1323 : Cond.code yJxf58ca_isNaN_12338 cJxf58ca_isNaN_12338 1 (some .boolean) ∈ gw := gw_t7 (List.mem_of_getElem? (i := 113) rfl) rfl
theorem gw_x0 : ∀ w ∈ (vx_atS RX7 47 "java/lang/IllegalStateException" ["java/lang/RuntimeException", "java/lang/Exception"]).filter goodWord, w ∈ gw := fun w h => List.mem_filter.mpr ⟨(by decide +kernel : ∀ w ∈ (vx_atS RX7 47 "java/lang/IllegalStateException" ["java/lang/RuntimeException", "java/lang/Exception"]).filter goodWord, w ∈ lw_tbl) w h, (List.mem_filter.mp h).2⟩
theorem gw_x1 : ∀ w ∈ (vx_atS RX7 347 "java/lang/IndexOutOfBoundsException" ["java/lang/RuntimeException", "java/lang/Exception"]).filter goodWord, w ∈ gw := fun w h => List.mem_filter.mpr ⟨(by decide +kernel : ∀ w ∈ (vx_atS RX7 347 "java/lang/IndexOutOfBoundsException" ["java/lang/RuntimeException", "java/lang/Exception"]).filter goodWord, w ∈ lw_tbl) w h, (List.mem_filter.mp h).2⟩
theorem gw_x2 : ∀ w ∈ (vx_atS RX7 185 "java/lang/IllegalArgumentException" ["java/lang/RuntimeException", "java/lang/Exception"]).filter goodWord, w ∈ gw := fun w h => List.mem_filter.mpr ⟨(by decide +kernel : ∀ w ∈ (vx_atS RX7 185 "java/lang/IllegalArgumentException" ["java/lang/RuntimeException", "java/lang/Exception"]).filter goodWord, w ∈ lw_tbl) w h, (List.mem_filter.mp h).2⟩
theorem fw0 : ∀ w ∈ u_ws RX0 TX0 7, w ∈ gw := fun w h => List.mem_filter.mpr ⟨(by decide +kernel : ∀ w ∈ u_ws RX0 TX0 7, w ∈ lw_tbl) w h, (by decide +kernel : ∀ w ∈ u_ws RX0 TX0 7, goodWord w = true) w h⟩
theorem fw1 : ∀ w ∈ u_ws RX1 TX1 3, w ∈ gw := fun w h => List.mem_filter.mpr ⟨(by decide +kernel : ∀ w ∈ u_ws RX1 TX1 3, w ∈ lw_tbl) w h, (by decide +kernel : ∀ w ∈ u_ws RX1 TX1 3, goodWord w = true) w h⟩
theorem fw2 : ∀ w ∈ u_ws RX2 TX2 7, w ∈ gw := fun w h => List.mem_filter.mpr ⟨(by decide +kernel : ∀ w ∈ u_ws RX2 TX2 7, w ∈ lw_tbl) w h, (by decide +kernel : ∀ w ∈ u_ws RX2 TX2 7, goodWord w = true) w h⟩
theorem fw3 : ∀ w ∈ u_ws RX3 TX3 2, w ∈ gw := fun w h => List.mem_filter.mpr ⟨(by decide +kernel : ∀ w ∈ u_ws RX3 TX3 2, w ∈ lw_tbl) w h, (by decide +kernel : ∀ w ∈ u_ws RX3 TX3 2, goodWord w = true) w h⟩
theorem fw4 : ∀ w ∈ u_ws RX4 TX4 1, w ∈ gw := fun w h => List.mem_filter.mpr ⟨(by decide +kernel : ∀ w ∈ u_ws RX4 TX4 1, w ∈ lw_tbl) w h, (by decide +kernel : ∀ w ∈ u_ws RX4 TX4 1, goodWord w = true) w h⟩
theorem fw5 : ∀ w ∈ u_ws RX5 TX5 3, w ∈ gw := fun w h => List.mem_filter.mpr ⟨(by decide +kernel : ∀ w ∈ u_ws RX5 TX5 3, w ∈ lw_tbl) w h, (by decide +kernel : ∀ w ∈ u_ws RX5 TX5 3, goodWord w = true) w h⟩
theorem fw6 : ∀ w ∈ u_ws RX6 TX6 11, w ∈ gw := fun w h => List.mem_filter.mpr ⟨(by decide +kernel : ∀ w ∈ u_ws RX6 TX6 11, w ∈ lw_tbl) w h, (by decide +kernel : ∀ w ∈ u_ws RX6 TX6 11, goodWord w = true) w h⟩
theorem fw7 : ∀ w ∈ u_ws RX7 TX7 5, w ∈ gw := fun w h => List.mem_filter.mpr ⟨(by decide +kernel : ∀ w ∈ u_ws RX7 TX7 5, w ∈ lw_tbl) w h, (by decide +kernel : ∀ w ∈ u_ws RX7 TX7 5, goodWord w = true) w h⟩
theorem fw8 : ∀ w ∈ u_ws RX8 TX8 11, w ∈ gw := fun w h => List.mem_filter.mpr ⟨(by decide +kernel : ∀ w ∈ u_ws RX8 TX8 11, w ∈ lw_tbl) w h, (by decide +kernel : ∀ w ∈ u_ws RX8 TX8 11, goodWord w = true) w h⟩
end
section
/-! The judgement that all walks here are said in: xW: at pc, with the locals lv and the stack st, from every heap that P holds of. -/
abbrev xG : Type := va_G × ClassId × ClassId × ClassId
def xT (G : xG) : List (ClassId × FieldType) := [(G.2.1, .int), (G.2.2.1, .long), (G.2.2.2, .object "PinnedLeaves$Yard")]
def xK (G : xG) (U : State) : Prop := va_K G.1 vwCl (xT G) U
theorem xK.moved {G : xG} {u U : State} (hvm : u.vm.Alike U.vm) (h : xK G u) : xK G U := va_K.moved hvm h
def xC (p : Program) (m : MethodId) (c : Code) (s : State) (args : Array Value) (meth : Method) (G : xG) (b : Nat) (cc : ByteArray) (nL : Nat) (own : String) : Prop :=
  p.tables.exec = Jvm.exec ∧ c.code = cc ∧ c.maxLocals = nL ∧ s.vm.findClass own = some m.cls ∧ (∀ w ∈ gw, w.before args s = true) ∧ meth.locks = false ∧ xK G s ∧ b ≤ s.heap.size
def xA (b : Nat) : Nat → Prop := fun q => b ≤ q
def xW (p : Program) (l : Launch) (e : Env) (R : Room) (s : State) (m : MethodId) (args : Array Value) (below : List Frame) (meth : Method) (c : Code) (Q : State → Prop) (b nL : Nat) (P : Heap → Prop) (cells slots pc : Nat) (lv : List (Nat × Value)) (st : List Value) : Prop :=
  ∀ (H : Heap) (locs : List Loc) (ls : Array Slot), P H → va_S (xA b) s.heap H locs → lv_has ls nL lv → W p l e R s m args below meth c H locs cells slots Q (F0 m pc ls st)
/-- a contract: from the arguments as, in a heap that P holds of, the answer is v, and P' holds then -/
def xPc (G : xG) (b : Nat) (as : List Value) (P : Heap → Prop) : Array Value → State → Prop := va_Pc as (fun U => P U.heap ∧ xK G U ∧ b ≤ U.heap.size)
def xQ (b : Nat) (v : Option Value) (P' : Heap → Prop) : Array Value → State → Outcome → State → Prop := fun _ st o t => o = .returned v ∧ P' t.heap ∧ va_F (xA b) st t
abbrev xWs (y : MethodName) (cc : ByteArray) (n : Nat) (ret : Option FieldType) : List Cond := Cond.code y cc n ret :: gw
def xMet (l : Launch) (G : xG) (b : Nat) (y : MethodName) (cc : ByteArray) (n : Nat) (ret : Option FieldType) (rm : Room) (as : List Value) (P : Heap → Prop) (v : Option Value) (P' : Heap → Prop) (mc ms : Nat) : Prop :=
  Met l y (xWs y cc n ret) rm (xPc G b as P) (xQ b v P') mc ms (xA b)
/-- the room of a method that stands d calls high and makes nothing -/
abbrev xR (d : Nat) : Room := { frames := d, cells := 0, slots := 0, locals := 36 * d }
theorem x_frames {s t : State} {w : Cond} {args : Array Value} (hb : w.before args s = true) (h : t = s) : w.before args t = true := h ▸ hb
theorem xPc.blind {G : xG} {b : Nat} {as : List Value} {P : Heap → Prop} : FrameBlind (xPc G b as P) := by
  intro a U g mk q
  obtain ⟨q0, q1, q2, q3⟩ := q
  exact ⟨q0, q1, va_K.moved (u := U) (U := U.calling g mk a) (Vm.Alike.refl U.vm) q2, q3⟩
section XW
variable {p : Program} {l : Launch} {e : Env} {R : Room} {s : State} {m : MethodId} {args : Array Value} {below : List Frame} {meth : Method} {c : Code} {Q : State → Prop} {b nL : Nat} {P P' : Heap → Prop} {cells slots pc : Nat} {lv lv' : List (Nat × Value)} {st : List Value} {G : xG} {cc : ByteArray} {own : String}
theorem x_of {y : MethodName} {ret : Option FieldType} {rm : Room} {as : List Value} {v : Option Value} {mc ms : Nat} (hy : plainName y.cls = true) (hlen : (lg_sl as).length ≤ nL)
    (body : ∀ p e s m args below meth c, args = as.toArray → xC p m c s args meth G b cc nL y.cls → meth.sig.returnType = ret → meth.name = y.name → xW p l e rm s m args below meth c (MQ below (xQ b v P') args s mc ms (xA b)) b nL P 0 0 0 (lv_args 0 as) []) : xMet l G b y cc nL ret rm as P v P' mc ms := by
  refine Met.ofW (cc := cc) (maxL := nL) (ret := ret) hy rfl ?_
  intro p e s m args below meth c s₁ B hml hv
  obtain ⟨hargs, hP, hK, hbl⟩ := hv
  have hts := atoms_spec (ws := xWs y cc nL ret) B.pre
  have hC : xC p m c s args meth G b cc nL y.cls := ⟨B.exec, B.bytes, hml, findClass_of_methodNamed B.named, fun w hw => hts w (List.mem_cons_of_mem _ hw), B.notSynchronized, hK, hbl⟩
  have hl := lv_entry as (n := nL) hlen
  have k := body p e s m args below meth c hargs hC B.returns (name_of_methodNamed B.named B.method).1
  have h2 := k s.heap [] _ hP va_S.rf hl
  rw [hargs]
  rw [hargs] at h2
  rw [lg_entry_eq]
  exact h2
theorem x_eq {pc' : Nat} {lv' : List (Nat × Value)} {st' : List Value} (h1 : pc' = pc) (h2 : lv' = lv) (h3 : st' = st) (k : xW p l e R s m args below meth c Q b nL P cells slots pc' lv' st') : xW p l e R s m args below meth c Q b nL P cells slots pc lv st := by
  subst h1; subst h2; subst h3; exact k
theorem x_sub (ks : List Nat) (h : lv_pick lv ks = lv') (k : xW p l e R s m args below meth c Q b nL P cells slots pc lv' st) : xW p l e R s m args below meth c Q b nL P cells slots pc lv st :=
  fun H locs ls h1 h2 h3 => k H locs ls h1 h2 (lv_sub h3 ks h)
theorem x_mono (h : ∀ H, P H → P' H) (k : xW p l e R s m args below meth c Q b nL P' cells slots pc lv st) : xW p l e R s m args below meth c Q b nL P cells slots pc lv st :=
  fun H locs ls h1 h2 h3 => k H locs ls (h H h1) h2 h3
theorem x_heap (h : ∀ H, P H → xW p l e R s m args below meth c Q b nL (fun H' => P H' ∧ H' = H) cells slots pc lv st) : xW p l e R s m args below meth c Q b nL P cells slots pc lv st :=
  fun H locs ls h1 h2 h3 => h H h1 H locs ls ⟨h1, rfl⟩ h2 h3

theorem x_iconst (C : xC p m c s args meth G b cc nL own) {n : Int} (v : Int32) (d : decode cc pc = .ok (.iconst n, 1)) (hv : Int32.ofInt n = v) (k : xW p l e R s m args below meth c Q b nL P cells slots (pc + 1) lv (.int v :: st)) : xW p l e R s m args below meth c Q b nL P cells slots (pc) lv (st) :=
  fun H locs ls h1 h2 h3 => lv_iconst C.1 C.2.1 d hv (k H locs ls h1 h2 h3)
theorem x_bipush (C : xC p m c s args meth G b cc nL own) {n : Int} (v : Int32) (d : decode cc pc = .ok (.bipush n, 2)) (hv : (Int8.ofInt n).toInt32 = v) (k : xW p l e R s m args below meth c Q b nL P cells slots (pc + 2) lv (.int v :: st)) : xW p l e R s m args below meth c Q b nL P cells slots (pc) lv (st) :=
  fun H locs ls h1 h2 h3 => lv_bipush C.1 C.2.1 d hv (k H locs ls h1 h2 h3)
theorem x_sipush (C : xC p m c s args meth G b cc nL own) {n : Int} (v : Int32) (d : decode cc pc = .ok (.sipush n, 3)) (hv : (Int16.ofInt n).toInt32 = v) (k : xW p l e R s m args below meth c Q b nL P cells slots (pc + 3) lv (.int v :: st)) : xW p l e R s m args below meth c Q b nL P cells slots (pc) lv (st) :=
  fun H locs ls h1 h2 h3 => lv_sipush C.1 C.2.1 d hv (k H locs ls h1 h2 h3)
theorem x_lconst (C : xC p m c s args meth G b cc nL own) {n : Fin 2} (v : Int64) (d : decode cc pc = .ok (.lconst n, 1)) (hv : Int64.ofNat (n : Nat) = v) (k : xW p l e R s m args below meth c Q b nL P cells slots (pc + 1) lv (.long v :: st)) : xW p l e R s m args below meth c Q b nL P cells slots (pc) lv (st) :=
  fun H locs ls h1 h2 h3 => lv_lconst C.1 C.2.1 d hv (k H locs ls h1 h2 h3)
theorem x_dconst0 (C : xC p m c s args meth G b cc nL own)  (d : decode cc pc = .ok (.dconst 0, 1))  (k : xW p l e R s m args below meth c Q b nL P cells slots (pc + 1) lv (.double FP.dconst0 :: st)) : xW p l e R s m args below meth c Q b nL P cells slots (pc) lv (st) :=
  fun H locs ls h1 h2 h3 => lv_dconst0 C.1 C.2.1 d  (k H locs ls h1 h2 h3)
theorem x_dconst1 (C : xC p m c s args meth G b cc nL own)  (d : decode cc pc = .ok (.dconst 1, 1))  (k : xW p l e R s m args below meth c Q b nL P cells slots (pc + 1) lv (.double FP.dconst1 :: st)) : xW p l e R s m args below meth c Q b nL P cells slots (pc) lv (st) :=
  fun H locs ls h1 h2 h3 => lv_dconst1 C.1 C.2.1 d  (k H locs ls h1 h2 h3)
theorem x_fconst0 (C : xC p m c s args meth G b cc nL own)  (d : decode cc pc = .ok (.fconst 0, 1))  (k : xW p l e R s m args below meth c Q b nL P cells slots (pc + 1) lv (.float FP.fconst0 :: st)) : xW p l e R s m args below meth c Q b nL P cells slots (pc) lv (st) :=
  fun H locs ls h1 h2 h3 => lv_fconst0 C.1 C.2.1 d  (k H locs ls h1 h2 h3)
theorem x_null (C : xC p m c s args meth G b cc nL own)  (d : decode cc pc = .ok (.aconst_null, 1))  (k : xW p l e R s m args below meth c Q b nL P cells slots (pc + 1) lv (.null :: st)) : xW p l e R s m args below meth c Q b nL P cells slots (pc) lv (st) :=
  fun H locs ls h1 h2 h3 => lv_null C.1 C.2.1 d  (k H locs ls h1 h2 h3)
theorem x_iadd (C : xC p m c s args meth G b cc nL own) {x y : Int32} (d : decode cc pc = .ok (.iadd, 1))  (k : xW p l e R s m args below meth c Q b nL P cells slots (pc + 1) lv (.int (x + y) :: st)) : xW p l e R s m args below meth c Q b nL P cells slots (pc) lv (.int y :: .int x :: st) :=
  fun H locs ls h1 h2 h3 => lv_iadd C.1 C.2.1 d  (k H locs ls h1 h2 h3)
theorem x_isub (C : xC p m c s args meth G b cc nL own) {x y : Int32} (d : decode cc pc = .ok (.isub, 1))  (k : xW p l e R s m args below meth c Q b nL P cells slots (pc + 1) lv (.int (x - y) :: st)) : xW p l e R s m args below meth c Q b nL P cells slots (pc) lv (.int y :: .int x :: st) :=
  fun H locs ls h1 h2 h3 => lv_isub C.1 C.2.1 d  (k H locs ls h1 h2 h3)
theorem x_imul (C : xC p m c s args meth G b cc nL own) {x y : Int32} (d : decode cc pc = .ok (.imul, 1))  (k : xW p l e R s m args below meth c Q b nL P cells slots (pc + 1) lv (.int (x * y) :: st)) : xW p l e R s m args below meth c Q b nL P cells slots (pc) lv (.int y :: .int x :: st) :=
  fun H locs ls h1 h2 h3 => lv_imul C.1 C.2.1 d  (k H locs ls h1 h2 h3)
theorem x_iand (C : xC p m c s args meth G b cc nL own) {x y : Int32} (d : decode cc pc = .ok (.iand, 1))  (k : xW p l e R s m args below meth c Q b nL P cells slots (pc + 1) lv (.int (x &&& y) :: st)) : xW p l e R s m args below meth c Q b nL P cells slots (pc) lv (.int y :: .int x :: st) :=
  fun H locs ls h1 h2 h3 => lv_iand C.1 C.2.1 d  (k H locs ls h1 h2 h3)
theorem x_ior (C : xC p m c s args meth G b cc nL own) {x y : Int32} (d : decode cc pc = .ok (.ior, 1))  (k : xW p l e R s m args below meth c Q b nL P cells slots (pc + 1) lv (.int (x ||| y) :: st)) : xW p l e R s m args below meth c Q b nL P cells slots (pc) lv (.int y :: .int x :: st) :=
  fun H locs ls h1 h2 h3 => lv_ior C.1 C.2.1 d  (k H locs ls h1 h2 h3)
theorem x_ishl (C : xC p m c s args meth G b cc nL own) {x y : Int32} (d : decode cc pc = .ok (.ishl, 1))  (k : xW p l e R s m args below meth c Q b nL P cells slots (pc + 1) lv (.int (x <<< (y &&& 31)) :: st)) : xW p l e R s m args below meth c Q b nL P cells slots (pc) lv (.int y :: .int x :: st) :=
  fun H locs ls h1 h2 h3 => lv_ishl C.1 C.2.1 d  (k H locs ls h1 h2 h3)
theorem x_ladd (C : xC p m c s args meth G b cc nL own) {x y : Int64} (d : decode cc pc = .ok (.ladd, 1))  (k : xW p l e R s m args below meth c Q b nL P cells slots (pc + 1) lv (.long (x + y) :: st)) : xW p l e R s m args below meth c Q b nL P cells slots (pc) lv (.long y :: .long x :: st) :=
  fun H locs ls h1 h2 h3 => lv_ladd C.1 C.2.1 d  (k H locs ls h1 h2 h3)
theorem x_lsub (C : xC p m c s args meth G b cc nL own) {x y : Int64} (d : decode cc pc = .ok (.lsub, 1))  (k : xW p l e R s m args below meth c Q b nL P cells slots (pc + 1) lv (.long (x - y) :: st)) : xW p l e R s m args below meth c Q b nL P cells slots (pc) lv (.long y :: .long x :: st) :=
  fun H locs ls h1 h2 h3 => lv_lsub C.1 C.2.1 d  (k H locs ls h1 h2 h3)
theorem x_lmul (C : xC p m c s args meth G b cc nL own) {x y : Int64} (d : decode cc pc = .ok (.lmul, 1))  (k : xW p l e R s m args below meth c Q b nL P cells slots (pc + 1) lv (.long (x * y) :: st)) : xW p l e R s m args below meth c Q b nL P cells slots (pc) lv (.long y :: .long x :: st) :=
  fun H locs ls h1 h2 h3 => lv_lmul C.1 C.2.1 d  (k H locs ls h1 h2 h3)
theorem x_lshl (C : xC p m c s args meth G b cc nL own) {x : Int64} {y : Int32} (d : decode cc pc = .ok (.lshl, 1))  (k : xW p l e R s m args below meth c Q b nL P cells slots (pc + 1) lv (.long (x <<< (y.toInt64 &&& 63)) :: st)) : xW p l e R s m args below meth c Q b nL P cells slots (pc) lv (.int y :: .long x :: st) :=
  fun H locs ls h1 h2 h3 => lv_lshl C.1 C.2.1 d rfl (k H locs ls h1 h2 h3)
theorem x_i2l (C : xC p m c s args meth G b cc nL own) {x : Int32} (d : decode cc pc = .ok (.i2l, 1))  (k : xW p l e R s m args below meth c Q b nL P cells slots (pc + 1) lv (.long x.toInt64 :: st)) : xW p l e R s m args below meth c Q b nL P cells slots (pc) lv (.int x :: st) :=
  fun H locs ls h1 h2 h3 => lv_i2l C.1 C.2.1 d rfl (k H locs ls h1 h2 h3)
theorem x_i2d (C : xC p m c s args meth G b cc nL own) {x : Int32} (d : decode cc pc = .ok (.i2d, 1))  (k : xW p l e R s m args below meth c Q b nL P cells slots (pc + 1) lv (.double (FP.i2d x) :: st)) : xW p l e R s m args below meth c Q b nL P cells slots (pc) lv (.int x :: st) :=
  fun H locs ls h1 h2 h3 => lv_i2d C.1 C.2.1 d  (k H locs ls h1 h2 h3)
theorem x_i2f (C : xC p m c s args meth G b cc nL own) {x : Int32} (d : decode cc pc = .ok (.i2f, 1))  (k : xW p l e R s m args below meth c Q b nL P cells slots (pc + 1) lv (.float (FP.i2f x) :: st)) : xW p l e R s m args below meth c Q b nL P cells slots (pc) lv (.int x :: st) :=
  fun H locs ls h1 h2 h3 => lv_i2f C.1 C.2.1 d  (k H locs ls h1 h2 h3)
theorem x_l2d (C : xC p m c s args meth G b cc nL own) {x : Int64} (d : decode cc pc = .ok (.l2d, 1))  (k : xW p l e R s m args below meth c Q b nL P cells slots (pc + 1) lv (.double (FP.l2d x) :: st)) : xW p l e R s m args below meth c Q b nL P cells slots (pc) lv (.long x :: st) :=
  fun H locs ls h1 h2 h3 => lv_l2d C.1 C.2.1 d  (k H locs ls h1 h2 h3)
theorem x_d2l (C : xC p m c s args meth G b cc nL own) {x : UInt64} (d : decode cc pc = .ok (.d2l, 1))  (k : xW p l e R s m args below meth c Q b nL P cells slots (pc + 1) lv (.long (FP.d2l x) :: st)) : xW p l e R s m args below meth c Q b nL P cells slots (pc) lv (.double x :: st) :=
  fun H locs ls h1 h2 h3 => lv_d2l C.1 C.2.1 d  (k H locs ls h1 h2 h3)
theorem x_dcmp (C : xC p m c s args meth G b cc nL own) {x y : UInt64} {op : CmpOp} (d : decode cc pc = .ok (.dcmp op, 1))  (k : xW p l e R s m args below meth c Q b nL P cells slots (pc + 1) lv (.int (Op.cmpValue (FP.dcmp x y) op) :: st)) : xW p l e R s m args below meth c Q b nL P cells slots (pc) lv (.double y :: .double x :: st) :=
  fun H locs ls h1 h2 h3 => lv_dcmp C.1 C.2.1 d  (k H locs ls h1 h2 h3)
theorem x_fcmp (C : xC p m c s args meth G b cc nL own) {x y : UInt32} {op : CmpOp} (d : decode cc pc = .ok (.fcmp op, 1))  (k : xW p l e R s m args below meth c Q b nL P cells slots (pc + 1) lv (.int (Op.cmpValue (FP.fcmp x y) op) :: st)) : xW p l e R s m args below meth c Q b nL P cells slots (pc) lv (.float y :: .float x :: st) :=
  fun H locs ls h1 h2 h3 => lv_fcmp C.1 C.2.1 d  (k H locs ls h1 h2 h3)
theorem x_lcmp (C : xC p m c s args meth G b cc nL own) {x y : Int64} (d : decode cc pc = .ok (.lcmp, 1))  (k : xW p l e R s m args below meth c Q b nL P cells slots (pc + 1) lv (.int (lg_cmp x y) :: st)) : xW p l e R s m args below meth c Q b nL P cells slots (pc) lv (.long y :: .long x :: st) :=
  fun H locs ls h1 h2 h3 => W.lcmp C.1 C.2.1 d  (k H locs ls h1 h2 h3)
theorem x_dup (C : xC p m c s args meth G b cc nL own) {va : Value} (d : decode cc pc = .ok (.dup, 1)) (hv : va.category = 1) (k : xW p l e R s m args below meth c Q b nL P cells slots (pc + 1) lv (va :: va :: st)) : xW p l e R s m args below meth c Q b nL P cells slots (pc) lv (va :: st) :=
  fun H locs ls h1 h2 h3 => lv_dup C.1 C.2.1 d hv (k H locs ls h1 h2 h3)
theorem x_pop (C : xC p m c s args meth G b cc nL own) {va : Value} (d : decode cc pc = .ok (.pop, 1)) (hv : va.category = 1) (k : xW p l e R s m args below meth c Q b nL P cells slots (pc + 1) lv (st)) : xW p l e R s m args below meth c Q b nL P cells slots (pc) lv (va :: st) :=
  fun H locs ls h1 h2 h3 => lv_pop C.1 C.2.1 d hv (k H locs ls h1 h2 h3)
theorem x_dup2 (C : xC p m c s args meth G b cc nL own) {va vb : Value} (d : decode cc pc = .ok (.dup2, 1)) (hva : va.category = 1) (hvb : vb.category = 1) (k : xW p l e R s m args below meth c Q b nL P cells slots (pc + 1) lv (va :: vb :: va :: vb :: st)) : xW p l e R s m args below meth c Q b nL P cells slots (pc) lv (va :: vb :: st) :=
  fun H locs ls h1 h2 h3 => lv_dup2_11 C.1 C.2.1 d hva hvb (k H locs ls h1 h2 h3)
/-- pure readings: a step that may be undefined -/
def dv {β : Type} (x y : Int32) (f : Int32 → Option β) : Option β := if y = 0 then none else f (x / y)
def rm {β : Type} (x y : Int32) (f : Int32 → Option β) : Option β := if y = 0 then none else f (x - x / y * y)
def nd {β : Type} (r : UInt64) (f : UInt64 → Option β) : Option β := if r &&& 0x7fffffffffffffff ≤ 0x7ff0000000000000 then f r else none
def nf {β : Type} (r : UInt32) (f : UInt32 → Option β) : Option β := if r &&& 0x7fffffff ≤ 0x7f800000 then f r else none
theorem x_idiv (C : xC p m c s args meth G b cc nL own) {β : Type} {x y : Int32} {f : _ → Option β} {r : β} (d : decode cc pc = .ok (.idiv, 1)) (hF : dv x y f = some r) (k : f (x / y) = some r → xW p l e R s m args below meth c Q b nL P cells slots (pc + 1) lv (.int (x / y) :: st)) : xW p l e R s m args below meth c Q b nL P cells slots (pc) lv (.int y :: .int x :: st) := by
  unfold dv at hF
  split at hF
  · exact absurd hF (by simp)
  · exact fun H locs ls h1 h2 h3 => lv_idiv C.1 C.2.1 d (by assumption) (k hF H locs ls h1 h2 h3)
theorem x_irem (C : xC p m c s args meth G b cc nL own) {β : Type} {x y : Int32} {f : _ → Option β} {r : β} (d : decode cc pc = .ok (.irem, 1)) (hF : rm x y f = some r) (k : f (x - x / y * y) = some r → xW p l e R s m args below meth c Q b nL P cells slots (pc + 1) lv (.int (x - x / y * y) :: st)) : xW p l e R s m args below meth c Q b nL P cells slots (pc) lv (.int y :: .int x :: st) := by
  unfold rm at hF
  split at hF
  · exact absurd hF (by simp)
  · exact fun H locs ls h1 h2 h3 => lv_irem C.1 C.2.1 d (by assumption) (k hF H locs ls h1 h2 h3)
theorem x_dadd (C : xC p m c s args meth G b cc nL own) {β : Type} {x y : UInt64} {f : _ → Option β} {r : β} (d : decode cc pc = .ok (.dadd, 1)) (hF : nd (FP.dadd x y) f = some r) (k : f (FP.dadd x y) = some r → xW p l e R s m args below meth c Q b nL P cells slots (pc + 1) lv (.double (FP.dadd x y) :: st)) : xW p l e R s m args below meth c Q b nL P cells slots (pc) lv (.double y :: .double x :: st) := by
  unfold nd at hF
  split at hF
  · exact fun H locs ls h1 h2 h3 => lv_dadd C.1 C.2.1 d (by assumption) (k hF H locs ls h1 h2 h3)
  · exact absurd hF (by simp)
theorem x_dsub (C : xC p m c s args meth G b cc nL own) {β : Type} {x y : UInt64} {f : _ → Option β} {r : β} (d : decode cc pc = .ok (.dsub, 1)) (hF : nd (FP.dsub x y) f = some r) (k : f (FP.dsub x y) = some r → xW p l e R s m args below meth c Q b nL P cells slots (pc + 1) lv (.double (FP.dsub x y) :: st)) : xW p l e R s m args below meth c Q b nL P cells slots (pc) lv (.double y :: .double x :: st) := by
  unfold nd at hF
  split at hF
  · exact fun H locs ls h1 h2 h3 => lv_dsub C.1 C.2.1 d (by assumption) (k hF H locs ls h1 h2 h3)
  · exact absurd hF (by simp)
theorem x_dmul (C : xC p m c s args meth G b cc nL own) {β : Type} {x y : UInt64} {f : _ → Option β} {r : β} (d : decode cc pc = .ok (.dmul, 1)) (hF : nd (FP.dmul x y) f = some r) (k : f (FP.dmul x y) = some r → xW p l e R s m args below meth c Q b nL P cells slots (pc + 1) lv (.double (FP.dmul x y) :: st)) : xW p l e R s m args below meth c Q b nL P cells slots (pc) lv (.double y :: .double x :: st) := by
  unfold nd at hF
  split at hF
  · exact fun H locs ls h1 h2 h3 => lv_dmul C.1 C.2.1 d (by assumption) (k hF H locs ls h1 h2 h3)
  · exact absurd hF (by simp)
theorem x_ddiv (C : xC p m c s args meth G b cc nL own) {β : Type} {x y : UInt64} {f : _ → Option β} {r : β} (d : decode cc pc = .ok (.ddiv, 1)) (hF : nd (FP.ddiv x y) f = some r) (k : f (FP.ddiv x y) = some r → xW p l e R s m args below meth c Q b nL P cells slots (pc + 1) lv (.double (FP.ddiv x y) :: st)) : xW p l e R s m args below meth c Q b nL P cells slots (pc) lv (.double y :: .double x :: st) := by
  unfold nd at hF
  split at hF
  · exact fun H locs ls h1 h2 h3 => lv_ddiv C.1 C.2.1 d (by assumption) (k hF H locs ls h1 h2 h3)
  · exact absurd hF (by simp)
theorem x_fdiv (C : xC p m c s args meth G b cc nL own) {β : Type} {x y : UInt32} {f : _ → Option β} {r : β} (d : decode cc pc = .ok (.fdiv, 1)) (hF : nf (FP.fdiv x y) f = some r) (k : f (FP.fdiv x y) = some r → xW p l e R s m args below meth c Q b nL P cells slots (pc + 1) lv (.float (FP.fdiv x y) :: st)) : xW p l e R s m args below meth c Q b nL P cells slots (pc) lv (.float y :: .float x :: st) := by
  unfold nf at hF
  split at hF
  · exact fun H locs ls h1 h2 h3 => lv_fdiv C.1 C.2.1 d (by assumption) (k hF H locs ls h1 h2 h3)
  · exact absurd hF (by simp)
theorem x_f2d (C : xC p m c s args meth G b cc nL own) {β : Type} {x : UInt32} {f : _ → Option β} {r : β} (d : decode cc pc = .ok (.f2d, 1)) (hF : nd (FP.f2d x) f = some r) (k : f (FP.f2d x) = some r → xW p l e R s m args below meth c Q b nL P cells slots (pc + 1) lv (.double (FP.f2d x) :: st)) : xW p l e R s m args below meth c Q b nL P cells slots (pc) lv (.float x :: st) := by
  unfold nd at hF
  split at hF
  · exact fun H locs ls h1 h2 h3 => lv_f2d C.1 C.2.1 d (by assumption) (k hF H locs ls h1 h2 h3)
  · exact absurd hF (by simp)
theorem x_iload_n (C : xC p m c s args meth G b cc nL own) {k : Fin 4} {i : Nat} {x : Int32} (j : Nat) (d : decode cc pc = .ok (.iload_n k, 1)) (hi : (k : Nat) = i) (hj : lv[j]? = some (i, .int x)) (k : xW p l e R s m args below meth c Q b nL P cells slots (pc + 1) lv (.int x :: st)) : xW p l e R s m args below meth c Q b nL P cells slots (pc) lv (st) :=
  fun H locs ls h1 h2 h3 => lv_iload_n C.1 C.2.1 d hi (lv_at h3 j hj) (k H locs ls h1 h2 h3)
theorem x_iload (C : xC p m c s args meth G b cc nL own) {i : Nat} {x : Int32} (j : Nat) (d : decode cc pc = .ok (.iload i, 2)) (hj : lv[j]? = some (i, .int x)) (k : xW p l e R s m args below meth c Q b nL P cells slots (pc + 2) lv (.int x :: st)) : xW p l e R s m args below meth c Q b nL P cells slots (pc) lv (st) :=
  fun H locs ls h1 h2 h3 => lv_iload C.1 C.2.1 d (lv_at h3 j hj) (k H locs ls h1 h2 h3)
theorem x_istore_n (C : xC p m c s args meth G b cc nL own) {k : Fin 4} {i : Nat} {x : Int32} (lv' : List (Nat × Value)) (d : decode cc pc = .ok (.istore_n k, 1)) (hi : (k : Nat) = i) (hn : i < nL) (hl : (i, Value.int x) :: lv.filter (fun q => !(q.1 == i) && !(q.1 + 1 == i && q.2.category == 2)) = lv') (k : xW p l e R s m args below meth c Q b nL P cells slots (pc + 1) lv' (st)) : xW p l e R s m args below meth c Q b nL P cells slots (pc) lv (.int x :: st) :=
  fun H locs ls h1 h2 h3 => lv_istore_n C.1 C.2.1 d hi h3 hn hl (fun ls' h' => k H locs ls' h1 h2 h')
theorem x_istore (C : xC p m c s args meth G b cc nL own) {i : Nat} {x : Int32} (lv' : List (Nat × Value)) (d : decode cc pc = .ok (.istore i, 2)) (hn : i < nL) (hl : (i, Value.int x) :: lv.filter (fun q => !(q.1 == i) && !(q.1 + 1 == i && q.2.category == 2)) = lv') (k : xW p l e R s m args below meth c Q b nL P cells slots (pc + 2) lv' (st)) : xW p l e R s m args below meth c Q b nL P cells slots (pc) lv (.int x :: st) :=
  fun H locs ls h1 h2 h3 => lv_istore C.1 C.2.1 d h3 hn hl (fun ls' h' => k H locs ls' h1 h2 h')
theorem x_lload_n (C : xC p m c s args meth G b cc nL own) {k : Fin 4} {i : Nat} {x : Int64} (j : Nat) (d : decode cc pc = .ok (.lload_n k, 1)) (hi : (k : Nat) = i) (hj : lv[j]? = some (i, .long x)) (k : xW p l e R s m args below meth c Q b nL P cells slots (pc + 1) lv (.long x :: st)) : xW p l e R s m args below meth c Q b nL P cells slots (pc) lv (st) :=
  fun H locs ls h1 h2 h3 => lv_lload_n C.1 C.2.1 d hi (lv_at h3 j hj) (k H locs ls h1 h2 h3)
theorem x_lload (C : xC p m c s args meth G b cc nL own) {i : Nat} {x : Int64} (j : Nat) (d : decode cc pc = .ok (.lload i, 2)) (hj : lv[j]? = some (i, .long x)) (k : xW p l e R s m args below meth c Q b nL P cells slots (pc + 2) lv (.long x :: st)) : xW p l e R s m args below meth c Q b nL P cells slots (pc) lv (st) :=
  fun H locs ls h1 h2 h3 => lv_lload C.1 C.2.1 d (lv_at h3 j hj) (k H locs ls h1 h2 h3)
theorem x_lstore_n (C : xC p m c s args meth G b cc nL own) {k : Fin 4} {i : Nat} {x : Int64} (lv' : List (Nat × Value)) (d : decode cc pc = .ok (.lstore_n k, 1)) (hi : (k : Nat) = i) (hn : i + 1 < nL) (hl : (i, Value.long x) :: lv.filter (fun q => !(q.1 == i) && (!(q.1 == i + 1) && !(q.1 + 1 == i && q.2.category == 2))) = lv') (k : xW p l e R s m args below meth c Q b nL P cells slots (pc + 1) lv' (st)) : xW p l e R s m args below meth c Q b nL P cells slots (pc) lv (.long x :: st) :=
  fun H locs ls h1 h2 h3 => lv_lstore_n C.1 C.2.1 d hi h3 hn hl (fun ls' h' => k H locs ls' h1 h2 h')
theorem x_lstore (C : xC p m c s args meth G b cc nL own) {i : Nat} {x : Int64} (lv' : List (Nat × Value)) (d : decode cc pc = .ok (.lstore i, 2)) (hn : i + 1 < nL) (hl : (i, Value.long x) :: lv.filter (fun q => !(q.1 == i) && (!(q.1 == i + 1) && !(q.1 + 1 == i && q.2.category == 2))) = lv') (k : xW p l e R s m args below meth c Q b nL P cells slots (pc + 2) lv' (st)) : xW p l e R s m args below meth c Q b nL P cells slots (pc) lv (.long x :: st) :=
  fun H locs ls h1 h2 h3 => lv_lstore C.1 C.2.1 d h3 hn hl (fun ls' h' => k H locs ls' h1 h2 h')
theorem x_fload_n (C : xC p m c s args meth G b cc nL own) {k : Fin 4} {i : Nat} {x : UInt32} (j : Nat) (d : decode cc pc = .ok (.fload_n k, 1)) (hi : (k : Nat) = i) (hj : lv[j]? = some (i, .float x)) (k : xW p l e R s m args below meth c Q b nL P cells slots (pc + 1) lv (.float x :: st)) : xW p l e R s m args below meth c Q b nL P cells slots (pc) lv (st) :=
  fun H locs ls h1 h2 h3 => lv_fload_n C.1 C.2.1 d hi (lv_at h3 j hj) (k H locs ls h1 h2 h3)
theorem x_fload (C : xC p m c s args meth G b cc nL own) {i : Nat} {x : UInt32} (j : Nat) (d : decode cc pc = .ok (.fload i, 2)) (hj : lv[j]? = some (i, .float x)) (k : xW p l e R s m args below meth c Q b nL P cells slots (pc + 2) lv (.float x :: st)) : xW p l e R s m args below meth c Q b nL P cells slots (pc) lv (st) :=
  fun H locs ls h1 h2 h3 => lv_fload C.1 C.2.1 d (lv_at h3 j hj) (k H locs ls h1 h2 h3)
theorem x_fstore_n (C : xC p m c s args meth G b cc nL own) {k : Fin 4} {i : Nat} {x : UInt32} (lv' : List (Nat × Value)) (d : decode cc pc = .ok (.fstore_n k, 1)) (hi : (k : Nat) = i) (hn : i < nL) (hl : (i, Value.float x) :: lv.filter (fun q => !(q.1 == i) && !(q.1 + 1 == i && q.2.category == 2)) = lv') (k : xW p l e R s m args below meth c Q b nL P cells slots (pc + 1) lv' (st)) : xW p l e R s m args below meth c Q b nL P cells slots (pc) lv (.float x :: st) :=
  fun H locs ls h1 h2 h3 => lv_fstore_n C.1 C.2.1 d hi h3 hn hl (fun ls' h' => k H locs ls' h1 h2 h')
theorem x_fstore (C : xC p m c s args meth G b cc nL own) {i : Nat} {x : UInt32} (lv' : List (Nat × Value)) (d : decode cc pc = .ok (.fstore i, 2)) (hn : i < nL) (hl : (i, Value.float x) :: lv.filter (fun q => !(q.1 == i) && !(q.1 + 1 == i && q.2.category == 2)) = lv') (k : xW p l e R s m args below meth c Q b nL P cells slots (pc + 2) lv' (st)) : xW p l e R s m args below meth c Q b nL P cells slots (pc) lv (.float x :: st) :=
  fun H locs ls h1 h2 h3 => lv_fstore C.1 C.2.1 d h3 hn hl (fun ls' h' => k H locs ls' h1 h2 h')
theorem x_dload_n (C : xC p m c s args meth G b cc nL own) {k : Fin 4} {i : Nat} {x : UInt64} (j : Nat) (d : decode cc pc = .ok (.dload_n k, 1)) (hi : (k : Nat) = i) (hj : lv[j]? = some (i, .double x)) (k : xW p l e R s m args below meth c Q b nL P cells slots (pc + 1) lv (.double x :: st)) : xW p l e R s m args below meth c Q b nL P cells slots (pc) lv (st) :=
  fun H locs ls h1 h2 h3 => lv_dload_n C.1 C.2.1 d hi (lv_at h3 j hj) (k H locs ls h1 h2 h3)
theorem x_dload (C : xC p m c s args meth G b cc nL own) {i : Nat} {x : UInt64} (j : Nat) (d : decode cc pc = .ok (.dload i, 2)) (hj : lv[j]? = some (i, .double x)) (k : xW p l e R s m args below meth c Q b nL P cells slots (pc + 2) lv (.double x :: st)) : xW p l e R s m args below meth c Q b nL P cells slots (pc) lv (st) :=
  fun H locs ls h1 h2 h3 => lv_dload C.1 C.2.1 d (lv_at h3 j hj) (k H locs ls h1 h2 h3)
theorem x_dstore_n (C : xC p m c s args meth G b cc nL own) {k : Fin 4} {i : Nat} {x : UInt64} (lv' : List (Nat × Value)) (d : decode cc pc = .ok (.dstore_n k, 1)) (hi : (k : Nat) = i) (hn : i + 1 < nL) (hl : (i, Value.double x) :: lv.filter (fun q => !(q.1 == i) && (!(q.1 == i + 1) && !(q.1 + 1 == i && q.2.category == 2))) = lv') (k : xW p l e R s m args below meth c Q b nL P cells slots (pc + 1) lv' (st)) : xW p l e R s m args below meth c Q b nL P cells slots (pc) lv (.double x :: st) :=
  fun H locs ls h1 h2 h3 => lv_dstore_n C.1 C.2.1 d hi h3 hn hl (fun ls' h' => k H locs ls' h1 h2 h')
theorem x_dstore (C : xC p m c s args meth G b cc nL own) {i : Nat} {x : UInt64} (lv' : List (Nat × Value)) (d : decode cc pc = .ok (.dstore i, 2)) (hn : i + 1 < nL) (hl : (i, Value.double x) :: lv.filter (fun q => !(q.1 == i) && (!(q.1 == i + 1) && !(q.1 + 1 == i && q.2.category == 2))) = lv') (k : xW p l e R s m args below meth c Q b nL P cells slots (pc + 2) lv' (st)) : xW p l e R s m args below meth c Q b nL P cells slots (pc) lv (.double x :: st) :=
  fun H locs ls h1 h2 h3 => lv_dstore C.1 C.2.1 d h3 hn hl (fun ls' h' => k H locs ls' h1 h2 h')
theorem x_aload_n (C : xC p m c s args meth G b cc nL own) {k : Fin 4} {i : Nat} {x : Nat} (j : Nat) (d : decode cc pc = .ok (.aload_n k, 1)) (hi : (k : Nat) = i) (hj : lv[j]? = some (i, .ref x)) (k : xW p l e R s m args below meth c Q b nL P cells slots (pc + 1) lv (.ref x :: st)) : xW p l e R s m args below meth c Q b nL P cells slots (pc) lv (st) :=
  fun H locs ls h1 h2 h3 => lv_aload_n C.1 C.2.1 d hi (lv_at h3 j hj) (k H locs ls h1 h2 h3)
theorem x_aload (C : xC p m c s args meth G b cc nL own) {i : Nat} {x : Nat} (j : Nat) (d : decode cc pc = .ok (.aload i, 2)) (hj : lv[j]? = some (i, .ref x)) (k : xW p l e R s m args below meth c Q b nL P cells slots (pc + 2) lv (.ref x :: st)) : xW p l e R s m args below meth c Q b nL P cells slots (pc) lv (st) :=
  fun H locs ls h1 h2 h3 => lv_aload C.1 C.2.1 d (lv_at h3 j hj) (k H locs ls h1 h2 h3)
theorem x_astore_n (C : xC p m c s args meth G b cc nL own) {k : Fin 4} {i : Nat} {x : Nat} (lv' : List (Nat × Value)) (d : decode cc pc = .ok (.astore_n k, 1)) (hi : (k : Nat) = i) (hn : i < nL) (hl : (i, Value.ref x) :: lv.filter (fun q => !(q.1 == i) && !(q.1 + 1 == i && q.2.category == 2)) = lv') (k : xW p l e R s m args below meth c Q b nL P cells slots (pc + 1) lv' (st)) : xW p l e R s m args below meth c Q b nL P cells slots (pc) lv (.ref x :: st) :=
  fun H locs ls h1 h2 h3 => lv_astore_n C.1 C.2.1 d hi h3 hn hl (fun ls' h' => k H locs ls' h1 h2 h')
theorem x_astore (C : xC p m c s args meth G b cc nL own) {i : Nat} {x : Nat} (lv' : List (Nat × Value)) (d : decode cc pc = .ok (.astore i, 2)) (hn : i < nL) (hl : (i, Value.ref x) :: lv.filter (fun q => !(q.1 == i) && !(q.1 + 1 == i && q.2.category == 2)) = lv') (k : xW p l e R s m args below meth c Q b nL P cells slots (pc + 2) lv' (st)) : xW p l e R s m args below meth c Q b nL P cells slots (pc) lv (.ref x :: st) :=
  fun H locs ls h1 h2 h3 => lv_astore C.1 C.2.1 d h3 hn hl (fun ls' h' => k H locs ls' h1 h2 h')
theorem x_aload_nN (C : xC p m c s args meth G b cc nL own) {k : Fin 4} {i : Nat} (j : Nat) (d : decode cc pc = .ok (.aload_n k, 1)) (hi : (k : Nat) = i) (hj : lv[j]? = some (i, .null)) (k : xW p l e R s m args below meth c Q b nL P cells slots (pc + 1) lv (.null :: st)) : xW p l e R s m args below meth c Q b nL P cells slots (pc) lv (st) :=
  fun H locs ls h1 h2 h3 => lv_aload_nN C.1 C.2.1 d hi (lv_at h3 j hj) (k H locs ls h1 h2 h3)
theorem x_iinc (C : xC p m c s args meth G b cc nL own) {i : Nat} {n : Int} {x v : Int32} (j : Nat) (lv' : List (Nat × Value)) (d : decode cc pc = .ok (.iinc i n, 3)) (hj : lv[j]? = some (i, .int x)) (hv : x + Int32.ofInt n = v) (hn : i < nL) (hl : (i, Value.int v) :: lv.filter (fun q => !(q.1 == i) && !(q.1 + 1 == i && q.2.category == 2)) = lv') (k : xW p l e R s m args below meth c Q b nL P cells slots (pc + 3) lv' (st)) : xW p l e R s m args below meth c Q b nL P cells slots (pc) lv (st) :=
  fun H locs ls h1 h2 h3 => lv_iinc C.1 C.2.1 d h3 hj hv hn hl (fun ls' h' => k H locs ls' h1 h2 h')
theorem x_goto (C : xC p m c s args meth G b cc nL own) {off : Int} (tgt : Nat) (d : decode cc pc = .ok (.goto off, 3)) (ht : (pc : Int) + off = (tgt : Int)) (k : xW p l e R s m args below meth c Q b nL P cells slots (tgt) lv (st)) : xW p l e R s m args below meth c Q b nL P cells slots (pc) lv (st) :=
  fun H locs ls h1 h2 h3 => lv_goto C.1 C.2.1 d ht (k H locs ls h1 h2 h3)
theorem x_icmp_eq (C : xC p m c s args meth G b cc nL own) {x y : Int32} {β : Type} {A1 A2 : Option β} {r : β} {off : Int} (tgt : Nat) (d : decode cc pc = .ok (.if_icmp .eq off, 3)) (ht : (pc : Int) + off = (tgt : Int)) (hF : (if x = y then A1 else A2) = some r)
    (kt : x = y → A1 = some r → xW p l e R s m args below meth c Q b nL P cells slots (tgt) lv (st)) (kf : ¬ x = y → A2 = some r → xW p l e R s m args below meth c Q b nL P cells slots (pc + 3) lv (st)) : xW p l e R s m args below meth c Q b nL P cells slots (pc) lv (.int y :: .int x :: st) :=
  fun H locs ls h1 h2 h3 => lv_icmp_eq C.1 C.2.1 d ht (fun q => kt q (by rw [if_pos q] at hF; exact hF) H locs ls h1 h2 h3) (fun q => kf q (by rw [if_neg q] at hF; exact hF) H locs ls h1 h2 h3)
theorem x_if_eq (C : xC p m c s args meth G b cc nL own) {x : Int32} {β : Type} {A1 A2 : Option β} {r : β} {off : Int} (tgt : Nat) (d : decode cc pc = .ok (.ifCond .eq off, 3)) (ht : (pc : Int) + off = (tgt : Int)) (hF : (if x = 0 then A1 else A2) = some r)
    (kt : x = 0 → A1 = some r → xW p l e R s m args below meth c Q b nL P cells slots (tgt) lv (st)) (kf : ¬ x = 0 → A2 = some r → xW p l e R s m args below meth c Q b nL P cells slots (pc + 3) lv (st)) : xW p l e R s m args below meth c Q b nL P cells slots (pc) lv (.int x :: st) :=
  fun H locs ls h1 h2 h3 => lv_if_eq C.1 C.2.1 d ht (fun q => kt q (by rw [if_pos q] at hF; exact hF) H locs ls h1 h2 h3) (fun q => kf q (by rw [if_neg q] at hF; exact hF) H locs ls h1 h2 h3)
theorem x_icmp_ne (C : xC p m c s args meth G b cc nL own) {x y : Int32} {β : Type} {A1 A2 : Option β} {r : β} {off : Int} (tgt : Nat) (d : decode cc pc = .ok (.if_icmp .ne off, 3)) (ht : (pc : Int) + off = (tgt : Int)) (hF : (if x = y then A1 else A2) = some r)
    (kt : ¬ x = y → A2 = some r → xW p l e R s m args below meth c Q b nL P cells slots (tgt) lv (st)) (kf : x = y → A1 = some r → xW p l e R s m args below meth c Q b nL P cells slots (pc + 3) lv (st)) : xW p l e R s m args below meth c Q b nL P cells slots (pc) lv (.int y :: .int x :: st) :=
  fun H locs ls h1 h2 h3 => lv_icmp_ne C.1 C.2.1 d ht (fun q => kt q (by rw [if_neg q] at hF; exact hF) H locs ls h1 h2 h3) (fun q => kf q (by rw [if_pos q] at hF; exact hF) H locs ls h1 h2 h3)
theorem x_if_ne (C : xC p m c s args meth G b cc nL own) {x : Int32} {β : Type} {A1 A2 : Option β} {r : β} {off : Int} (tgt : Nat) (d : decode cc pc = .ok (.ifCond .ne off, 3)) (ht : (pc : Int) + off = (tgt : Int)) (hF : (if x = 0 then A1 else A2) = some r)
    (kt : ¬ x = 0 → A2 = some r → xW p l e R s m args below meth c Q b nL P cells slots (tgt) lv (st)) (kf : x = 0 → A1 = some r → xW p l e R s m args below meth c Q b nL P cells slots (pc + 3) lv (st)) : xW p l e R s m args below meth c Q b nL P cells slots (pc) lv (.int x :: st) :=
  fun H locs ls h1 h2 h3 => lv_if_ne C.1 C.2.1 d ht (fun q => kt q (by rw [if_neg q] at hF; exact hF) H locs ls h1 h2 h3) (fun q => kf q (by rw [if_pos q] at hF; exact hF) H locs ls h1 h2 h3)
theorem x_icmp_lt (C : xC p m c s args meth G b cc nL own) {x y : Int32} {β : Type} {A1 A2 : Option β} {r : β} {off : Int} (tgt : Nat) (d : decode cc pc = .ok (.if_icmp .lt off, 3)) (ht : (pc : Int) + off = (tgt : Int)) (hF : (if x < y then A1 else A2) = some r)
    (kt : x < y → A1 = some r → xW p l e R s m args below meth c Q b nL P cells slots (tgt) lv (st)) (kf : ¬ x < y → A2 = some r → xW p l e R s m args below meth c Q b nL P cells slots (pc + 3) lv (st)) : xW p l e R s m args below meth c Q b nL P cells slots (pc) lv (.int y :: .int x :: st) :=
  fun H locs ls h1 h2 h3 => lv_icmp_lt C.1 C.2.1 d ht (fun q => kt q (by rw [if_pos q] at hF; exact hF) H locs ls h1 h2 h3) (fun q => kf q (by rw [if_neg q] at hF; exact hF) H locs ls h1 h2 h3)
theorem x_if_lt (C : xC p m c s args meth G b cc nL own) {x : Int32} {β : Type} {A1 A2 : Option β} {r : β} {off : Int} (tgt : Nat) (d : decode cc pc = .ok (.ifCond .lt off, 3)) (ht : (pc : Int) + off = (tgt : Int)) (hF : (if x < 0 then A1 else A2) = some r)
    (kt : x < 0 → A1 = some r → xW p l e R s m args below meth c Q b nL P cells slots (tgt) lv (st)) (kf : ¬ x < 0 → A2 = some r → xW p l e R s m args below meth c Q b nL P cells slots (pc + 3) lv (st)) : xW p l e R s m args below meth c Q b nL P cells slots (pc) lv (.int x :: st) :=
  fun H locs ls h1 h2 h3 => lv_if_lt C.1 C.2.1 d ht (fun q => kt q (by rw [if_pos q] at hF; exact hF) H locs ls h1 h2 h3) (fun q => kf q (by rw [if_neg q] at hF; exact hF) H locs ls h1 h2 h3)
theorem x_icmp_ge (C : xC p m c s args meth G b cc nL own) {x y : Int32} {β : Type} {A1 A2 : Option β} {r : β} {off : Int} (tgt : Nat) (d : decode cc pc = .ok (.if_icmp .ge off, 3)) (ht : (pc : Int) + off = (tgt : Int)) (hF : (if y ≤ x then A1 else A2) = some r)
    (kt : y ≤ x → A1 = some r → xW p l e R s m args below meth c Q b nL P cells slots (tgt) lv (st)) (kf : ¬ y ≤ x → A2 = some r → xW p l e R s m args below meth c Q b nL P cells slots (pc + 3) lv (st)) : xW p l e R s m args below meth c Q b nL P cells slots (pc) lv (.int y :: .int x :: st) :=
  fun H locs ls h1 h2 h3 => lv_icmp_ge C.1 C.2.1 d ht (fun q => kt q (by rw [if_pos q] at hF; exact hF) H locs ls h1 h2 h3) (fun q => kf q (by rw [if_neg q] at hF; exact hF) H locs ls h1 h2 h3)
theorem x_if_ge (C : xC p m c s args meth G b cc nL own) {x : Int32} {β : Type} {A1 A2 : Option β} {r : β} {off : Int} (tgt : Nat) (d : decode cc pc = .ok (.ifCond .ge off, 3)) (ht : (pc : Int) + off = (tgt : Int)) (hF : (if 0 ≤ x then A1 else A2) = some r)
    (kt : 0 ≤ x → A1 = some r → xW p l e R s m args below meth c Q b nL P cells slots (tgt) lv (st)) (kf : ¬ 0 ≤ x → A2 = some r → xW p l e R s m args below meth c Q b nL P cells slots (pc + 3) lv (st)) : xW p l e R s m args below meth c Q b nL P cells slots (pc) lv (.int x :: st) :=
  fun H locs ls h1 h2 h3 => lv_if_ge C.1 C.2.1 d ht (fun q => kt q (by rw [if_pos q] at hF; exact hF) H locs ls h1 h2 h3) (fun q => kf q (by rw [if_neg q] at hF; exact hF) H locs ls h1 h2 h3)
theorem x_icmp_gt (C : xC p m c s args meth G b cc nL own) {x y : Int32} {β : Type} {A1 A2 : Option β} {r : β} {off : Int} (tgt : Nat) (d : decode cc pc = .ok (.if_icmp .gt off, 3)) (ht : (pc : Int) + off = (tgt : Int)) (hF : (if y < x then A1 else A2) = some r)
    (kt : y < x → A1 = some r → xW p l e R s m args below meth c Q b nL P cells slots (tgt) lv (st)) (kf : ¬ y < x → A2 = some r → xW p l e R s m args below meth c Q b nL P cells slots (pc + 3) lv (st)) : xW p l e R s m args below meth c Q b nL P cells slots (pc) lv (.int y :: .int x :: st) :=
  fun H locs ls h1 h2 h3 => lv_icmp_gt C.1 C.2.1 d ht (fun q => kt q (by rw [if_pos q] at hF; exact hF) H locs ls h1 h2 h3) (fun q => kf q (by rw [if_neg q] at hF; exact hF) H locs ls h1 h2 h3)
theorem x_if_gt (C : xC p m c s args meth G b cc nL own) {x : Int32} {β : Type} {A1 A2 : Option β} {r : β} {off : Int} (tgt : Nat) (d : decode cc pc = .ok (.ifCond .gt off, 3)) (ht : (pc : Int) + off = (tgt : Int)) (hF : (if 0 < x then A1 else A2) = some r)
    (kt : 0 < x → A1 = some r → xW p l e R s m args below meth c Q b nL P cells slots (tgt) lv (st)) (kf : ¬ 0 < x → A2 = some r → xW p l e R s m args below meth c Q b nL P cells slots (pc + 3) lv (st)) : xW p l e R s m args below meth c Q b nL P cells slots (pc) lv (.int x :: st) :=
  fun H locs ls h1 h2 h3 => lv_if_gt C.1 C.2.1 d ht (fun q => kt q (by rw [if_pos q] at hF; exact hF) H locs ls h1 h2 h3) (fun q => kf q (by rw [if_neg q] at hF; exact hF) H locs ls h1 h2 h3)
theorem x_icmp_le (C : xC p m c s args meth G b cc nL own) {x y : Int32} {β : Type} {A1 A2 : Option β} {r : β} {off : Int} (tgt : Nat) (d : decode cc pc = .ok (.if_icmp .le off, 3)) (ht : (pc : Int) + off = (tgt : Int)) (hF : (if x ≤ y then A1 else A2) = some r)
    (kt : x ≤ y → A1 = some r → xW p l e R s m args below meth c Q b nL P cells slots (tgt) lv (st)) (kf : ¬ x ≤ y → A2 = some r → xW p l e R s m args below meth c Q b nL P cells slots (pc + 3) lv (st)) : xW p l e R s m args below meth c Q b nL P cells slots (pc) lv (.int y :: .int x :: st) :=
  fun H locs ls h1 h2 h3 => lv_icmp_le C.1 C.2.1 d ht (fun q => kt q (by rw [if_pos q] at hF; exact hF) H locs ls h1 h2 h3) (fun q => kf q (by rw [if_neg q] at hF; exact hF) H locs ls h1 h2 h3)
theorem x_if_le (C : xC p m c s args meth G b cc nL own) {x : Int32} {β : Type} {A1 A2 : Option β} {r : β} {off : Int} (tgt : Nat) (d : decode cc pc = .ok (.ifCond .le off, 3)) (ht : (pc : Int) + off = (tgt : Int)) (hF : (if x ≤ 0 then A1 else A2) = some r)
    (kt : x ≤ 0 → A1 = some r → xW p l e R s m args below meth c Q b nL P cells slots (tgt) lv (st)) (kf : ¬ x ≤ 0 → A2 = some r → xW p l e R s m args below meth c Q b nL P cells slots (pc + 3) lv (st)) : xW p l e R s m args below meth c Q b nL P cells slots (pc) lv (.int x :: st) :=
  fun H locs ls h1 h2 h3 => lv_if_le C.1 C.2.1 d ht (fun q => kt q (by rw [if_pos q] at hF; exact hF) H locs ls h1 h2 h3) (fun q => kf q (by rw [if_neg q] at hF; exact hF) H locs ls h1 h2 h3)
theorem x_ifnullN (C : xC p m c s args meth G b cc nL own) {off : Int} (tgt : Nat) (d : decode cc pc = .ok (.ifnull off, 3)) (ht : (pc : Int) + off = (tgt : Int)) (k : xW p l e R s m args below meth c Q b nL P cells slots (tgt) lv (st)) : xW p l e R s m args below meth c Q b nL P cells slots (pc) lv (.null :: st) :=
  fun H locs ls h1 h2 h3 => lv_ifnullN C.1 C.2.1 d ht (k H locs ls h1 h2 h3)
theorem x_ifnull (C : xC p m c s args meth G b cc nL own) {x : Nat} {off : Int} (d : decode cc pc = .ok (.ifnull off, 3)) (k : xW p l e R s m args below meth c Q b nL P cells slots (pc + 3) lv (st)) : xW p l e R s m args below meth c Q b nL P cells slots (pc) lv (.ref x :: st) :=
  fun H locs ls h1 h2 h3 => lv_ifnull C.1 C.2.1 d (k H locs ls h1 h2 h3)
theorem x_tabIn (C : xC p m c s args meth G b cc nL own) {dflt lo hi : Int} {offs : Array Int} {len : Nat} {x : Int32} {off n : Int} (tgt : Nat) (d : decode cc pc = .ok (.tableswitch dflt lo hi offs, len)) (hn : x.toInt = n) (h1 : ¬ n < lo) (h2 : ¬ hi < n) (ho : offs[(n - lo).toNat]? = some off) (ht : (pc : Int) + off = (tgt : Int)) (k : xW p l e R s m args below meth c Q b nL P cells slots (tgt) lv (st)) : xW p l e R s m args below meth c Q b nL P cells slots (pc) lv (.int x :: st) :=
  fun H locs ls q1 q2 q3 => lv_tableIn C.1 C.2.1 d (by rw [hn]; exact h1) (by rw [hn]; exact h2) (by rw [hn]; exact ho) ht (k H locs ls q1 q2 q3)
theorem x_tabOut (C : xC p m c s args meth G b cc nL own) {dflt lo hi : Int} {offs : Array Int} {len : Nat} {x : Int32} (tgt : Nat) (d : decode cc pc = .ok (.tableswitch dflt lo hi offs, len)) (h : x.toInt < lo ∨ hi < x.toInt) (ht : (pc : Int) + dflt = (tgt : Int)) (k : xW p l e R s m args below meth c Q b nL P cells slots (tgt) lv (st)) : xW p l e R s m args below meth c Q b nL P cells slots (pc) lv (.int x :: st) :=
  fun H locs ls q1 q2 q3 => lv_tableOut C.1 C.2.1 d h ht (k H locs ls q1 q2 q3)
theorem x_lookup (C : xC p m c s args meth G b cc nL own) {dflt : Int} {ps : Array (Int × Int)} {len : Nat} {x : Int32} {off : Int} (tgt : Nat) (d : decode cc pc = .ok (.lookupswitch dflt ps, len)) (hp : (ps.toList.zip (ps.toList.drop 1)).all (fun (a, next) => a.1 < next.1) = true) (ho : Op.lookupswitch.offset ps.toList dflt x.toInt = off) (ht : (pc : Int) + off = (tgt : Int)) (k : xW p l e R s m args below meth c Q b nL P cells slots (tgt) lv (st)) : xW p l e R s m args below meth c Q b nL P cells slots (pc) lv (.int x :: st) :=
  fun H locs ls q1 q2 q3 => lv_lookup C.1 C.2.1 d hp ho ht (k H locs ls q1 q2 q3)
theorem x_ldc (C : xC p m c s args meth G b cc nL own) {index : Nat} {v : Int32} (hw : Cond.constant own index v ∈ gw) (d : decode cc pc = .ok (.ldc index, 2)) (k : xW p l e R s m args below meth c Q b nL P cells slots (pc + 2) lv (.int v :: st)) : xW p l e R s m args below meth c Q b nL P cells slots (pc) lv (st) :=
  fun H locs ls h1 h2 h3 => lv_ldc C.1 C.2.1 C.2.2.2.1 (C.2.2.2.2.1 _ hw) d (k H locs ls h1 h2 h3)
theorem x_ldc2 (C : xC p m c s args meth G b cc nL own) {index : Nat} {v : Int64} (hw : Cond.constantLong own index v ∈ gw) (d : decode cc pc = .ok (.ldc2_w index, 3)) (k : xW p l e R s m args below meth c Q b nL P cells slots (pc + 3) lv (.long v :: st)) : xW p l e R s m args below meth c Q b nL P cells slots (pc) lv (st) :=
  fun H locs ls h1 h2 h3 => lv_ldc2 C.1 C.2.1 C.2.2.2.1 (C.2.2.2.2.1 _ hw) d (k H locs ls h1 h2 h3)
theorem x_ldc2d (C : xC p m c s args meth G b cc nL own) {index : Nat} {v : UInt64} (hw : Cond.constantDouble own index v ∈ gw) (d : decode cc pc = .ok (.ldc2_w index, 3)) (k : xW p l e R s m args below meth c Q b nL P cells slots (pc + 3) lv (.double v :: st)) : xW p l e R s m args below meth c Q b nL P cells slots (pc) lv (st) :=
  fun H locs ls h1 h2 h3 => lv_ldc2d C.1 C.2.1 C.2.2.2.1 (C.2.2.2.2.1 _ hw) d (k H locs ls h1 h2 h3)
theorem x_iret (C : xC p m c s args meth G b cc nL own) {x : Int32} {v : Option Value} (hr : meth.sig.returnType = some .int) (hv : some (.int x) = v) (hP : ∀ H, P H → P' H) (d : decode cc pc = .ok (.ireturn, 1)) : xW p l e R s m args below meth c (MQ below (xQ b v P') args s cells slots (xA b)) b nL P cells slots pc lv [.int x] := by
  subst hv
  intro H locs ls h1 h2 h3
  have hlocks := C.2.2.2.2.2.1
  exact W.iret C.1 C.2.1 hr  (fun t ht _ => ⟨rfl, by rw [ht]; exact hP H h1, h2.F ht⟩) h2.2.2 d
theorem x_zret (C : xC p m c s args meth G b cc nL own) {x : Int32} {ty : FieldType} (hn : narrow ty (.int x) = .int x) {v : Option Value} (hr : meth.sig.returnType = some ty) (hv : some (.int x) = v) (hP : ∀ H, P H → P' H) (d : decode cc pc = .ok (.ireturn, 1)) : xW p l e R s m args below meth c (MQ below (xQ b v P') args s cells slots (xA b)) b nL P cells slots pc lv [.int x] := by
  subst hv
  intro H locs ls h1 h2 h3
  have hlocks := C.2.2.2.2.2.1
  exact W.zret C.1 C.2.1 hr hn (fun t ht _ => ⟨rfl, by rw [ht]; exact hP H h1, h2.F ht⟩) h2.2.2 d
theorem x_lret (C : xC p m c s args meth G b cc nL own) {x : Int64} {v : Option Value} (hr : meth.sig.returnType = some .long) (hv : some (.long x) = v) (hP : ∀ H, P H → P' H) (d : decode cc pc = .ok (.lreturn, 1)) : xW p l e R s m args below meth c (MQ below (xQ b v P') args s cells slots (xA b)) b nL P cells slots pc lv [.long x] := by
  subst hv
  intro H locs ls h1 h2 h3
  have hlocks := C.2.2.2.2.2.1
  exact W.lret C.1 C.2.1 hr  (fun t ht _ => ⟨rfl, by rw [ht]; exact hP H h1, h2.F ht⟩) h2.2.2 d
theorem x_fret (C : xC p m c s args meth G b cc nL own) {x : UInt32} {v : Option Value} (hr : meth.sig.returnType = some .float) (hv : some (.float x) = v) (hP : ∀ H, P H → P' H) (d : decode cc pc = .ok (.freturn, 1)) : xW p l e R s m args below meth c (MQ below (xQ b v P') args s cells slots (xA b)) b nL P cells slots pc lv [.float x] := by
  subst hv
  intro H locs ls h1 h2 h3
  have hlocks := C.2.2.2.2.2.1
  exact W.fret C.1 C.2.1 hr  (fun t ht _ => ⟨rfl, by rw [ht]; exact hP H h1, h2.F ht⟩) h2.2.2 d
theorem x_dret (C : xC p m c s args meth G b cc nL own) {x : UInt64} {v : Option Value} (hr : meth.sig.returnType = some .double) (hv : some (.double x) = v) (hP : ∀ H, P H → P' H) (d : decode cc pc = .ok (.dreturn, 1)) : xW p l e R s m args below meth c (MQ below (xQ b v P') args s cells slots (xA b)) b nL P cells slots pc lv [.double x] := by
  subst hv
  intro H locs ls h1 h2 h3
  have hlocks := C.2.2.2.2.2.1
  exact W.dret C.1 C.2.1 hr  (fun t ht _ => ⟨rfl, by rw [ht]; exact hP H h1, h2.F ht⟩) h2.2.2 d
theorem x_aret (C : xC p m c s args meth G b cc nL own) {x : Value} {rt : FieldType} (hrt : (∃ n, rt = .object n) ∨ ∃ t, rt = .array t) (hva : x = .null ∨ ∃ a, x = .ref a) {v : Option Value} (hr : meth.sig.returnType = some rt) (hv : some x = v) (hP : ∀ H, P H → P' H) (d : decode cc pc = .ok (.areturn, 1)) : xW p l e R s m args below meth c (MQ below (xQ b v P') args s cells slots (xA b)) b nL P cells slots pc lv [x] := by
  subst hv
  intro H locs ls h1 h2 h3
  have hlocks := C.2.2.2.2.2.1
  exact W.aret C.1 C.2.1 hr hrt hva (fun t ht _ => ⟨rfl, by rw [ht]; exact hP H h1, h2.F ht⟩) h2.2.2 d
theorem x_vret (C : xC p m c s args meth G b cc nL own) (hr : meth.sig.returnType = none) (hP : ∀ H, P H → P' H) (d : decode cc pc = .ok (.return_, 1)) : xW p l e R s m args below meth c (MQ below (xQ b none P') args s cells slots (xA b)) b nL P cells slots pc lv [] := by
  intro H locs ls h1 h2 h3
  have hlocks := C.2.2.2.2.2.1
  exact W.vret C.1 C.2.1 hr (fun t ht _ => ⟨rfl, by rw [ht]; exact hP H h1, h2.F ht⟩) h2.2.2 d
/-- a field is read -/
theorem x_get (C : xC p m c s args meth G b cc nL own) {ref K : String} {T : u_T} {N ci index a : Nat} {fs : List Value} (hin : ∀ w ∈ u_ws K T N, w ∈ gw) (hc : vwCl[ci]? = some (K, T, N)) (k0 : Nat) (hk : k0 < N) (hlink : Cond.fieldLink own index ref (T k0).2.1 (T k0).2.2.1 ∈ gw) (href : ref = (T k0).1) (hat : ∀ H, P H → va_at G.1 vwCl (a, .inr (ci, fs)) H) {v : Value} (hv : fs[k0]? = some v) (d : decode cc pc = .ok (.getfield index, 3))
    (k : xW p l e R s m args below meth c Q b nL P cells slots (pc + 3) lv (v :: st)) : xW p l e R s m args below meth c Q b nL P cells slots (pc) lv (.ref a :: st) := by
  subst href
  intro H locs ls h1 h2 h3
  have hP : va_P G.1 vwCl [(a, .inr (ci, fs))] H := fun j q hq => by
    match j, hq with
    | 0, hq => cases hq; exact hat H h1
    | j + 1, hq => simp at hq
  exact va_get (D := G.1) (ci := ci) (C := K) (T := T) (N := N) C.1 C.2.1 C.2.2.2.2.1 hin C.2.2.2.1 C.2.2.2.2.2.2.1 hP 0 rfl hc k0 hk (C.2.2.2.2.1 _ hlink) (fun _ h => h) hv d (k H locs ls h1 h2 h3)
/-- a field that isn't final is written -/
theorem x_put (C : xC p m c s args meth G b cc nL own) {ref K : String} {T : u_T} {N ci index a : Nat} {fs : List Value} (hin : ∀ w ∈ u_ws K T N, w ∈ gw) (ty0 : Nat → FieldType) (hty : ∀ k, k < N → parseFieldDescriptor (T k).2.2.1 = some (ty0 k)) (hnm : ∀ a, a < N → ∀ b, b < N → a ≠ b → (T a).2.1 ≠ (T b).2.1) (hc : vwCl[ci]? = some (K, T, N)) (k0 : Nat) (hk : k0 < N) (hlink : Cond.fieldLink own index ref (T k0).2.1 (T k0).2.2.1 ∈ gw) (href : ref = (T k0).1) (hfin : (T k0).2.2.2 = false) {v : Value} (hn : narrow (ty0 k0) v = v) (hfit : fits (ty0 k0) v = true) (hl : k0 < fs.length)
    (hat : ∀ H, P H → va_at G.1 vwCl (a, .inr (ci, fs)) H) (hab : b ≤ a) (hnew : ∀ H H' : Heap, P H → H'.size = H.size → (∀ q : Nat, q ≠ a → H'[q]? = H[q]?) → va_at G.1 vwCl (a, .inr (ci, fs.set k0 v)) H' → P' H')
    (d : decode cc pc = .ok (.putfield index, 3)) (k : xW p l e R s m args below meth c Q b nL P' cells slots (pc + 3) lv (st)) : xW p l e R s m args below meth c Q b nL P cells slots (pc) lv (v :: .ref a :: st) := by
  subst href
  intro H locs ls h1 h2 h3
  have hts := C.2.2.2.2.1
  have hK : va_K G.1 vwCl (xT G) s := C.2.2.2.2.2.2.1
  have hap := va_apart (own := own) hts hin ty0 hty hnm hK hc
  obtain ⟨r, g1, cell, q1, q2, q3, q4⟩ := hat H h1
  have hr : r = (K, T, N) := Option.some.inj (g1.symm.trans hc)
  subst hr
  obtain ⟨hS, hfc, kC, hkC, hkind⟩ := hK.1 ci _ hc
  obtain ⟨cf, kf, fi, f, hi, hsl⟩ := hS k0 hk
  have hlay := hts _ (hin _ (u_in_lay hk))
  unfold u_lay at hlay
  rw [if_neg (by rw [hfin]; decide)] at hlay
  have h6 := u_store hfc hkC hkind hlay hi (hty k0 hk) hn hfit
  refine W.putK C.1 C.2.1 (f := f) ⟨C.2.2.2.1, hts _ hlink, ⟨_, _, _, hi⟩, (u_facts hfc hkC (u_lays hts hin hk) hi).1⟩ (by rw [q2]; exact h6) q1 q3 (by rw [hsl]; exact k2_hasslot (q4 k0 hk)) rfl rfl d fun H' e1 e2 e3 => ?_
  rw [hsl] at e1 ⊢
  exact k H' _ ls (hnew H H' h1 e2 e3 ⟨_, hc, t_OB.to (V := updV (vp_V fs) k0 v) ⟨_, e1, q2, q3, t_set q4 hap hk v⟩ (fun j _ => vp_updV_set hl v j)⟩) (h2.put e2 e3 hab) h3
/-- an int array is read -/
theorem x_iald (C : xC p m c s args meth G b cc nL own) {a n : Nat} {f : Nat → Int32} {i : Int32} (hat : ∀ H, P H → va_at G.1 vwCl (a, .inl (G.2.1, n, .inl f)) H) (hin : vp_in i n) (d : decode cc pc = .ok (.iaload, 1)) (k : xW p l e R s m args below meth c Q b nL P cells slots (pc + 1) lv (.int (f i.toNatClampNeg) :: st)) : xW p l e R s m args below meth c Q b nL P cells slots (pc) lv (.int i :: .ref a :: st) := by
  intro H locs ls h1 h2 h3
  have hP : va_P G.1 vwCl [(a, .inl (G.2.1, n, .inl f))] H := fun j q hq => by
    match j, hq with
    | 0, hq => cases hq; exact hat H h1
    | j + 1, hq => simp at hq
  exact va_iald C.1 C.2.1 C.2.2.2.2.2.2.1 hP 0 0 rfl rfl hin d (k H locs ls h1 h2 h3)
theorem x_lald (C : xC p m c s args meth G b cc nL own) {a n : Nat} {f : Nat → Int64} {i : Int32} (hat : ∀ H, P H → va_at G.1 vwCl (a, .inl (G.2.2.1, n, .inr (.inl f))) H) (hin : vp_in i n) (d : decode cc pc = .ok (.laload, 1)) (k : xW p l e R s m args below meth c Q b nL P cells slots (pc + 1) lv (.long (f i.toNatClampNeg) :: st)) : xW p l e R s m args below meth c Q b nL P cells slots (pc) lv (.int i :: .ref a :: st) := by
  intro H locs ls h1 h2 h3
  have hP : va_P G.1 vwCl [(a, .inl (G.2.2.1, n, .inr (.inl f)))] H := fun j q hq => by
    match j, hq with
    | 0, hq => cases hq; exact hat H h1
    | j + 1, hq => simp at hq
  exact va_lald C.1 C.2.1 C.2.2.2.2.2.2.1 hP 0 1 rfl rfl hin d (k H locs ls h1 h2 h3)
theorem x_aald (C : xC p m c s args meth G b cc nL own) {a n : Nat} {f : Nat → Option Nat} {i : Int32} (hat : ∀ H, P H → va_at G.1 vwCl (a, .inl (G.2.2.2, n, .inr (.inr (.inr (.inr f))))) H) (hin : vp_in i n) (d : decode cc pc = .ok (.aaload, 1)) (k : xW p l e R s m args below meth c Q b nL P cells slots (pc + 1) lv (va_rf (f i.toNatClampNeg) :: st)) : xW p l e R s m args below meth c Q b nL P cells slots (pc) lv (.int i :: .ref a :: st) := by
  intro H locs ls h1 h2 h3
  have hP : va_P G.1 vwCl [(a, .inl (G.2.2.2, n, .inr (.inr (.inr (.inr f)))))] H := fun j q hq => by
    match j, hq with
    | 0, hq => cases hq; exact hat H h1
    | j + 1, hq => simp at hq
  exact va_aldq C.1 C.2.1 C.2.2.2.2.2.2.1 hP 0 2 rfl rfl hin d (k H locs ls h1 h2 h3)
theorem x_alen (C : xC p m c s args meth G b cc nL own) {a : Nat} {cA : ClassId} {x : vp_A} {ty : FieldType} (t0 : Nat) (ht : (xT G)[t0]? = some (cA, ty)) (hat : ∀ H, P H → va_at G.1 vwCl (a, .inl (cA, x)) H) {v : Int32} (hv : Int32.ofNat x.1 = v) (d : decode cc pc = .ok (.arraylength, 1)) (k : xW p l e R s m args below meth c Q b nL P cells slots (pc + 1) lv (.int v :: st)) : xW p l e R s m args below meth c Q b nL P cells slots (pc) lv (.ref a :: st) := by
  intro H locs ls h1 h2 h3
  have hP : va_P G.1 vwCl [(a, .inl (cA, x))] H := fun j q hq => by
    match j, hq with
    | 0, hq => cases hq; exact hat H h1
    | j + 1, hq => simp at hq
  exact va_alen C.1 C.2.1 C.2.2.2.2.2.2.1 hP 0 t0 rfl ht hv d (k H locs ls h1 h2 h3)
/-- an int array is written -/
theorem x_iast (C : xC p m c s args meth G b cc nL own) {a n : Nat} {f : Nat → Int32} {i x : Int32} (hat : ∀ H, P H → va_at G.1 vwCl (a, .inl (G.2.1, n, .inl f)) H) (hin : vp_in i n) (hab : b ≤ a) (hnew : ∀ H H' : Heap, P H → H'.size = H.size → (∀ q : Nat, q ≠ a → H'[q]? = H[q]?) → va_at G.1 vwCl (a, .inl (G.2.1, n, .inl (upd f i.toNatClampNeg x))) H' → P' H')
    (d : decode cc pc = .ok (.iastore, 1)) (k : xW p l e R s m args below meth c Q b nL P' cells slots (pc + 1) lv (st)) : xW p l e R s m args below meth c Q b nL P cells slots (pc) lv (.int x :: .int i :: .ref a :: st) := by
  intro H locs ls h1 h2 h3
  have hK : va_K G.1 vwCl (xT G) s := C.2.2.2.2.2.2.1
  refine W.iast C.1 C.2.1 (hat H h1) ((hK.2 0 _ rfl).1 n (fun j => .int (f j))) (fun q => by cases q) (by show ¬ (i < 0 ∨ (arrV _ _ _).slots.size ≤ _); rw [arrV_size]; exact hin) rfl rfl d fun H1 e z oq => ?_
  refine k H1 _ ls (hnew H H1 h1 z oq ?_) (h2.put z oq hab) h3
  show H1[a]? = some (vp_cell _ _)
  rw [e, vp_cell_i, vp_cell_i, arrV_store]
  congr 2
  funext q
  by_cases hq : q = i.toNatClampNeg
  · subst hq; simp [updV, upd]
  · simp [updV, upd, hq]
theorem x_last (C : xC p m c s args meth G b cc nL own) {a n : Nat} {f : Nat → Int64} {i : Int32} {x : Int64} (hat : ∀ H, P H → va_at G.1 vwCl (a, .inl (G.2.2.1, n, .inr (.inl f))) H) (hin : vp_in i n) (hab : b ≤ a) (hnew : ∀ H H' : Heap, P H → H'.size = H.size → (∀ q : Nat, q ≠ a → H'[q]? = H[q]?) → va_at G.1 vwCl (a, .inl (G.2.2.1, n, .inr (.inl (vp_updL f i.toNatClampNeg x)))) H' → P' H')
    (d : decode cc pc = .ok (.lastore, 1)) (k : xW p l e R s m args below meth c Q b nL P' cells slots (pc + 1) lv (st)) : xW p l e R s m args below meth c Q b nL P cells slots (pc) lv (.long x :: .int i :: .ref a :: st) := by
  intro H locs ls h1 h2 h3
  have hK : va_K G.1 vwCl (xT G) s := C.2.2.2.2.2.2.1
  refine W.last C.1 C.2.1 (hat H h1) ((hK.2 1 _ rfl).1 n (fun j => .long (f j))) (fun q => by cases q) (by show ¬ (i < 0 ∨ (arrV _ _ _).slots.size ≤ _); rw [arrV_size]; exact hin) rfl rfl d fun H1 e z oq => ?_
  refine k H1 _ ls (hnew H H1 h1 z oq ?_) (h2.put z oq hab) h3
  show H1[a]? = some (vp_cell _ _)
  rw [e, vp_cell_l, vp_cell_l, arrV_store]
  congr 2
  funext q
  by_cases hq : q = i.toNatClampNeg
  · subst hq; simp [updV, vp_updL]
  · simp [updV, vp_updL, hq]
/-- what a call needs of the words -/
theorem x_callB {y : MethodName} {bytes : ByteArray} {maxL n index : Nat} {ret : Option FieldType} {rm : Room} {mc ms : Nat} (C : xC p m c s args meth G b cc nL own) (hcode : Cond.code y bytes maxL ret ∈ gw) (hini : Cond.initialized y.cls ∈ gw) (hl : Cond.methodLink own index y ∈ gw) (hrc : rm.cells = mc) (hrs : rm.slots = ms)
    (hd : y.cls ≠ "java/lang/invoke/MethodHandle" ∧ y.cls ≠ "java/lang/invoke/VarHandle" ∧ (parseMethodDescriptor y.desc).map (fun d => d.parameters.length) = some n) (hR : rm.frames + 1 ≤ R.frames ∧ 8 + (maxL + 11) + rm.locals ≤ R.locals) : CallB R s args own index y bytes maxL ret (xWs y bytes maxL ret) rm mc ms n :=
  callB_of n C.2.2.2.2.1 (fun w h => (List.mem_cons.mp h).elim (fun e => by rw [e]; exact gw_good _ hcode) (fun h => gw_good w h)) rfl hrc hrs (C.2.2.2.2.1 _ hini) (C.2.2.2.2.1 _ hl) hd hR
/-- behind a call -/
theorem x_back {pc' : Nat} {rest : List Value} {v : Option Value} {mc ms : Nat} {a : Array Value} (H : Heap) (locs : List Loc) (ls : Array Slot) (h2 : va_S (xA b) s.heap H locs) (h3 : lv_has ls nL lv)
    (hr : va_Run p l e R s m args below meth c H locs cells slots mc ms (F0 m pc' ls st) rest (xQ b v P' a) (xA b)) (k : xW p l e R s m args below meth c Q b nL P' (cells + mc) (slots + ms) (pc' + 3) lv (v.toList ++ rest)) : W p l e R s m args below meth c H locs cells slots Q (F0 m pc' ls st) := by
  intro T hT X
  obtain ⟨v1, st₀, t, T', L, h0, X', hL, e1, e2, ⟨hv, hP', hz, hk⟩, stp⟩ := hr T hT X
  cases hv
  rw [h0] at hz hk
  have hS : va_S (xA b) s.heap T'.heap (locs ++ L) := ⟨Nat.le_trans h2.1 (by rw [e1]; exact hz), fun q g1 g2 => by rw [e1, hk q (Nat.lt_of_lt_of_le g1 h2.1) g2]; exact h2.2.1 q g1 g2, fun q hq => by
      rcases List.mem_append.mp hq with h | h
      · exact h2.2.2 q h
      · exact hL q h⟩
  obtain ⟨t2, a1, b1⟩ := k T'.heap (locs ++ L) ls (by rw [e1]; exact hP') hS h3 T' rfl X'
  exact ⟨t2, stp t2 a1, b1⟩
theorem x_callV (C : xC p m c s args meth G b cc nL own) {y : MethodName} {bytes : ByteArray} {maxL index ci a0 : Nat} {ret : Option FieldType} {rm : Room} {mc ms : Nat} {fs : List Value} {K : vw_C} (As : List Value) {rest : List Value} {v : Option Value} {P2 : Heap → Prop}
    (hM : xMet l G b y bytes maxL ret rm (.ref a0 :: As) P v P' mc ms) (hcode : Cond.code y bytes maxL ret ∈ gw) (hini : Cond.initialized y.cls ∈ gw) (hl : Cond.methodLink own index y ∈ gw) (hinst : Cond.instanceMethod y ∈ gw) (hsel : Cond.selects K.1 y y ∈ gw) (hrc : rm.cells = mc) (hrs : rm.slots = ms)
    (hd : y.cls ≠ "java/lang/invoke/MethodHandle" ∧ y.cls ≠ "java/lang/invoke/VarHandle" ∧ (parseMethodDescriptor y.desc).map (fun d => d.parameters.length) = some As.length) (hR : rm.frames + 1 ≤ R.frames ∧ 8 + (maxL + 11) + rm.locals ≤ R.locals) (hci : vwCl[ci]? = some K) (hat : ∀ H, P H → va_at G.1 vwCl (a0, .inr (ci, fs)) H)
    (hst : st = As.reverse ++ .ref a0 :: rest) (hcat : (rest.map fun v => v.category).sum ≤ 8) (hf : cells + mc ≤ R.cells ∧ slots + ms ≤ R.slots) (d : decode cc pc = .ok (.invokevirtual index, 3)) (k : xW p l e R s m args below meth c Q b nL P' (cells + mc) (slots + ms) (pc + 3) lv (v.toList ++ rest)) : xW p l e R s m args below meth c Q b nL P cells slots (pc) lv (st) := by
  intro H locs ls h1 h2 h3
  subst hst
  have hK : va_K G.1 vwCl (xT G) s := C.2.2.2.2.2.2.1
  have hP : va_P G.1 vwCl [(a0, .inr (ci, fs))] H := fun j q hq => by
    match j, hq with
    | 0, hq => cases hq; exact hat H h1
    | j + 1, hq => simp at hq
  refine x_back H locs ls h2 h3 (va_runV (rm := rm) (As := As) (rest := rest) (C := K.1) ⟨C.1, C.2.1, C.2.2.1, C.2.2.2.1, C.2.2.2.2.1⟩ hM ⟨x_callB C hcode hini hl hrc hrs hd hR, C.2.2.2.2.1 _ hinst, C.2.2.2.2.1 _ hsel⟩ ⟨xPc.blind, va_recv (q0 := 0) hK hP hci rfl, fun U hU hW => ⟨rfl, by rw [hU]; exact h1, hK.moved hW.alike, by rw [hU]; exact Nat.le_trans C.2.2.2.2.2.2.2 h2.1⟩⟩ rfl rfl h3.1 rfl (lv_room hcat) d hf) k
theorem x_callS (C : xC p m c s args meth G b cc nL own) {y : MethodName} {bytes : ByteArray} {maxL index : Nat} {ret : Option FieldType} {rm : Room} {mc ms : Nat} (As : List Value) {rest : List Value} {v : Option Value}
    (hM : xMet l G b y bytes maxL ret rm As P v P' mc ms) (hcode : Cond.code y bytes maxL ret ∈ gw) (hini : Cond.initialized y.cls ∈ gw) (hl : Cond.methodLink own index y ∈ gw) (hstat : Cond.static y ∈ gw) (hrc : rm.cells = mc) (hrs : rm.slots = ms)
    (hd : y.cls ≠ "java/lang/invoke/MethodHandle" ∧ y.cls ≠ "java/lang/invoke/VarHandle" ∧ (parseMethodDescriptor y.desc).map (fun d => d.parameters.length) = some As.length) (hR : rm.frames + 1 ≤ R.frames ∧ 8 + (maxL + 11) + rm.locals ≤ R.locals)
    (hst : st = As.reverse ++ rest) (hcat : (rest.map fun v => v.category).sum ≤ 8) (hf : cells + mc ≤ R.cells ∧ slots + ms ≤ R.slots) (d : decode cc pc = .ok (.invokestatic index, 3)) (k : xW p l e R s m args below meth c Q b nL P' (cells + mc) (slots + ms) (pc + 3) lv (v.toList ++ rest)) : xW p l e R s m args below meth c Q b nL P cells slots (pc) lv (st) := by
  intro H locs ls h1 h2 h3
  subst hst
  have hK : va_K G.1 vwCl (xT G) s := C.2.2.2.2.2.2.1
  refine x_back H locs ls h2 h3 (va_runS (rm := rm) (As := As) (rest := rest) ⟨C.1, C.2.1, C.2.2.1, C.2.2.2.1, C.2.2.2.2.1⟩ hM ⟨x_callB C hcode hini hl hrc hrs hd hR, C.2.2.2.2.1 _ hstat⟩ ⟨xPc.blind, fun U hU hW => ⟨rfl, by rw [hU]; exact h1, hK.moved hW.alike, by rw [hU]; exact Nat.le_trans C.2.2.2.2.2.2.2 h2.1⟩⟩ rfl rfl h3.1 rfl (lv_room hcat) d hf) k
theorem x_callI (C : xC p m c s args meth G b cc nL own) {y : MethodName} {bytes : ByteArray} {maxL index a0 : Nat} {rm : Room} {mc ms : Nat} (As : List Value) {rest : List Value} {v : Option Value}
    (hM : xMet l G b y bytes maxL none rm (.ref a0 :: As) P v P' mc ms) (hcode : Cond.code y bytes maxL none ∈ gw) (hini : Cond.initialized y.cls ∈ gw) (hl : Cond.methodLink own index y ∈ gw) (hinst : Cond.instanceMethod y ∈ gw) (hnm : y.name = "<init>") (hrc : rm.cells = mc) (hrs : rm.slots = ms)
    (hd : y.cls ≠ "java/lang/invoke/MethodHandle" ∧ y.cls ≠ "java/lang/invoke/VarHandle" ∧ (parseMethodDescriptor y.desc).map (fun d => d.parameters.length) = some As.length) (hR : rm.frames + 1 ≤ R.frames ∧ 8 + (maxL + 11) + rm.locals ≤ R.locals)
    (hst : st = As.reverse ++ .ref a0 :: rest) (hcat : (rest.map fun v => v.category).sum ≤ 8) (hf : cells + mc ≤ R.cells ∧ slots + ms ≤ R.slots) (d : decode cc pc = .ok (.invokespecial index, 3)) (k : xW p l e R s m args below meth c Q b nL P' (cells + mc) (slots + ms) (pc + 3) lv (v.toList ++ rest)) : xW p l e R s m args below meth c Q b nL P cells slots (pc) lv (st) := by
  intro H locs ls h1 h2 h3
  subst hst
  have hK : va_K G.1 vwCl (xT G) s := C.2.2.2.2.2.2.1
  refine x_back H locs ls h2 h3 (va_runI (rm := rm) (As := As) (rest := rest) ⟨C.1, C.2.1, C.2.2.1, C.2.2.2.1, C.2.2.2.2.1⟩ hM ⟨x_callB C hcode hini hl hrc hrs hd hR, hnm, C.2.2.2.2.1 _ hinst⟩ ⟨xPc.blind, fun U hU hW => ⟨rfl, by rw [hU]; exact h1, hK.moved hW.alike, by rw [hU]; exact Nat.le_trans C.2.2.2.2.2.2.2 h2.1⟩⟩ rfl rfl h3.1 rfl (lv_room hcat) d hf) k
/-- a stronger start, a weaker end -/
theorem xMet.conseq {y : MethodName} {ret : Option FieldType} {rm : Room} {as : List Value} {P1 P2 : Heap → Prop} {v : Option Value} {mc ms : Nat} (h : ∀ H, P1 H → ∃ P P' : Heap → Prop, P H ∧ xMet l G b y cc nL ret rm as P v P' mc ms ∧ ∀ H', P' H' → P2 H') : xMet l G b y cc nL ret rm as P1 v P2 mc ms := by
  intro p e h1 h2 h3 s m args below h4 h5 h6 h7
  obtain ⟨ha, hP, hK, hbl⟩ := h6
  obtain ⟨P, P', g1, g2, g3⟩ := h s.heap hP
  obtain ⟨n, o, q1, q2, q3, ⟨w1, w2, w3⟩, q5⟩ := g2 p e h1 h2 h3 s m args below h4 h5 ⟨ha, g1, hK, hbl⟩ h7
  exact ⟨n, o, q1, q2, q3, ⟨w1, g3 _ w2, w3⟩, q5⟩
theorem bool_ok {x : Int32} (h : x = 0 ∨ x = 1) : narrow .boolean (.int x) = .int x := by
  rcases h with rfl | rfl <;> rfl
end XW
end
section
/-! The world: the arrays by (group, row, place), the int fields by (group, number), the law's long. Groups 0..7: the yards (0 now, 1 the snapshot, 2.. the saved ones); 8: text, saved, the face's own; 9: the reference. -/
abbrev xWt : Type := (Nat → Nat → Nat → Int32) × (Nat → Nat → Int32) × Int64
def sRow (w : xWt) (k r : Nat) (f : Nat → Int32) : xWt := (fun k' r' => if k' = k ∧ r' = r then f else w.1 k' r', w.2)
def sF (w : xWt) (k j : Nat) (v : Int32) : xWt := (w.1, fun k' j' => if k' = k ∧ j' = j then v else w.2.1 k' j', w.2.2)
def sO (w : xWt) (v : Int64) : xWt := (w.1, w.2.1, v)
def yb (b k : Nat) : Nat := if k < 2 then b + 1 + 36 * k else b + 3 + 36 * k
def lvb (b k : Nat) : Nat := yb b k + 1
def chb (b k : Nat) : Nat := yb b k + 14
def hkb (b k : Nat) : Nat := yb b k + 29
def ro (b k r : Nat) : Nat := if k < 8 then yb b k + 2 + 2 * r + (if r < 6 then 0 else if r < 13 then 1 else 2) else b + 292
def ra (b k r : Nat) : Nat := if k < 8 then ro b k r + 1 else if k = 8 then b + 293 else b + 295 + r
def svb (b : Nat) : Nat := b + 73
def yab (b : Nat) : Nat := b + 74
def txb (b : Nat) : Nat := b + 291
def mdb (b : Nat) : Nat := b + 294
def oub (b : Nat) : Nat := b + 300
def rl (k r : Nat) : Nat := if k < 8 then (if r = 0 then 12 else if r < 6 then 120 else if r < 12 then 5 else if r = 12 then 600 else 15) else if k = 8 then 60 else (if r = 0 then 817 else if r = 1 then 4902 else if r = 2 then 817 else if r = 3 then 60 else 5)
def vr (k r : Nat) : Prop := (k < 8 ∧ r < 16) ∨ (k = 8 ∧ r = 0)
def vA (k r : Nat) : Prop := vr k r ∨ (k = 9 ∧ r < 5)
def vF (k j : Nat) : Prop := (k < 8 ∧ j < 9) ∨ (k = 8 ∧ j < 4) ∨ (k = 9 ∧ j < 6)
theorem vr_y {k : Nat} (r : Nat) (hk : k < 8) (hr : r < 16) : vr k r := Or.inl ⟨hk, hr⟩
theorem vr_t : vr 8 0 := Or.inr ⟨rfl, rfl⟩
theorem vA_y {k : Nat} (r : Nat) (hk : k < 8) (hr : r < 16) : vA k r := Or.inl (vr_y r hk hr)
theorem vA_m (r : Nat) (hr : r < 5) : vA 9 r := Or.inr ⟨rfl, hr⟩
abbrev eY (b k : Nat) (w : xWt) : va_E := .inr (6, [.int (w.2.1 k 0), .int (w.2.1 k 1), .int (w.2.1 k 2), .int (w.2.1 k 3), .int (w.2.1 k 4), .int (w.2.1 k 5), .int (w.2.1 k 6), .int (w.2.1 k 7), .ref (lvb b k), .ref (chb b k), .ref (hkb b k)])
abbrev eL (b k : Nat) (w : xWt) : va_E := .inr (2, [.int (w.2.1 k 8), .ref (ro b k 0), .ref (ro b k 1), .ref (ro b k 2), .ref (ro b k 3), .ref (ro b k 4), .ref (ro b k 5)])
abbrev eC (b k : Nat) : va_E := .inr (0, [.ref (ro b k 6), .ref (ro b k 7), .ref (ro b k 8), .ref (ro b k 9), .ref (ro b k 10), .ref (ro b k 11), .ref (ro b k 12)])
abbrev eH (b k : Nat) : va_E := .inr (1, [.ref (ro b k 13), .ref (ro b k 14), .ref (ro b k 15)])
abbrev eR (b k r : Nat) : va_E := .inr (4, [.ref (ra b k r)])
abbrev eA (G : xG) (k r : Nat) (w : xWt) : va_E := .inl (G.2.1, rl k r, .inl (w.1 k r))
abbrev eT (b : Nat) (w : xWt) : va_E := .inr (3, [.ref (ro b 8 0), .int (w.2.1 8 0)])
abbrev eS (b : Nat) (w : xWt) : va_E := .inr (5, [.ref (yab b), .int (w.2.1 8 1), .int (w.2.1 8 2)])
abbrev eV (G : xG) (b : Nat) : va_E := .inl (G.2.2.2, 6, .inr (.inr (.inr (.inr (fun i => some (yb b (i + 2)))))))
abbrev eP (b : Nat) (w : xWt) : va_E := .inr (7, [.ref (yb b 0), .ref (yb b 1), .ref (svb b), .ref (txb b), .int (w.2.1 8 3)])
abbrev eM (b : Nat) (w : xWt) : va_E := .inr (8, [.int (w.2.1 9 0), .ref (ra b 9 0), .ref (ra b 9 1), .int (w.2.1 9 1), .ref (ra b 9 2), .int (w.2.1 9 2), .ref (ra b 9 3), .int (w.2.1 9 3), .int (w.2.1 9 4), .ref (ra b 9 4), .int (w.2.1 9 5)])
abbrev eO (G : xG) (w : xWt) : va_E := .inl (G.2.2.1, 1, .inr (.inl (fun j => if j = 0 then w.2.2 else 0)))
def CW (G : xG) (b : Nat) (w : xWt) (H : Heap) : Prop :=
  (∀ k, k < 8 → va_at G.1 vwCl (yb b k, eY b k w) H ∧ va_at G.1 vwCl (lvb b k, eL b k w) H ∧ va_at G.1 vwCl (chb b k, eC b k) H ∧ va_at G.1 vwCl (hkb b k, eH b k) H) ∧
  (∀ k r, vr k r → va_at G.1 vwCl (ro b k r, eR b k r) H) ∧ (∀ k r, vA k r → va_at G.1 vwCl (ra b k r, eA G k r w) H) ∧
  va_at G.1 vwCl (txb b, eT b w) H ∧ va_at G.1 vwCl (svb b, eS b w) H ∧ va_at G.1 vwCl (yab b, eV G b) H ∧ va_at G.1 vwCl (b, eP b w) H ∧ va_at G.1 vwCl (mdb b, eM b w) H ∧ va_at G.1 vwCl (oub b, eO G w) H
section CWs
variable {G : xG} {b k r : Nat} {w : xWt} {H H' : Heap}
theorem CW.yd (h : CW G b w H) (hk : k < 8) : va_at G.1 vwCl (yb b k, eY b k w) H := (h.1 k hk).1
theorem CW.lv (h : CW G b w H) (hk : k < 8) : va_at G.1 vwCl (lvb b k, eL b k w) H := (h.1 k hk).2.1
theorem CW.ch (h : CW G b w H) (hk : k < 8) : va_at G.1 vwCl (chb b k, eC b k) H := (h.1 k hk).2.2.1
theorem CW.hk (h : CW G b w H) (hk : k < 8) : va_at G.1 vwCl (hkb b k, eH b k) H := (h.1 k hk).2.2.2
theorem CW.row0 (h : CW G b w H) (hv : vr k r) : va_at G.1 vwCl (ro b k r, eR b k r) H := h.2.1 k r hv
theorem CW.arr (h : CW G b w H) (hv : vA k r) : va_at G.1 vwCl (ra b k r, eA G k r w) H := h.2.2.1 k r hv
theorem CW.tx (h : CW G b w H) : va_at G.1 vwCl (txb b, eT b w) H := h.2.2.2.1
theorem CW.sv (h : CW G b w H) : va_at G.1 vwCl (svb b, eS b w) H := h.2.2.2.2.1
theorem CW.vy (h : CW G b w H) : va_at G.1 vwCl (yab b, eV G b) H := h.2.2.2.2.2.1
theorem CW.pl (h : CW G b w H) : va_at G.1 vwCl (b, eP b w) H := h.2.2.2.2.2.2.1
theorem CW.md (h : CW G b w H) : va_at G.1 vwCl (mdb b, eM b w) H := h.2.2.2.2.2.2.2.1
theorem CW.ou (h : CW G b w H) : va_at G.1 vwCl (oub b, eO G w) H := h.2.2.2.2.2.2.2.2
theorem yb_ge : b ≤ yb b k := by unfold yb; split <;> omega
theorem ro_ge : b ≤ ro b k r := by unfold ro yb; (repeat' split) <;> omega
theorem ra_ge : b ≤ ra b k r := by unfold ra ro yb; (repeat' split) <;> omega
theorem lvb_ge : b ≤ lvb b k := by unfold lvb yb; split <;> omega
theorem svb_ge : b ≤ svb b := by unfold svb; omega
theorem txb_ge : b ≤ txb b := by unfold txb; omega
theorem mdb_ge : b ≤ mdb b := by unfold mdb; omega
theorem oub_ge : b ≤ oub b := by unfold oub; omega
theorem ra_inj {k' r' : Nat} (h : vA k r) (h' : vA k' r') (e : ra b k' r' = ra b k r) : k' = k ∧ r' = r := by
  unfold vA vr at h h'
  unfold ra ro yb at e
  (repeat' split at e) <;> omega

theorem yb_inj {k k' : Nat} (h : k < 8) (h' : k' < 8) (e : yb b k' = yb b k) : k' = k := by
  unfold yb at e
  (repeat' split at e) <;> omega
theorem va_other {q : Nat × va_E} {a : Nat} (hat : va_at G.1 vwCl q H) (oq : ∀ z : Nat, z ≠ a → H'[z]? = H[z]?) (hne : q.1 ≠ a) : va_at G.1 vwCl q H' := hat.kept (oq _ hne)
theorem CW.row (h : CW G b w H) (hv : vA k r) {f : Nat → Int32} (oq : ∀ q : Nat, q ≠ ra b k r → H'[q]? = H[q]?) (hn : va_at G.1 vwCl (ra b k r, .inl (G.2.1, rl k r, .inl f)) H') : CW G b (sRow w k r f) H' := by
  have o : ∀ {q : Nat × va_E}, va_at G.1 vwCl q H → q.1 ≠ ra b k r → va_at G.1 vwCl q H' := fun a d => va_other a oq d
  refine ⟨fun k' hk' => ⟨o (h.yd hk') ?_, o (h.lv hk') ?_, o (h.ch hk') ?_, o (h.hk hk') ?_⟩, fun k' r' hv' => o (h.row0 hv') ?_, fun k' r' hv' => ?_, o h.tx ?_, o h.sv ?_, o h.vy ?_, o h.pl ?_, o h.md ?_, o h.ou ?_⟩
  case refine_6 =>
    by_cases e : k' = k ∧ r' = r
    · obtain ⟨rfl, rfl⟩ := e
      show va_at G.1 vwCl (_, .inl (_, _, .inl ((sRow w k' r' f).1 k' r'))) H'
      have e2 : (sRow w k' r' f).1 k' r' = f := by simp [sRow]
      rw [e2]; exact hn
    · show va_at G.1 vwCl (_, .inl (_, _, .inl ((sRow w k r f).1 k' r'))) H'
      have e2 : (sRow w k r f).1 k' r' = w.1 k' r' := by simp [sRow, e]
      rw [e2]; exact o (h.arr hv') (fun z => e (ra_inj hv hv' z))
  all_goals
    unfold vA vr at hv
    try unfold vr at hv'
    simp only [ra, ro, yb, lvb, chb, hkb, txb, svb, yab, mdb, oub]
    (repeat' split) <;> omega
theorem CW.fY (h : CW G b w H) (hk : k < 8) {j : Nat} (hj : j < 8) {v : Int32} (oq : ∀ q : Nat, q ≠ yb b k → H'[q]? = H[q]?) (hn : va_at G.1 vwCl (yb b k, eY b k (sF w k j v)) H') : CW G b (sF w k j v) H' := by
  have o : ∀ {q : Nat × va_E}, va_at G.1 vwCl q H → q.1 ≠ yb b k → va_at G.1 vwCl q H' := fun a d => va_other a oq d
  refine ⟨fun k' hk' => ⟨?_, ?_, o (h.ch hk') ?_, o (h.hk hk') ?_⟩, fun k' r' hv' => o (h.row0 hv') ?_, fun k' r' hv' => o (h.arr hv') ?_, ?_, ?_, o h.vy ?_, ?_, ?_, o h.ou ?_⟩
  case refine_1 =>
    by_cases e : k' = k
    · subst e; exact hn
    · have h2 := o (h.yd hk') (fun z => e (yb_inj hk hk' z))
      simpa [eY, sF, e] using h2
  case refine_2 =>
    have h2 := o (h.lv hk') (show lvb b k' ≠ yb b k by simp only [lvb, yb]; (repeat' split) <;> omega)
    have e : ¬ (k' = k ∧ 8 = j) := fun z => by omega
    simpa [eL, sF, e] using h2
  case refine_7 =>
    have h2 := o h.tx (show txb b ≠ yb b k by simp only [txb, yb]; (repeat' split) <;> omega)
    have e : ¬ 8 = k := by omega
    simpa [eT, sF, e] using h2
  case refine_8 =>
    have h2 := o h.sv (show svb b ≠ yb b k by simp only [svb, yb]; (repeat' split) <;> omega)
    have e : ¬ 8 = k := by omega
    simpa [eS, sF, e] using h2
  case refine_10 =>
    have h2 := o h.pl (show b ≠ yb b k by simp only [yb]; (repeat' split) <;> omega)
    have e : ¬ 8 = k := by omega
    simpa [eP, sF, e] using h2
  case refine_11 =>
    have h2 := o h.md (show mdb b ≠ yb b k by simp only [mdb, yb]; (repeat' split) <;> omega)
    have e : ¬ 9 = k := by omega
    simpa [eM, sF, e] using h2
  all_goals
    try unfold vA vr at hv'
    try unfold vr at hv'
    simp only [ra, ro, yb, lvb, chb, hkb, txb, svb, yab, mdb, oub]
    (repeat' split) <;> omega
theorem CW.fL (h : CW G b w H) (hk : k < 8) {v : Int32} (oq : ∀ q : Nat, q ≠ lvb b k → H'[q]? = H[q]?) (hn : va_at G.1 vwCl (lvb b k, eL b k (sF w k 8 v)) H') : CW G b (sF w k 8 v) H' := by
  have o : ∀ {q : Nat × va_E}, va_at G.1 vwCl q H → q.1 ≠ lvb b k → va_at G.1 vwCl q H' := fun a d => va_other a oq d
  refine ⟨fun k' hk' => ⟨?_, ?_, o (h.ch hk') ?_, o (h.hk hk') ?_⟩, fun k' r' hv' => o (h.row0 hv') ?_, fun k' r' hv' => o (h.arr hv') ?_, ?_, ?_, o h.vy ?_, ?_, ?_, o h.ou ?_⟩
  case refine_1 =>
    have h2 := o (h.yd hk') (show yb b k' ≠ lvb b k by simp only [lvb, yb]; (repeat' split) <;> omega)
    simpa [eY, sF] using h2
  case refine_2 =>
    by_cases e : k' = k
    · subst e; exact hn
    · have h2 := o (h.lv hk') (fun z => e (yb_inj (b := b) hk hk' (by simp only [lvb] at z; omega)))
      simpa [eL, sF, e] using h2
  case refine_7 =>
    have h2 := o h.tx (show txb b ≠ lvb b k by simp only [txb, lvb, yb]; (repeat' split) <;> omega)
    have e : ¬ 8 = k := by omega
    simpa [eT, sF, e] using h2
  case refine_8 =>
    have h2 := o h.sv (show svb b ≠ lvb b k by simp only [svb, lvb, yb]; (repeat' split) <;> omega)
    have e : ¬ 8 = k := by omega
    simpa [eS, sF, e] using h2
  case refine_10 =>
    have h2 := o h.pl (show b ≠ lvb b k by simp only [lvb, yb]; (repeat' split) <;> omega)
    have e : ¬ 8 = k := by omega
    simpa [eP, sF, e] using h2
  case refine_11 =>
    have h2 := o h.md (show mdb b ≠ lvb b k by simp only [mdb, lvb, yb]; (repeat' split) <;> omega)
    have e : ¬ 9 = k := by omega
    simpa [eM, sF, e] using h2
  all_goals
    try unfold vA vr at hv'
    try unfold vr at hv'
    simp only [ra, ro, yb, lvb, chb, hkb, txb, svb, yab, mdb, oub]
    (repeat' split) <;> omega
theorem CW.fT (h : CW G b w H) {j : Nat} (hj : j = 0) {v : Int32} (oq : ∀ q : Nat, q ≠ txb b → H'[q]? = H[q]?) (hn : va_at G.1 vwCl (txb b, eT b (sF w 8 j v)) H') : CW G b (sF w 8 j v) H' := by
  have o : ∀ {q : Nat × va_E}, va_at G.1 vwCl q H → q.1 ≠ txb b → va_at G.1 vwCl q H' := fun a d => va_other a oq d
  refine ⟨fun k' hk' => ⟨?_, ?_, o (h.ch hk') ?_, o (h.hk hk') ?_⟩, fun k' r' hv' => o (h.row0 hv') ?_, fun k' r' hv' => o (h.arr hv') ?_, ?_, ?_, o h.vy ?_, ?_, ?_, o h.ou ?_⟩
  case refine_1 =>
    have h2 := o (h.yd hk') (show yb b k' ≠ txb b by simp only [txb, svb, mdb, yb]; (repeat' split) <;> omega)
    have e : ¬ k' = 8 := by omega
    simpa [eY, sF, e] using h2
  case refine_2 =>
    have h2 := o (h.lv hk') (show lvb b k' ≠ txb b by simp only [lvb, txb, svb, mdb, yb]; (repeat' split) <;> omega)
    have e : ¬ k' = 8 := by omega
    simpa [eL, sF, e] using h2
  case refine_7 => exact hn
  case refine_8 =>
    have h2 := o h.sv (show svb b ≠ txb b by simp only [txb, svb, mdb]; omega)
    have e1 : ¬ 1 = j := by omega
    have e2 : ¬ 2 = j := by omega
    simpa [eS, sF, e1, e2] using h2
  case refine_10 =>
    have h2 := o h.pl (show b ≠ txb b by simp only [txb, svb, mdb]; omega)
    have e3 : ¬ 3 = j := by omega
    simpa [eP, sF, e3] using h2
  case refine_11 =>
    have h2 := o h.md (show mdb b ≠ txb b by simp only [txb, svb, mdb]; omega)
    simpa [eM, sF] using h2
  all_goals
    try unfold vA vr at hv'
    try unfold vr at hv'
    simp only [ra, ro, yb, lvb, chb, hkb, txb, svb, yab, mdb, oub]
    (repeat' split) <;> omega
theorem CW.fS (h : CW G b w H) {j : Nat} (hj : j = 1 ∨ j = 2) {v : Int32} (oq : ∀ q : Nat, q ≠ svb b → H'[q]? = H[q]?) (hn : va_at G.1 vwCl (svb b, eS b (sF w 8 j v)) H') : CW G b (sF w 8 j v) H' := by
  have o : ∀ {q : Nat × va_E}, va_at G.1 vwCl q H → q.1 ≠ svb b → va_at G.1 vwCl q H' := fun a d => va_other a oq d
  refine ⟨fun k' hk' => ⟨?_, ?_, o (h.ch hk') ?_, o (h.hk hk') ?_⟩, fun k' r' hv' => o (h.row0 hv') ?_, fun k' r' hv' => o (h.arr hv') ?_, ?_, ?_, o h.vy ?_, ?_, ?_, o h.ou ?_⟩
  case refine_1 =>
    have h2 := o (h.yd hk') (show yb b k' ≠ svb b by simp only [txb, svb, mdb, yb]; (repeat' split) <;> omega)
    have e : ¬ k' = 8 := by omega
    simpa [eY, sF, e] using h2
  case refine_2 =>
    have h2 := o (h.lv hk') (show lvb b k' ≠ svb b by simp only [lvb, txb, svb, mdb, yb]; (repeat' split) <;> omega)
    have e : ¬ k' = 8 := by omega
    simpa [eL, sF, e] using h2
  case refine_7 =>
    have h2 := o h.tx (show txb b ≠ svb b by simp only [txb, svb, mdb]; omega)
    have e0 : ¬ 0 = j := by omega
    simpa [eT, sF, e0] using h2
  case refine_8 => exact hn
  case refine_10 =>
    have h2 := o h.pl (show b ≠ svb b by simp only [txb, svb, mdb]; omega)
    have e3 : ¬ 3 = j := by omega
    simpa [eP, sF, e3] using h2
  case refine_11 =>
    have h2 := o h.md (show mdb b ≠ svb b by simp only [txb, svb, mdb]; omega)
    simpa [eM, sF] using h2
  all_goals
    try unfold vA vr at hv'
    try unfold vr at hv'
    simp only [ra, ro, yb, lvb, chb, hkb, txb, svb, yab, mdb, oub]
    (repeat' split) <;> omega
theorem CW.fP (h : CW G b w H) {j : Nat} (hj : j = 3) {v : Int32} (oq : ∀ q : Nat, q ≠ b → H'[q]? = H[q]?) (hn : va_at G.1 vwCl (b, eP b (sF w 8 j v)) H') : CW G b (sF w 8 j v) H' := by
  have o : ∀ {q : Nat × va_E}, va_at G.1 vwCl q H → q.1 ≠ b → va_at G.1 vwCl q H' := fun a d => va_other a oq d
  refine ⟨fun k' hk' => ⟨?_, ?_, o (h.ch hk') ?_, o (h.hk hk') ?_⟩, fun k' r' hv' => o (h.row0 hv') ?_, fun k' r' hv' => o (h.arr hv') ?_, ?_, ?_, o h.vy ?_, ?_, ?_, o h.ou ?_⟩
  case refine_1 =>
    have h2 := o (h.yd hk') (show yb b k' ≠ b by simp only [txb, svb, mdb, yb]; (repeat' split) <;> omega)
    have e : ¬ k' = 8 := by omega
    simpa [eY, sF, e] using h2
  case refine_2 =>
    have h2 := o (h.lv hk') (show lvb b k' ≠ b by simp only [lvb, txb, svb, mdb, yb]; (repeat' split) <;> omega)
    have e : ¬ k' = 8 := by omega
    simpa [eL, sF, e] using h2
  case refine_7 =>
    have h2 := o h.tx (show txb b ≠ b by simp only [txb, svb, mdb]; omega)
    have e0 : ¬ 0 = j := by omega
    simpa [eT, sF, e0] using h2
  case refine_8 =>
    have h2 := o h.sv (show svb b ≠ b by simp only [txb, svb, mdb]; omega)
    have e1 : ¬ 1 = j := by omega
    have e2 : ¬ 2 = j := by omega
    simpa [eS, sF, e1, e2] using h2
  case refine_10 => exact hn
  case refine_11 =>
    have h2 := o h.md (show mdb b ≠ b by simp only [txb, svb, mdb]; omega)
    simpa [eM, sF] using h2
  all_goals
    try unfold vA vr at hv'
    try unfold vr at hv'
    simp only [ra, ro, yb, lvb, chb, hkb, txb, svb, yab, mdb, oub]
    (repeat' split) <;> omega
theorem CW.fM (h : CW G b w H) {j : Nat} (hj : j < 6) {v : Int32} (oq : ∀ q : Nat, q ≠ mdb b → H'[q]? = H[q]?) (hn : va_at G.1 vwCl (mdb b, eM b (sF w 9 j v)) H') : CW G b (sF w 9 j v) H' := by
  have o : ∀ {q : Nat × va_E}, va_at G.1 vwCl q H → q.1 ≠ mdb b → va_at G.1 vwCl q H' := fun a d => va_other a oq d
  refine ⟨fun k' hk' => ⟨?_, ?_, o (h.ch hk') ?_, o (h.hk hk') ?_⟩, fun k' r' hv' => o (h.row0 hv') ?_, fun k' r' hv' => o (h.arr hv') ?_, ?_, ?_, o h.vy ?_, ?_, ?_, o h.ou ?_⟩
  case refine_1 =>
    have h2 := o (h.yd hk') (show yb b k' ≠ mdb b by simp only [txb, svb, mdb, yb]; (repeat' split) <;> omega)
    have e : ¬ k' = 9 := by omega
    simpa [eY, sF, e] using h2
  case refine_2 =>
    have h2 := o (h.lv hk') (show lvb b k' ≠ mdb b by simp only [lvb, txb, svb, mdb, yb]; (repeat' split) <;> omega)
    have e : ¬ k' = 9 := by omega
    simpa [eL, sF, e] using h2
  case refine_7 =>
    have h2 := o h.tx (show txb b ≠ mdb b by simp only [txb, svb, mdb]; omega)
    simpa [eT, sF] using h2
  case refine_8 =>
    have h2 := o h.sv (show svb b ≠ mdb b by simp only [txb, svb, mdb]; omega)
    simpa [eS, sF] using h2
  case refine_10 =>
    have h2 := o h.pl (show b ≠ mdb b by simp only [txb, svb, mdb]; omega)
    simpa [eP, sF] using h2
  case refine_11 => exact hn
  all_goals
    try unfold vA vr at hv'
    try unfold vr at hv'
    simp only [ra, ro, yb, lvb, chb, hkb, txb, svb, yab, mdb, oub]
    (repeat' split) <;> omega
theorem CW.out (h : CW G b w H) {v : Int64} (oq : ∀ q : Nat, q ≠ oub b → H'[q]? = H[q]?) (hn : va_at G.1 vwCl (oub b, eO G (sO w v)) H') : CW G b (sO w v) H' := by
  have o : ∀ {q : Nat × va_E}, va_at G.1 vwCl q H → q.1 ≠ oub b → va_at G.1 vwCl q H' := fun a d => va_other a oq d
  refine ⟨fun k' hk' => ⟨o (h.yd hk') ?_, o (h.lv hk') ?_, o (h.ch hk') ?_, o (h.hk hk') ?_⟩, fun k' r' hv' => o (h.row0 hv') ?_, fun k' r' hv' => o (h.arr hv') ?_, o h.tx ?_, o h.sv ?_, o h.vy ?_, o h.pl ?_, o h.md ?_, hn⟩
  all_goals
    try unfold vA vr at hv'
    try unfold vr at hv'
    simp only [ra, ro, yb, lvb, chb, hkb, txb, svb, yab, mdb, oub]
    (repeat' split) <;> omega
end CWs
/-! what may be undefined, over the world -/
def bd {α β : Type} (m : Option (α × xWt)) (f : α → xWt → Option β) : Option β := match m with
  | some (a, w) => f a w
  | none => none
theorem bd_some {α β : Type} {m : Option (α × xWt)} {f : α → xWt → Option β} {r : β} (h : bd m f = some r) : ∃ a w, m = some (a, w) ∧ f a w = some r := by
  match m, h with
  | some (a, w), h => exact ⟨a, w, rfl, h⟩
theorem bd_eq {α β : Type} {m : Option (α × xWt)} {f : α → xWt → Option β} {a : α} {w : xWt} (h : m = some (a, w)) : bd m f = f a w := by rw [h]; rfl
def lw {β : Type} (w : xWt) (f : xWt → Option β) : Option β := f w
def ald {β : Type} (w : xWt) (k r : Nat) (i : Int32) (f : Int32 → Option β) : Option β := if i < 0 ∨ rl k r ≤ i.toNatClampNeg then none else f (w.1 k r i.toNatClampNeg)
def ast {β : Type} (w : xWt) (k r : Nat) (i x : Int32) (f : xWt → Option β) : Option β := if i < 0 ∨ rl k r ≤ i.toNatClampNeg then none else f (sRow w k r (upd (w.1 k r) i.toNatClampNeg x))
/-- local reading of a row's own methods -/
def lld {β : Type} (g : Nat → Int32) (n : Nat) (i : Int32) (f : Int32 → Option β) : Option β := if i < 0 ∨ n ≤ i.toNatClampNeg then none else f (g i.toNatClampNeg)
def lst {β : Type} (g : Nat → Int32) (n : Nat) (i x : Int32) (f : (Nat → Int32) → Option β) : Option β := if i < 0 ∨ n ≤ i.toNatClampNeg then none else f (upd g i.toNatClampNeg x)
def lbd {α β : Type} (m : Option (α × (Nat → Int32))) (f : α → (Nat → Int32) → Option β) : Option β := match m with
  | some (a, w) => f a w
  | none => none
theorem lbd_some {α β : Type} {m : Option (α × (Nat → Int32))} {f : α → (Nat → Int32) → Option β} {r : β} (h : lbd m f = some r) : ∃ a w, m = some (a, w) ∧ f a w = some r := by
  match m, h with
  | some (a, w), h => exact ⟨a, w, rfl, h⟩
def liftR {α : Type} (w : xWt) (k r : Nat) (m : Option (α × (Nat → Int32))) : Option (α × xWt) := match m with
  | some (a, g) => some (a, sRow w k r g)
  | none => none
theorem liftR_some {α : Type} {w w' : xWt} {k r : Nat} {m : Option (α × (Nat → Int32))} {a : α} (h : liftR w k r m = some (a, w')) : ∃ g, m = some (a, g) ∧ w' = sRow w k r g := by
  match m, h with
  | some (a, g), h => cases h; exact ⟨g, rfl, rfl⟩
def zr {β : Type} (x : Int32) (f : Option β) : Option β := if x = 0 ∨ x = 1 then f else none
theorem zr_some {β : Type} {x : Int32} {f : Option β} {r : β} (h : zr x f = some r) : (x = 0 ∨ x = 1) ∧ f = some r := by
  unfold zr at h; split at h
  · exact ⟨by assumption, h⟩
  · cases h
/-- a row's world: the row at h, its array at a, all else as in H0 -/
def LW (G : xG) (H0 : Heap) (h a n : Nat) (f : Nat → Int32) (H : Heap) : Prop := va_at G.1 vwCl (h, .inr (4, [.ref a])) H ∧ va_at G.1 vwCl (a, .inl (G.2.1, n, .inl f)) H ∧ H.size = H0.size ∧ ∀ q : Nat, q ≠ a → H[q]? = H0[q]?
theorem LW.put {G : xG} {H0 : Heap} {h a n : Nat} {f g : Nat → Int32} {H H' : Heap} (hL : LW G H0 h a n f H) (hne : h ≠ a) (z : H'.size = H.size) (oq : ∀ q : Nat, q ≠ a → H'[q]? = H[q]?) (hn : va_at G.1 vwCl (a, .inl (G.2.1, n, .inl g)) H') : LW G H0 h a n g H' :=
  ⟨hL.1.kept (oq h hne), hn, z.trans hL.2.2.1, fun q hq => (oq q hq).trans (hL.2.2.2 q hq)⟩
theorem LW.cw {G : xG} {b k r : Nat} {w : xWt} {H0 H : Heap} {g : Nat → Int32} (h : CW G b w H0) (hv : vr k r) (hL : LW G H0 (ro b k r) (ra b k r) (rl k r) g H) : CW G b (sRow w k r g) H := h.row (Or.inl hv) hL.2.2.2 hL.2.1
theorem ro_ne {b k r : Nat} (hv : vr k r) : ro b k r ≠ ra b k r := by
  unfold vr at hv
  simp only [ra, ro, yb]
  (repeat' split) <;> omega
theorem LW.of {G : xG} {b k r : Nat} {w : xWt} {H : Heap} (h : CW G b w H) (hv : vr k r) : LW G H (ro b k r) (ra b k r) (rl k r) (w.1 k r) H := ⟨h.row0 hv, h.arr (Or.inl hv), rfl, fun _ _ => rfl⟩
end
