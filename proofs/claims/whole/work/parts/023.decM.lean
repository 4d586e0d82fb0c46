theorem dX8_init_0 : decode cX8_init 0 = .ok (.aload_n 0, 1) := by decide +kernel
theorem dX8_init_1 : decode cX8_init 1 = .ok (.invokespecial 1, 3) := by decide +kernel
theorem dX8_init_4 : decode cX8_init 4 = .ok (.aload_n 0, 1) := by decide +kernel
theorem dX8_init_5 : decode cX8_init 5 = .ok (.sipush 817, 3) := by decide +kernel
theorem dX8_init_8 : decode cX8_init 8 = .ok (.newarray .int, 2) := by decide +kernel
theorem dX8_init_10 : decode cX8_init 10 = .ok (.putfield 7, 3) := by decide +kernel
theorem dX8_init_13 : decode cX8_init 13 = .ok (.aload_n 0, 1) := by decide +kernel
theorem dX8_init_14 : decode cX8_init 14 = .ok (.sipush 4902, 3) := by decide +kernel
theorem dX8_init_17 : decode cX8_init 17 = .ok (.newarray .int, 2) := by decide +kernel
theorem dX8_init_19 : decode cX8_init 19 = .ok (.putfield 13, 3) := by decide +kernel
theorem dX8_init_22 : decode cX8_init 22 = .ok (.aload_n 0, 1) := by decide +kernel
theorem dX8_init_23 : decode cX8_init 23 = .ok (.sipush 817, 3) := by decide +kernel
theorem dX8_init_26 : decode cX8_init 26 = .ok (.newarray .int, 2) := by decide +kernel
theorem dX8_init_28 : decode cX8_init 28 = .ok (.putfield 16, 3) := by decide +kernel
theorem dX8_init_31 : decode cX8_init 31 = .ok (.aload_n 0, 1) := by decide +kernel
theorem dX8_init_32 : decode cX8_init 32 = .ok (.bipush 60, 2) := by decide +kernel
theorem dX8_init_34 : decode cX8_init 34 = .ok (.newarray .int, 2) := by decide +kernel
theorem dX8_init_36 : decode cX8_init 36 = .ok (.putfield 19, 3) := by decide +kernel
theorem dX8_init_39 : decode cX8_init 39 = .ok (.aload_n 0, 1) := by decide +kernel
theorem dX8_init_40 : decode cX8_init 40 = .ok (.iconst 5, 1) := by decide +kernel
theorem dX8_init_41 : decode cX8_init 41 = .ok (.newarray .int, 2) := by decide +kernel
theorem dX8_init_43 : decode cX8_init 43 = .ok (.putfield 22, 3) := by decide +kernel
theorem dX8_init_46 : decode cX8_init 46 = .ok (.aload_n 0, 1) := by decide +kernel
theorem dX8_init_47 : decode cX8_init 47 = .ok (.getfield 7, 3) := by decide +kernel
theorem dX8_init_50 : decode cX8_init 50 = .ok (.bipush 8, 2) := by decide +kernel
theorem dX8_init_52 : decode cX8_init 52 = .ok (.iconst 4, 1) := by decide +kernel
theorem dX8_init_53 : decode cX8_init 53 = .ok (.iastore, 1) := by decide +kernel
theorem dX8_init_54 : decode cX8_init 54 = .ok (.iconst 0, 1) := by decide +kernel
theorem dX8_init_55 : decode cX8_init 55 = .ok (.istore_n 1, 1) := by decide +kernel
theorem dX8_init_56 : decode cX8_init 56 = .ok (.iload_n 1, 1) := by decide +kernel
theorem dX8_init_57 : decode cX8_init 57 = .ok (.bipush 12, 2) := by decide +kernel
theorem dX8_init_59 : decode cX8_init 59 = .ok (.if_icmp .ge 19, 3) := by decide +kernel
theorem dX8_init_62 : decode cX8_init 62 = .ok (.aload_n 0, 1) := by decide +kernel
theorem dX8_init_63 : decode cX8_init 63 = .ok (.getfield 7, 3) := by decide +kernel
theorem dX8_init_66 : decode cX8_init 66 = .ok (.bipush 10, 2) := by decide +kernel
theorem dX8_init_68 : decode cX8_init 68 = .ok (.iload_n 1, 1) := by decide +kernel
theorem dX8_init_69 : decode cX8_init 69 = .ok (.iadd, 1) := by decide +kernel
theorem dX8_init_70 : decode cX8_init 70 = .ok (.iconst (-1), 1) := by decide +kernel
theorem dX8_init_71 : decode cX8_init 71 = .ok (.iastore, 1) := by decide +kernel
theorem dX8_init_72 : decode cX8_init 72 = .ok (.iinc 1 1, 3) := by decide +kernel
theorem dX8_init_75 : decode cX8_init 75 = .ok (.goto (-19), 3) := by decide +kernel
theorem dX8_init_78 : decode cX8_init 78 = .ok (.iconst 0, 1) := by decide +kernel
theorem dX8_init_79 : decode cX8_init 79 = .ok (.istore_n 1, 1) := by decide +kernel
theorem dX8_init_80 : decode cX8_init 80 = .ok (.iload_n 1, 1) := by decide +kernel
theorem dX8_init_81 : decode cX8_init 81 = .ok (.iconst 5, 1) := by decide +kernel
theorem dX8_init_82 : decode cX8_init 82 = .ok (.if_icmp .ge 14, 3) := by decide +kernel
theorem dX8_init_85 : decode cX8_init 85 = .ok (.aload_n 0, 1) := by decide +kernel
theorem dX8_init_86 : decode cX8_init 86 = .ok (.iload_n 1, 1) := by decide +kernel
theorem dX8_init_87 : decode cX8_init 87 = .ok (.invokevirtual 25, 3) := by decide +kernel
theorem dX8_init_90 : decode cX8_init 90 = .ok (.iinc 1 1, 3) := by decide +kernel
theorem dX8_init_93 : decode cX8_init 93 = .ok (.goto (-13), 3) := by decide +kernel
theorem dX8_init_96 : decode cX8_init 96 = .ok (.aload_n 0, 1) := by decide +kernel
theorem dX8_init_97 : decode cX8_init 97 = .ok (.iconst 0, 1) := by decide +kernel
theorem dX8_init_98 : decode cX8_init 98 = .ok (.iconst 0, 1) := by decide +kernel
theorem dX8_init_99 : decode cX8_init 99 = .ok (.iconst 1, 1) := by decide +kernel
theorem dX8_init_100 : decode cX8_init 100 = .ok (.invokevirtual 29, 3) := by decide +kernel
theorem dX8_init_103 : decode cX8_init 103 = .ok (.aload_n 0, 1) := by decide +kernel
theorem dX8_init_104 : decode cX8_init 104 = .ok (.iconst 1, 1) := by decide +kernel
theorem dX8_init_105 : decode cX8_init 105 = .ok (.iconst 0, 1) := by decide +kernel
theorem dX8_init_106 : decode cX8_init 106 = .ok (.iconst 1, 1) := by decide +kernel
theorem dX8_init_107 : decode cX8_init 107 = .ok (.invokevirtual 29, 3) := by decide +kernel
theorem dX8_init_110 : decode cX8_init 110 = .ok (.return_, 1) := by decide +kernel
theorem dX8_thrown_0 : decode cX8_thrown 0 = .ok (.aload_n 0, 1) := by decide +kernel
theorem dX8_thrown_1 : decode cX8_thrown 1 = .ok (.getfield 33, 3) := by decide +kernel
theorem dX8_thrown_4 : decode cX8_thrown 4 = .ok (.ireturn, 1) := by decide +kernel
theorem dX8_in_0 : decode cX8_in 0 = .ok (.iload_n 0, 1) := by decide +kernel
theorem dX8_in_1 : decode cX8_in 1 = .ok (.iload_n 1, 1) := by decide +kernel
theorem dX8_in_2 : decode cX8_in 2 = .ok (.if_icmp .lt 12, 3) := by decide +kernel
theorem dX8_in_5 : decode cX8_in 5 = .ok (.iload_n 0, 1) := by decide +kernel
theorem dX8_in_6 : decode cX8_in 6 = .ok (.iload_n 2, 1) := by decide +kernel
theorem dX8_in_7 : decode cX8_in 7 = .ok (.if_icmp .gt 7, 3) := by decide +kernel
theorem dX8_in_10 : decode cX8_in 10 = .ok (.iconst 1, 1) := by decide +kernel
theorem dX8_in_11 : decode cX8_in 11 = .ok (.goto 4, 3) := by decide +kernel
theorem dX8_in_14 : decode cX8_in 14 = .ok (.iconst 0, 1) := by decide +kernel
theorem dX8_in_15 : decode cX8_in 15 = .ok (.ireturn, 1) := by decide +kernel
theorem dX8_of_0 : decode cX8_of 0 = .ok (.aload_n 0, 1) := by decide +kernel
theorem dX8_of_1 : decode cX8_of 1 = .ok (.getfield 7, 3) := by decide +kernel
theorem dX8_of_4 : decode cX8_of 4 = .ok (.bipush 22, 2) := by decide +kernel
theorem dX8_of_6 : decode cX8_of 6 = .ok (.bipush 6, 2) := by decide +kernel
theorem dX8_of_8 : decode cX8_of 8 = .ok (.iload_n 1, 1) := by decide +kernel
theorem dX8_of_9 : decode cX8_of 9 = .ok (.imul, 1) := by decide +kernel
theorem dX8_of_10 : decode cX8_of 10 = .ok (.iadd, 1) := by decide +kernel
theorem dX8_of_11 : decode cX8_of 11 = .ok (.iload_n 2, 1) := by decide +kernel
theorem dX8_of_12 : decode cX8_of 12 = .ok (.iadd, 1) := by decide +kernel
theorem dX8_of_13 : decode cX8_of 13 = .ok (.iaload, 1) := by decide +kernel
theorem dX8_of_14 : decode cX8_of 14 = .ok (.ireturn, 1) := by decide +kernel
theorem dX8_setLeaf_0 : decode cX8_setLeaf 0 = .ok (.aload_n 0, 1) := by decide +kernel
theorem dX8_setLeaf_1 : decode cX8_setLeaf 1 = .ok (.getfield 7, 3) := by decide +kernel
theorem dX8_setLeaf_4 : decode cX8_setLeaf 4 = .ok (.bipush 22, 2) := by decide +kernel
theorem dX8_setLeaf_6 : decode cX8_setLeaf 6 = .ok (.bipush 6, 2) := by decide +kernel
theorem dX8_setLeaf_8 : decode cX8_setLeaf 8 = .ok (.iload_n 1, 1) := by decide +kernel
theorem dX8_setLeaf_9 : decode cX8_setLeaf 9 = .ok (.imul, 1) := by decide +kernel
theorem dX8_setLeaf_10 : decode cX8_setLeaf 10 = .ok (.iadd, 1) := by decide +kernel
theorem dX8_setLeaf_11 : decode cX8_setLeaf 11 = .ok (.iload_n 2, 1) := by decide +kernel
theorem dX8_setLeaf_12 : decode cX8_setLeaf 12 = .ok (.iadd, 1) := by decide +kernel
theorem dX8_setLeaf_13 : decode cX8_setLeaf 13 = .ok (.iload_n 3, 1) := by decide +kernel
theorem dX8_setLeaf_14 : decode cX8_setLeaf 14 = .ok (.iastore, 1) := by decide +kernel
theorem dX8_setLeaf_15 : decode cX8_setLeaf 15 = .ok (.return_, 1) := by decide +kernel
theorem dX8_ofChild_0 : decode cX8_ofChild 0 = .ok (.aload_n 0, 1) := by decide +kernel
theorem dX8_ofChild_1 : decode cX8_ofChild 1 = .ok (.getfield 7, 3) := by decide +kernel
theorem dX8_ofChild_4 : decode cX8_ofChild 4 = .ok (.sipush 742, 3) := by decide +kernel
theorem dX8_ofChild_7 : decode cX8_ofChild 7 = .ok (.bipush 15, 2) := by decide +kernel
theorem dX8_ofChild_9 : decode cX8_ofChild 9 = .ok (.iload_n 1, 1) := by decide +kernel
theorem dX8_ofChild_10 : decode cX8_ofChild 10 = .ok (.imul, 1) := by decide +kernel
theorem dX8_ofChild_11 : decode cX8_ofChild 11 = .ok (.iadd, 1) := by decide +kernel
theorem dX8_ofChild_12 : decode cX8_ofChild 12 = .ok (.iload_n 2, 1) := by decide +kernel
theorem dX8_ofChild_13 : decode cX8_ofChild 13 = .ok (.iadd, 1) := by decide +kernel
theorem dX8_ofChild_14 : decode cX8_ofChild 14 = .ok (.iaload, 1) := by decide +kernel
theorem dX8_ofChild_15 : decode cX8_ofChild 15 = .ok (.ireturn, 1) := by decide +kernel
theorem dX8_setChild_0 : decode cX8_setChild 0 = .ok (.aload_n 0, 1) := by decide +kernel
theorem dX8_setChild_1 : decode cX8_setChild 1 = .ok (.getfield 7, 3) := by decide +kernel
theorem dX8_setChild_4 : decode cX8_setChild 4 = .ok (.sipush 742, 3) := by decide +kernel
theorem dX8_setChild_7 : decode cX8_setChild 7 = .ok (.bipush 15, 2) := by decide +kernel
theorem dX8_setChild_9 : decode cX8_setChild 9 = .ok (.iload_n 1, 1) := by decide +kernel
theorem dX8_setChild_10 : decode cX8_setChild 10 = .ok (.imul, 1) := by decide +kernel
theorem dX8_setChild_11 : decode cX8_setChild 11 = .ok (.iadd, 1) := by decide +kernel
theorem dX8_setChild_12 : decode cX8_setChild 12 = .ok (.iload_n 2, 1) := by decide +kernel
theorem dX8_setChild_13 : decode cX8_setChild 13 = .ok (.iadd, 1) := by decide +kernel
theorem dX8_setChild_14 : decode cX8_setChild 14 = .ok (.iload_n 3, 1) := by decide +kernel
theorem dX8_setChild_15 : decode cX8_setChild 15 = .ok (.iastore, 1) := by decide +kernel
theorem dX8_setChild_16 : decode cX8_setChild 16 = .ok (.return_, 1) := by decide +kernel
theorem dX8_ofHook_0 : decode cX8_ofHook 0 = .ok (.aload_n 0, 1) := by decide +kernel
theorem dX8_ofHook_1 : decode cX8_ofHook 1 = .ok (.iload_n 1, 1) := by decide +kernel
theorem dX8_ofHook_2 : decode cX8_ofHook 2 = .ok (.bipush 6, 2) := by decide +kernel
theorem dX8_ofHook_4 : decode cX8_ofHook 4 = .ok (.iconst 3, 1) := by decide +kernel
theorem dX8_ofHook_5 : decode cX8_ofHook 5 = .ok (.iload_n 2, 1) := by decide +kernel
theorem dX8_ofHook_6 : decode cX8_ofHook 6 = .ok (.imul, 1) := by decide +kernel
theorem dX8_ofHook_7 : decode cX8_ofHook 7 = .ok (.iadd, 1) := by decide +kernel
theorem dX8_ofHook_8 : decode cX8_ofHook 8 = .ok (.iload_n 3, 1) := by decide +kernel
theorem dX8_ofHook_9 : decode cX8_ofHook 9 = .ok (.iadd, 1) := by decide +kernel
theorem dX8_ofHook_10 : decode cX8_ofHook 10 = .ok (.invokevirtual 37, 3) := by decide +kernel
theorem dX8_ofHook_13 : decode cX8_ofHook 13 = .ok (.ireturn, 1) := by decide +kernel
theorem dX8_setHook_0 : decode cX8_setHook 0 = .ok (.aload_n 0, 1) := by decide +kernel
theorem dX8_setHook_1 : decode cX8_setHook 1 = .ok (.iload_n 1, 1) := by decide +kernel
theorem dX8_setHook_2 : decode cX8_setHook 2 = .ok (.bipush 6, 2) := by decide +kernel
theorem dX8_setHook_4 : decode cX8_setHook 4 = .ok (.iconst 3, 1) := by decide +kernel
theorem dX8_setHook_5 : decode cX8_setHook 5 = .ok (.iload_n 2, 1) := by decide +kernel
theorem dX8_setHook_6 : decode cX8_setHook 6 = .ok (.imul, 1) := by decide +kernel
theorem dX8_setHook_7 : decode cX8_setHook 7 = .ok (.iadd, 1) := by decide +kernel
theorem dX8_setHook_8 : decode cX8_setHook 8 = .ok (.iconst 0, 1) := by decide +kernel
theorem dX8_setHook_9 : decode cX8_setHook 9 = .ok (.iadd, 1) := by decide +kernel
theorem dX8_setHook_10 : decode cX8_setHook 10 = .ok (.iload_n 3, 1) := by decide +kernel
theorem dX8_setHook_11 : decode cX8_setHook 11 = .ok (.invokevirtual 29, 3) := by decide +kernel
theorem dX8_setHook_14 : decode cX8_setHook 14 = .ok (.aload_n 0, 1) := by decide +kernel
theorem dX8_setHook_15 : decode cX8_setHook 15 = .ok (.iload_n 1, 1) := by decide +kernel
theorem dX8_setHook_16 : decode cX8_setHook 16 = .ok (.bipush 6, 2) := by decide +kernel
theorem dX8_setHook_18 : decode cX8_setHook 18 = .ok (.iconst 3, 1) := by decide +kernel
theorem dX8_setHook_19 : decode cX8_setHook 19 = .ok (.iload_n 2, 1) := by decide +kernel
theorem dX8_setHook_20 : decode cX8_setHook 20 = .ok (.imul, 1) := by decide +kernel
theorem dX8_setHook_21 : decode cX8_setHook 21 = .ok (.iadd, 1) := by decide +kernel
theorem dX8_setHook_22 : decode cX8_setHook 22 = .ok (.iconst 1, 1) := by decide +kernel
theorem dX8_setHook_23 : decode cX8_setHook 23 = .ok (.iadd, 1) := by decide +kernel
theorem dX8_setHook_24 : decode cX8_setHook 24 = .ok (.iload 4, 2) := by decide +kernel
theorem dX8_setHook_26 : decode cX8_setHook 26 = .ok (.invokevirtual 29, 3) := by decide +kernel
theorem dX8_setHook_29 : decode cX8_setHook 29 = .ok (.aload_n 0, 1) := by decide +kernel
theorem dX8_setHook_30 : decode cX8_setHook 30 = .ok (.iload_n 1, 1) := by decide +kernel
theorem dX8_setHook_31 : decode cX8_setHook 31 = .ok (.bipush 6, 2) := by decide +kernel
theorem dX8_setHook_33 : decode cX8_setHook 33 = .ok (.iconst 3, 1) := by decide +kernel
theorem dX8_setHook_34 : decode cX8_setHook 34 = .ok (.iload_n 2, 1) := by decide +kernel
theorem dX8_setHook_35 : decode cX8_setHook 35 = .ok (.imul, 1) := by decide +kernel
theorem dX8_setHook_36 : decode cX8_setHook 36 = .ok (.iadd, 1) := by decide +kernel
theorem dX8_setHook_37 : decode cX8_setHook 37 = .ok (.iconst 2, 1) := by decide +kernel
theorem dX8_setHook_38 : decode cX8_setHook 38 = .ok (.iadd, 1) := by decide +kernel
theorem dX8_setHook_39 : decode cX8_setHook 39 = .ok (.iload 5, 2) := by decide +kernel
theorem dX8_setHook_41 : decode cX8_setHook 41 = .ok (.invokevirtual 29, 3) := by decide +kernel
theorem dX8_setHook_44 : decode cX8_setHook 44 = .ok (.return_, 1) := by decide +kernel
theorem dX8_emptyHooks_0 : decode cX8_emptyHooks 0 = .ok (.iconst 0, 1) := by decide +kernel
theorem dX8_emptyHooks_1 : decode cX8_emptyHooks 1 = .ok (.istore_n 2, 1) := by decide +kernel
theorem dX8_emptyHooks_2 : decode cX8_emptyHooks 2 = .ok (.iload_n 2, 1) := by decide +kernel
theorem dX8_emptyHooks_3 : decode cX8_emptyHooks 3 = .ok (.iconst 3, 1) := by decide +kernel
theorem dX8_emptyHooks_4 : decode cX8_emptyHooks 4 = .ok (.if_icmp .ge 18, 3) := by decide +kernel
theorem dX8_emptyHooks_7 : decode cX8_emptyHooks 7 = .ok (.aload_n 0, 1) := by decide +kernel
theorem dX8_emptyHooks_8 : decode cX8_emptyHooks 8 = .ok (.iload_n 1, 1) := by decide +kernel
theorem dX8_emptyHooks_9 : decode cX8_emptyHooks 9 = .ok (.iload_n 2, 1) := by decide +kernel
theorem dX8_emptyHooks_10 : decode cX8_emptyHooks 10 = .ok (.iconst 0, 1) := by decide +kernel
theorem dX8_emptyHooks_11 : decode cX8_emptyHooks 11 = .ok (.iconst (-1), 1) := by decide +kernel
theorem dX8_emptyHooks_12 : decode cX8_emptyHooks 12 = .ok (.iconst (-1), 1) := by decide +kernel
theorem dX8_emptyHooks_13 : decode cX8_emptyHooks 13 = .ok (.invokevirtual 41, 3) := by decide +kernel
theorem dX8_emptyHooks_16 : decode cX8_emptyHooks 16 = .ok (.iinc 2 1, 3) := by decide +kernel
theorem dX8_emptyHooks_19 : decode cX8_emptyHooks 19 = .ok (.goto (-17), 3) := by decide +kernel
theorem dX8_emptyHooks_22 : decode cX8_emptyHooks 22 = .ok (.return_, 1) := by decide +kernel
theorem dX8_clearChild_0 : decode cX8_clearChild 0 = .ok (.iconst 0, 1) := by decide +kernel
theorem dX8_clearChild_1 : decode cX8_clearChild 1 = .ok (.istore_n 2, 1) := by decide +kernel
theorem dX8_clearChild_2 : decode cX8_clearChild 2 = .ok (.iload_n 2, 1) := by decide +kernel
theorem dX8_clearChild_3 : decode cX8_clearChild 3 = .ok (.bipush 6, 2) := by decide +kernel
theorem dX8_clearChild_5 : decode cX8_clearChild 5 = .ok (.if_icmp .ge 16, 3) := by decide +kernel
theorem dX8_clearChild_8 : decode cX8_clearChild 8 = .ok (.aload_n 0, 1) := by decide +kernel
theorem dX8_clearChild_9 : decode cX8_clearChild 9 = .ok (.iload_n 1, 1) := by decide +kernel
theorem dX8_clearChild_10 : decode cX8_clearChild 10 = .ok (.iload_n 2, 1) := by decide +kernel
theorem dX8_clearChild_11 : decode cX8_clearChild 11 = .ok (.iconst 0, 1) := by decide +kernel
theorem dX8_clearChild_12 : decode cX8_clearChild 12 = .ok (.invokevirtual 29, 3) := by decide +kernel
theorem dX8_clearChild_15 : decode cX8_clearChild 15 = .ok (.iinc 2 1, 3) := by decide +kernel
theorem dX8_clearChild_18 : decode cX8_clearChild 18 = .ok (.goto (-16), 3) := by decide +kernel
theorem dX8_clearChild_21 : decode cX8_clearChild 21 = .ok (.aload_n 0, 1) := by decide +kernel
theorem dX8_clearChild_22 : decode cX8_clearChild 22 = .ok (.iload_n 1, 1) := by decide +kernel
theorem dX8_clearChild_23 : decode cX8_clearChild 23 = .ok (.iconst 2, 1) := by decide +kernel
theorem dX8_clearChild_24 : decode cX8_clearChild 24 = .ok (.iconst (-1), 1) := by decide +kernel
theorem dX8_clearChild_25 : decode cX8_clearChild 25 = .ok (.invokevirtual 29, 3) := by decide +kernel
theorem dX8_clearChild_28 : decode cX8_clearChild 28 = .ok (.aload_n 0, 1) := by decide +kernel
theorem dX8_clearChild_29 : decode cX8_clearChild 29 = .ok (.iload_n 1, 1) := by decide +kernel
theorem dX8_clearChild_30 : decode cX8_clearChild 30 = .ok (.invokevirtual 45, 3) := by decide +kernel
theorem dX8_clearChild_33 : decode cX8_clearChild 33 = .ok (.return_, 1) := by decide +kernel
theorem dX8_isChild_0 : decode cX8_isChild 0 = .ok (.iload_n 1, 1) := by decide +kernel
theorem dX8_isChild_1 : decode cX8_isChild 1 = .ok (.iconst 0, 1) := by decide +kernel
theorem dX8_isChild_2 : decode cX8_isChild 2 = .ok (.iconst 4, 1) := by decide +kernel
theorem dX8_isChild_3 : decode cX8_isChild 3 = .ok (.invokestatic 48, 3) := by decide +kernel
theorem dX8_isChild_6 : decode cX8_isChild 6 = .ok (.ifCond .eq 17, 3) := by decide +kernel
theorem dX8_isChild_9 : decode cX8_isChild 9 = .ok (.aload_n 0, 1) := by decide +kernel
theorem dX8_isChild_10 : decode cX8_isChild 10 = .ok (.iload_n 1, 1) := by decide +kernel
theorem dX8_isChild_11 : decode cX8_isChild 11 = .ok (.iconst 0, 1) := by decide +kernel
theorem dX8_isChild_12 : decode cX8_isChild 12 = .ok (.invokevirtual 37, 3) := by decide +kernel
theorem dX8_isChild_15 : decode cX8_isChild 15 = .ok (.iconst 1, 1) := by decide +kernel
theorem dX8_isChild_16 : decode cX8_isChild 16 = .ok (.if_icmp .ne 7, 3) := by decide +kernel
theorem dX8_isChild_19 : decode cX8_isChild 19 = .ok (.iconst 1, 1) := by decide +kernel
theorem dX8_isChild_20 : decode cX8_isChild 20 = .ok (.goto 4, 3) := by decide +kernel
theorem dX8_isChild_23 : decode cX8_isChild 23 = .ok (.iconst 0, 1) := by decide +kernel
theorem dX8_isChild_24 : decode cX8_isChild 24 = .ok (.ireturn, 1) := by decide +kernel
theorem dX8_isHook_0 : decode cX8_isHook 0 = .ok (.iload_n 0, 1) := by decide +kernel
theorem dX8_isHook_1 : decode cX8_isHook 1 = .ok (.iconst 0, 1) := by decide +kernel
theorem dX8_isHook_2 : decode cX8_isHook 2 = .ok (.iconst 2, 1) := by decide +kernel
theorem dX8_isHook_3 : decode cX8_isHook 3 = .ok (.invokestatic 48, 3) := by decide +kernel
theorem dX8_isHook_6 : decode cX8_isHook 6 = .ok (.ireturn, 1) := by decide +kernel
theorem dX8_isBranch_0 : decode cX8_isBranch 0 = .ok (.iload_n 0, 1) := by decide +kernel
theorem dX8_isBranch_1 : decode cX8_isBranch 1 = .ok (.iconst 0, 1) := by decide +kernel
theorem dX8_isBranch_2 : decode cX8_isBranch 2 = .ok (.bipush 11, 2) := by decide +kernel
theorem dX8_isBranch_4 : decode cX8_isBranch 4 = .ok (.invokestatic 48, 3) := by decide +kernel
theorem dX8_isBranch_7 : decode cX8_isBranch 7 = .ok (.ireturn, 1) := by decide +kernel
theorem dX8_isColour_0 : decode cX8_isColour 0 = .ok (.iload_n 0, 1) := by decide +kernel
theorem dX8_isColour_1 : decode cX8_isColour 1 = .ok (.iconst 0, 1) := by decide +kernel
theorem dX8_isColour_2 : decode cX8_isColour 2 = .ok (.bipush 9, 2) := by decide +kernel
theorem dX8_isColour_4 : decode cX8_isColour 4 = .ok (.invokestatic 48, 3) := by decide +kernel
theorem dX8_isColour_7 : decode cX8_isColour 7 = .ok (.ireturn, 1) := by decide +kernel
theorem dX8_isLeaf_0 : decode cX8_isLeaf 0 = .ok (.iload_n 1, 1) := by decide +kernel
theorem dX8_isLeaf_1 : decode cX8_isLeaf 1 = .ok (.iconst 0, 1) := by decide +kernel
theorem dX8_isLeaf_2 : decode cX8_isLeaf 2 = .ok (.aload_n 0, 1) := by decide +kernel
theorem dX8_isLeaf_3 : decode cX8_isLeaf 3 = .ok (.getfield 7, 3) := by decide +kernel
theorem dX8_isLeaf_6 : decode cX8_isLeaf 6 = .ok (.iconst 1, 1) := by decide +kernel
theorem dX8_isLeaf_7 : decode cX8_isLeaf 7 = .ok (.iaload, 1) := by decide +kernel
theorem dX8_isLeaf_8 : decode cX8_isLeaf 8 = .ok (.iconst 1, 1) := by decide +kernel
theorem dX8_isLeaf_9 : decode cX8_isLeaf 9 = .ok (.isub, 1) := by decide +kernel
theorem dX8_isLeaf_10 : decode cX8_isLeaf 10 = .ok (.invokestatic 48, 3) := by decide +kernel
theorem dX8_isLeaf_13 : decode cX8_isLeaf 13 = .ok (.ireturn, 1) := by decide +kernel
theorem dX8_isInYard_0 : decode cX8_isInYard 0 = .ok (.aload_n 0, 1) := by decide +kernel
theorem dX8_isInYard_1 : decode cX8_isInYard 1 = .ok (.iload_n 1, 1) := by decide +kernel
theorem dX8_isInYard_2 : decode cX8_isInYard 2 = .ok (.iconst 1, 1) := by decide +kernel
theorem dX8_isInYard_3 : decode cX8_isInYard 3 = .ok (.invokevirtual 37, 3) := by decide +kernel
theorem dX8_isInYard_6 : decode cX8_isInYard 6 = .ok (.iconst 1, 1) := by decide +kernel
theorem dX8_isInYard_7 : decode cX8_isInYard 7 = .ok (.if_icmp .ne 7, 3) := by decide +kernel
theorem dX8_isInYard_10 : decode cX8_isInYard 10 = .ok (.iconst 1, 1) := by decide +kernel
theorem dX8_isInYard_11 : decode cX8_isInYard 11 = .ok (.goto 4, 3) := by decide +kernel
theorem dX8_isInYard_14 : decode cX8_isInYard 14 = .ok (.iconst 0, 1) := by decide +kernel
theorem dX8_isInYard_15 : decode cX8_isInYard 15 = .ok (.ireturn, 1) := by decide +kernel
theorem dX8_children_0 : decode cX8_children 0 = .ok (.iconst 0, 1) := by decide +kernel
theorem dX8_children_1 : decode cX8_children 1 = .ok (.istore_n 1, 1) := by decide +kernel
theorem dX8_children_2 : decode cX8_children 2 = .ok (.iconst 0, 1) := by decide +kernel
theorem dX8_children_3 : decode cX8_children 3 = .ok (.istore_n 2, 1) := by decide +kernel
theorem dX8_children_4 : decode cX8_children 4 = .ok (.iload_n 2, 1) := by decide +kernel
theorem dX8_children_5 : decode cX8_children 5 = .ok (.iconst 5, 1) := by decide +kernel
theorem dX8_children_6 : decode cX8_children 6 = .ok (.if_icmp .ge 18, 3) := by decide +kernel
theorem dX8_children_9 : decode cX8_children 9 = .ok (.iload_n 1, 1) := by decide +kernel
theorem dX8_children_10 : decode cX8_children 10 = .ok (.aload_n 0, 1) := by decide +kernel
theorem dX8_children_11 : decode cX8_children 11 = .ok (.iload_n 2, 1) := by decide +kernel
theorem dX8_children_12 : decode cX8_children 12 = .ok (.iconst 0, 1) := by decide +kernel
theorem dX8_children_13 : decode cX8_children 13 = .ok (.invokevirtual 37, 3) := by decide +kernel
theorem dX8_children_16 : decode cX8_children 16 = .ok (.iadd, 1) := by decide +kernel
theorem dX8_children_17 : decode cX8_children 17 = .ok (.istore_n 1, 1) := by decide +kernel
theorem dX8_children_18 : decode cX8_children 18 = .ok (.iinc 2 1, 3) := by decide +kernel
theorem dX8_children_21 : decode cX8_children 21 = .ok (.goto (-17), 3) := by decide +kernel
theorem dX8_children_24 : decode cX8_children 24 = .ok (.iload_n 1, 1) := by decide +kernel
theorem dX8_children_25 : decode cX8_children 25 = .ok (.ireturn, 1) := by decide +kernel
theorem dX8_hooksOf_0 : decode cX8_hooksOf 0 = .ok (.iconst 0, 1) := by decide +kernel
theorem dX8_hooksOf_1 : decode cX8_hooksOf 1 = .ok (.istore_n 3, 1) := by decide +kernel
theorem dX8_hooksOf_2 : decode cX8_hooksOf 2 = .ok (.iconst 0, 1) := by decide +kernel
theorem dX8_hooksOf_3 : decode cX8_hooksOf 3 = .ok (.istore 4, 2) := by decide +kernel
theorem dX8_hooksOf_5 : decode cX8_hooksOf 5 = .ok (.iload 4, 2) := by decide +kernel
theorem dX8_hooksOf_7 : decode cX8_hooksOf 7 = .ok (.iconst 3, 1) := by decide +kernel
theorem dX8_hooksOf_8 : decode cX8_hooksOf 8 = .ok (.if_icmp .ge 29, 3) := by decide +kernel
theorem dX8_hooksOf_11 : decode cX8_hooksOf 11 = .ok (.iload_n 3, 1) := by decide +kernel
theorem dX8_hooksOf_12 : decode cX8_hooksOf 12 = .ok (.aload_n 0, 1) := by decide +kernel
theorem dX8_hooksOf_13 : decode cX8_hooksOf 13 = .ok (.iload_n 1, 1) := by decide +kernel
theorem dX8_hooksOf_14 : decode cX8_hooksOf 14 = .ok (.iload 4, 2) := by decide +kernel
theorem dX8_hooksOf_16 : decode cX8_hooksOf 16 = .ok (.iconst 0, 1) := by decide +kernel
theorem dX8_hooksOf_17 : decode cX8_hooksOf 17 = .ok (.invokevirtual 52, 3) := by decide +kernel
theorem dX8_hooksOf_20 : decode cX8_hooksOf 20 = .ok (.iload_n 2, 1) := by decide +kernel
theorem dX8_hooksOf_21 : decode cX8_hooksOf 21 = .ok (.if_icmp .ne 7, 3) := by decide +kernel
theorem dX8_hooksOf_24 : decode cX8_hooksOf 24 = .ok (.iconst 1, 1) := by decide +kernel
theorem dX8_hooksOf_25 : decode cX8_hooksOf 25 = .ok (.goto 4, 3) := by decide +kernel
theorem dX8_hooksOf_28 : decode cX8_hooksOf 28 = .ok (.iconst 0, 1) := by decide +kernel
theorem dX8_hooksOf_29 : decode cX8_hooksOf 29 = .ok (.iadd, 1) := by decide +kernel
theorem dX8_hooksOf_30 : decode cX8_hooksOf 30 = .ok (.istore_n 3, 1) := by decide +kernel
theorem dX8_hooksOf_31 : decode cX8_hooksOf 31 = .ok (.iinc 4 1, 3) := by decide +kernel
theorem dX8_hooksOf_34 : decode cX8_hooksOf 34 = .ok (.goto (-29), 3) := by decide +kernel
theorem dX8_hooksOf_37 : decode cX8_hooksOf 37 = .ok (.iload_n 3, 1) := by decide +kernel
theorem dX8_hooksOf_38 : decode cX8_hooksOf 38 = .ok (.ireturn, 1) := by decide +kernel
theorem dX8_hooksOn_0 : decode cX8_hooksOn 0 = .ok (.iconst 0, 1) := by decide +kernel
theorem dX8_hooksOn_1 : decode cX8_hooksOn 1 = .ok (.istore_n 3, 1) := by decide +kernel
theorem dX8_hooksOn_2 : decode cX8_hooksOn 2 = .ok (.iconst 0, 1) := by decide +kernel
theorem dX8_hooksOn_3 : decode cX8_hooksOn 3 = .ok (.istore 4, 2) := by decide +kernel
theorem dX8_hooksOn_5 : decode cX8_hooksOn 5 = .ok (.iload 4, 2) := by decide +kernel
theorem dX8_hooksOn_7 : decode cX8_hooksOn 7 = .ok (.iconst 5, 1) := by decide +kernel
theorem dX8_hooksOn_8 : decode cX8_hooksOn 8 = .ok (.if_icmp .ge 58, 3) := by decide +kernel
theorem dX8_hooksOn_11 : decode cX8_hooksOn 11 = .ok (.iconst 0, 1) := by decide +kernel
theorem dX8_hooksOn_12 : decode cX8_hooksOn 12 = .ok (.istore 5, 2) := by decide +kernel
theorem dX8_hooksOn_14 : decode cX8_hooksOn 14 = .ok (.iload 5, 2) := by decide +kernel
theorem dX8_hooksOn_16 : decode cX8_hooksOn 16 = .ok (.iconst 3, 1) := by decide +kernel
theorem dX8_hooksOn_17 : decode cX8_hooksOn 17 = .ok (.if_icmp .ge 43, 3) := by decide +kernel
theorem dX8_hooksOn_20 : decode cX8_hooksOn 20 = .ok (.iload_n 3, 1) := by decide +kernel
theorem dX8_hooksOn_21 : decode cX8_hooksOn 21 = .ok (.aload_n 0, 1) := by decide +kernel
theorem dX8_hooksOn_22 : decode cX8_hooksOn 22 = .ok (.iload 4, 2) := by decide +kernel
theorem dX8_hooksOn_24 : decode cX8_hooksOn 24 = .ok (.iload 5, 2) := by decide +kernel
theorem dX8_hooksOn_26 : decode cX8_hooksOn 26 = .ok (.iconst 0, 1) := by decide +kernel
theorem dX8_hooksOn_27 : decode cX8_hooksOn 27 = .ok (.invokevirtual 52, 3) := by decide +kernel
theorem dX8_hooksOn_30 : decode cX8_hooksOn 30 = .ok (.iload_n 2, 1) := by decide +kernel
theorem dX8_hooksOn_31 : decode cX8_hooksOn 31 = .ok (.if_icmp .ne 20, 3) := by decide +kernel
theorem dX8_hooksOn_34 : decode cX8_hooksOn 34 = .ok (.aload_n 0, 1) := by decide +kernel
theorem dX8_hooksOn_35 : decode cX8_hooksOn 35 = .ok (.iload 4, 2) := by decide +kernel
theorem dX8_hooksOn_37 : decode cX8_hooksOn 37 = .ok (.iload 5, 2) := by decide +kernel
theorem dX8_hooksOn_39 : decode cX8_hooksOn 39 = .ok (.iconst 1, 1) := by decide +kernel
theorem dX8_hooksOn_40 : decode cX8_hooksOn 40 = .ok (.invokevirtual 52, 3) := by decide +kernel
theorem dX8_hooksOn_43 : decode cX8_hooksOn 43 = .ok (.iload_n 1, 1) := by decide +kernel
theorem dX8_hooksOn_44 : decode cX8_hooksOn 44 = .ok (.if_icmp .ne 7, 3) := by decide +kernel
theorem dX8_hooksOn_47 : decode cX8_hooksOn 47 = .ok (.iconst 1, 1) := by decide +kernel
theorem dX8_hooksOn_48 : decode cX8_hooksOn 48 = .ok (.goto 4, 3) := by decide +kernel
theorem dX8_hooksOn_51 : decode cX8_hooksOn 51 = .ok (.iconst 0, 1) := by decide +kernel
theorem dX8_hooksOn_52 : decode cX8_hooksOn 52 = .ok (.iadd, 1) := by decide +kernel
theorem dX8_hooksOn_53 : decode cX8_hooksOn 53 = .ok (.istore_n 3, 1) := by decide +kernel
theorem dX8_hooksOn_54 : decode cX8_hooksOn 54 = .ok (.iinc 5 1, 3) := by decide +kernel
theorem dX8_hooksOn_57 : decode cX8_hooksOn 57 = .ok (.goto (-43), 3) := by decide +kernel
theorem dX8_hooksOn_60 : decode cX8_hooksOn 60 = .ok (.iinc 4 1, 3) := by decide +kernel
theorem dX8_hooksOn_63 : decode cX8_hooksOn 63 = .ok (.goto (-58), 3) := by decide +kernel
theorem dX8_hooksOn_66 : decode cX8_hooksOn 66 = .ok (.iload_n 3, 1) := by decide +kernel
theorem dX8_hooksOn_67 : decode cX8_hooksOn 67 = .ok (.ireturn, 1) := by decide +kernel
theorem dX8_holders_0 : decode cX8_holders 0 = .ok (.iconst 0, 1) := by decide +kernel
theorem dX8_holders_1 : decode cX8_holders 1 = .ok (.istore_n 3, 1) := by decide +kernel
theorem dX8_holders_2 : decode cX8_holders 2 = .ok (.iconst 0, 1) := by decide +kernel
theorem dX8_holders_3 : decode cX8_holders 3 = .ok (.istore 4, 2) := by decide +kernel
theorem dX8_holders_5 : decode cX8_holders 5 = .ok (.iload 4, 2) := by decide +kernel
theorem dX8_holders_7 : decode cX8_holders 7 = .ok (.iconst 5, 1) := by decide +kernel
theorem dX8_holders_8 : decode cX8_holders 8 = .ok (.if_icmp .ge 79, 3) := by decide +kernel
theorem dX8_holders_11 : decode cX8_holders 11 = .ok (.iconst 0, 1) := by decide +kernel
theorem dX8_holders_12 : decode cX8_holders 12 = .ok (.istore 5, 2) := by decide +kernel
theorem dX8_holders_14 : decode cX8_holders 14 = .ok (.iload 5, 2) := by decide +kernel
theorem dX8_holders_16 : decode cX8_holders 16 = .ok (.iconst 3, 1) := by decide +kernel
theorem dX8_holders_17 : decode cX8_holders 17 = .ok (.if_icmp .ge 64, 3) := by decide +kernel
theorem dX8_holders_20 : decode cX8_holders 20 = .ok (.iload 4, 2) := by decide +kernel
theorem dX8_holders_22 : decode cX8_holders 22 = .ok (.iload_n 2, 1) := by decide +kernel
theorem dX8_holders_23 : decode cX8_holders 23 = .ok (.if_icmp .eq 33, 3) := by decide +kernel
theorem dX8_holders_26 : decode cX8_holders 26 = .ok (.aload_n 0, 1) := by decide +kernel
theorem dX8_holders_27 : decode cX8_holders 27 = .ok (.iload 4, 2) := by decide +kernel
theorem dX8_holders_29 : decode cX8_holders 29 = .ok (.iload 5, 2) := by decide +kernel
theorem dX8_holders_31 : decode cX8_holders 31 = .ok (.iconst 0, 1) := by decide +kernel
theorem dX8_holders_32 : decode cX8_holders 32 = .ok (.invokevirtual 52, 3) := by decide +kernel
theorem dX8_holders_35 : decode cX8_holders 35 = .ok (.iconst 2, 1) := by decide +kernel
theorem dX8_holders_36 : decode cX8_holders 36 = .ok (.if_icmp .ne 20, 3) := by decide +kernel
theorem dX8_holders_39 : decode cX8_holders 39 = .ok (.aload_n 0, 1) := by decide +kernel
theorem dX8_holders_40 : decode cX8_holders 40 = .ok (.iload 4, 2) := by decide +kernel
theorem dX8_holders_42 : decode cX8_holders 42 = .ok (.iload 5, 2) := by decide +kernel
theorem dX8_holders_44 : decode cX8_holders 44 = .ok (.iconst 1, 1) := by decide +kernel
theorem dX8_holders_45 : decode cX8_holders 45 = .ok (.invokevirtual 52, 3) := by decide +kernel
theorem dX8_holders_48 : decode cX8_holders 48 = .ok (.iload_n 1, 1) := by decide +kernel
theorem dX8_holders_49 : decode cX8_holders 49 = .ok (.if_icmp .ne 7, 3) := by decide +kernel
theorem dX8_holders_52 : decode cX8_holders 52 = .ok (.iconst 1, 1) := by decide +kernel
theorem dX8_holders_53 : decode cX8_holders 53 = .ok (.goto 4, 3) := by decide +kernel
theorem dX8_holders_56 : decode cX8_holders 56 = .ok (.iconst 0, 1) := by decide +kernel
theorem dX8_holders_57 : decode cX8_holders 57 = .ok (.istore 6, 2) := by decide +kernel
theorem dX8_holders_59 : decode cX8_holders 59 = .ok (.iload_n 3, 1) := by decide +kernel
theorem dX8_holders_60 : decode cX8_holders 60 = .ok (.iload 6, 2) := by decide +kernel
theorem dX8_holders_62 : decode cX8_holders 62 = .ok (.ifCond .eq 10, 3) := by decide +kernel
theorem dX8_holders_65 : decode cX8_holders 65 = .ok (.iconst 1, 1) := by decide +kernel
theorem dX8_holders_66 : decode cX8_holders 66 = .ok (.iload 4, 2) := by decide +kernel
theorem dX8_holders_68 : decode cX8_holders 68 = .ok (.ishl, 1) := by decide +kernel
theorem dX8_holders_69 : decode cX8_holders 69 = .ok (.goto 4, 3) := by decide +kernel
theorem dX8_holders_72 : decode cX8_holders 72 = .ok (.iconst 0, 1) := by decide +kernel
theorem dX8_holders_73 : decode cX8_holders 73 = .ok (.ior, 1) := by decide +kernel
theorem dX8_holders_74 : decode cX8_holders 74 = .ok (.istore_n 3, 1) := by decide +kernel
theorem dX8_holders_75 : decode cX8_holders 75 = .ok (.iinc 5 1, 3) := by decide +kernel
theorem dX8_holders_78 : decode cX8_holders 78 = .ok (.goto (-64), 3) := by decide +kernel
theorem dX8_holders_81 : decode cX8_holders 81 = .ok (.iinc 4 1, 3) := by decide +kernel
theorem dX8_holders_84 : decode cX8_holders 84 = .ok (.goto (-79), 3) := by decide +kernel
theorem dX8_holders_87 : decode cX8_holders 87 = .ok (.iload_n 3, 1) := by decide +kernel
theorem dX8_holders_88 : decode cX8_holders 88 = .ok (.ireturn, 1) := by decide +kernel
theorem dX8_leavesAt_0 : decode cX8_leavesAt 0 = .ok (.iconst 0, 1) := by decide +kernel
theorem dX8_leavesAt_1 : decode cX8_leavesAt 1 = .ok (.istore_n 2, 1) := by decide +kernel
theorem dX8_leavesAt_2 : decode cX8_leavesAt 2 = .ok (.iconst 0, 1) := by decide +kernel
theorem dX8_leavesAt_3 : decode cX8_leavesAt 3 = .ok (.istore_n 3, 1) := by decide +kernel
theorem dX8_leavesAt_4 : decode cX8_leavesAt 4 = .ok (.iload_n 3, 1) := by decide +kernel
theorem dX8_leavesAt_5 : decode cX8_leavesAt 5 = .ok (.aload_n 0, 1) := by decide +kernel
theorem dX8_leavesAt_6 : decode cX8_leavesAt 6 = .ok (.getfield 7, 3) := by decide +kernel
theorem dX8_leavesAt_9 : decode cX8_leavesAt 9 = .ok (.iconst 1, 1) := by decide +kernel
theorem dX8_leavesAt_10 : decode cX8_leavesAt 10 = .ok (.iaload, 1) := by decide +kernel
theorem dX8_leavesAt_11 : decode cX8_leavesAt 11 = .ok (.if_icmp .ge 27, 3) := by decide +kernel
theorem dX8_leavesAt_14 : decode cX8_leavesAt 14 = .ok (.iload_n 2, 1) := by decide +kernel
theorem dX8_leavesAt_15 : decode cX8_leavesAt 15 = .ok (.aload_n 0, 1) := by decide +kernel
theorem dX8_leavesAt_16 : decode cX8_leavesAt 16 = .ok (.iload_n 3, 1) := by decide +kernel
theorem dX8_leavesAt_17 : decode cX8_leavesAt 17 = .ok (.iconst 1, 1) := by decide +kernel
theorem dX8_leavesAt_18 : decode cX8_leavesAt 18 = .ok (.invokevirtual 56, 3) := by decide +kernel
theorem dX8_leavesAt_21 : decode cX8_leavesAt 21 = .ok (.iload_n 1, 1) := by decide +kernel
theorem dX8_leavesAt_22 : decode cX8_leavesAt 22 = .ok (.if_icmp .ne 7, 3) := by decide +kernel
theorem dX8_leavesAt_25 : decode cX8_leavesAt 25 = .ok (.iconst 1, 1) := by decide +kernel
theorem dX8_leavesAt_26 : decode cX8_leavesAt 26 = .ok (.goto 4, 3) := by decide +kernel
theorem dX8_leavesAt_29 : decode cX8_leavesAt 29 = .ok (.iconst 0, 1) := by decide +kernel
theorem dX8_leavesAt_30 : decode cX8_leavesAt 30 = .ok (.iadd, 1) := by decide +kernel
theorem dX8_leavesAt_31 : decode cX8_leavesAt 31 = .ok (.istore_n 2, 1) := by decide +kernel
theorem dX8_leavesAt_32 : decode cX8_leavesAt 32 = .ok (.iinc 3 1, 3) := by decide +kernel
theorem dX8_leavesAt_35 : decode cX8_leavesAt 35 = .ok (.goto (-31), 3) := by decide +kernel
theorem dX8_leavesAt_38 : decode cX8_leavesAt 38 = .ok (.iload_n 2, 1) := by decide +kernel
theorem dX8_leavesAt_39 : decode cX8_leavesAt 39 = .ok (.ireturn, 1) := by decide +kernel
theorem dX8_isOnHeap_0 : decode cX8_isOnHeap 0 = .ok (.aload_n 0, 1) := by decide +kernel
theorem dX8_isOnHeap_1 : decode cX8_isOnHeap 1 = .ok (.iload_n 1, 1) := by decide +kernel
theorem dX8_isOnHeap_2 : decode cX8_isOnHeap 2 = .ok (.iconst 1, 1) := by decide +kernel
theorem dX8_isOnHeap_3 : decode cX8_isOnHeap 3 = .ok (.invokevirtual 56, 3) := by decide +kernel
theorem dX8_isOnHeap_6 : decode cX8_isOnHeap 6 = .ok (.iconst 1, 1) := by decide +kernel
theorem dX8_isOnHeap_7 : decode cX8_isOnHeap 7 = .ok (.if_icmp .ne 17, 3) := by decide +kernel
theorem dX8_isOnHeap_10 : decode cX8_isOnHeap 10 = .ok (.aload_n 0, 1) := by decide +kernel
theorem dX8_isOnHeap_11 : decode cX8_isOnHeap 11 = .ok (.iload_n 1, 1) := by decide +kernel
theorem dX8_isOnHeap_12 : decode cX8_isOnHeap 12 = .ok (.iconst 4, 1) := by decide +kernel
theorem dX8_isOnHeap_13 : decode cX8_isOnHeap 13 = .ok (.invokevirtual 56, 3) := by decide +kernel
theorem dX8_isOnHeap_16 : decode cX8_isOnHeap 16 = .ok (.iload_n 2, 1) := by decide +kernel
theorem dX8_isOnHeap_17 : decode cX8_isOnHeap 17 = .ok (.if_icmp .ne 7, 3) := by decide +kernel
theorem dX8_isOnHeap_20 : decode cX8_isOnHeap 20 = .ok (.iconst 1, 1) := by decide +kernel
theorem dX8_isOnHeap_21 : decode cX8_isOnHeap 21 = .ok (.goto 4, 3) := by decide +kernel
theorem dX8_isOnHeap_24 : decode cX8_isOnHeap 24 = .ok (.iconst 0, 1) := by decide +kernel
theorem dX8_isOnHeap_25 : decode cX8_isOnHeap 25 = .ok (.ireturn, 1) := by decide +kernel
theorem dX8_heapOf_0 : decode cX8_heapOf 0 = .ok (.iconst 0, 1) := by decide +kernel
theorem dX8_heapOf_1 : decode cX8_heapOf 1 = .ok (.istore_n 2, 1) := by decide +kernel
theorem dX8_heapOf_2 : decode cX8_heapOf 2 = .ok (.iconst 0, 1) := by decide +kernel
theorem dX8_heapOf_3 : decode cX8_heapOf 3 = .ok (.istore_n 3, 1) := by decide +kernel
theorem dX8_heapOf_4 : decode cX8_heapOf 4 = .ok (.iload_n 3, 1) := by decide +kernel
theorem dX8_heapOf_5 : decode cX8_heapOf 5 = .ok (.aload_n 0, 1) := by decide +kernel
theorem dX8_heapOf_6 : decode cX8_heapOf 6 = .ok (.getfield 7, 3) := by decide +kernel
theorem dX8_heapOf_9 : decode cX8_heapOf 9 = .ok (.iconst 1, 1) := by decide +kernel
theorem dX8_heapOf_10 : decode cX8_heapOf 10 = .ok (.iaload, 1) := by decide +kernel
theorem dX8_heapOf_11 : decode cX8_heapOf 11 = .ok (.if_icmp .ge 26, 3) := by decide +kernel
theorem dX8_heapOf_14 : decode cX8_heapOf 14 = .ok (.iload_n 2, 1) := by decide +kernel
theorem dX8_heapOf_15 : decode cX8_heapOf 15 = .ok (.aload_n 0, 1) := by decide +kernel
theorem dX8_heapOf_16 : decode cX8_heapOf 16 = .ok (.iload_n 3, 1) := by decide +kernel
theorem dX8_heapOf_17 : decode cX8_heapOf 17 = .ok (.iload_n 1, 1) := by decide +kernel
theorem dX8_heapOf_18 : decode cX8_heapOf 18 = .ok (.invokevirtual 59, 3) := by decide +kernel
theorem dX8_heapOf_21 : decode cX8_heapOf 21 = .ok (.ifCond .eq 7, 3) := by decide +kernel
theorem dX8_heapOf_24 : decode cX8_heapOf 24 = .ok (.iconst 1, 1) := by decide +kernel
theorem dX8_heapOf_25 : decode cX8_heapOf 25 = .ok (.goto 4, 3) := by decide +kernel
theorem dX8_heapOf_28 : decode cX8_heapOf 28 = .ok (.iconst 0, 1) := by decide +kernel
theorem dX8_heapOf_29 : decode cX8_heapOf 29 = .ok (.iadd, 1) := by decide +kernel
theorem dX8_heapOf_30 : decode cX8_heapOf 30 = .ok (.istore_n 2, 1) := by decide +kernel
theorem dX8_heapOf_31 : decode cX8_heapOf 31 = .ok (.iinc 3 1, 3) := by decide +kernel
theorem dX8_heapOf_34 : decode cX8_heapOf 34 = .ok (.goto (-30), 3) := by decide +kernel
theorem dX8_heapOf_37 : decode cX8_heapOf 37 = .ok (.iload_n 2, 1) := by decide +kernel
theorem dX8_heapOf_38 : decode cX8_heapOf 38 = .ok (.ireturn, 1) := by decide +kernel
theorem dX8_onHeap_0 : decode cX8_onHeap 0 = .ok (.iconst (-1), 1) := by decide +kernel
theorem dX8_onHeap_1 : decode cX8_onHeap 1 = .ok (.istore_n 3, 1) := by decide +kernel
theorem dX8_onHeap_2 : decode cX8_onHeap 2 = .ok (.iconst 0, 1) := by decide +kernel
theorem dX8_onHeap_3 : decode cX8_onHeap 3 = .ok (.istore 4, 2) := by decide +kernel
theorem dX8_onHeap_5 : decode cX8_onHeap 5 = .ok (.iload 4, 2) := by decide +kernel
theorem dX8_onHeap_7 : decode cX8_onHeap 7 = .ok (.aload_n 0, 1) := by decide +kernel
theorem dX8_onHeap_8 : decode cX8_onHeap 8 = .ok (.getfield 7, 3) := by decide +kernel
theorem dX8_onHeap_11 : decode cX8_onHeap 11 = .ok (.iconst 1, 1) := by decide +kernel
theorem dX8_onHeap_12 : decode cX8_onHeap 12 = .ok (.iaload, 1) := by decide +kernel
theorem dX8_onHeap_13 : decode cX8_onHeap 13 = .ok (.if_icmp .ge 92, 3) := by decide +kernel
theorem dX8_onHeap_16 : decode cX8_onHeap 16 = .ok (.iconst 0, 1) := by decide +kernel
theorem dX8_onHeap_17 : decode cX8_onHeap 17 = .ok (.istore 5, 2) := by decide +kernel
theorem dX8_onHeap_19 : decode cX8_onHeap 19 = .ok (.iconst 0, 1) := by decide +kernel
theorem dX8_onHeap_20 : decode cX8_onHeap 20 = .ok (.istore 6, 2) := by decide +kernel
theorem dX8_onHeap_22 : decode cX8_onHeap 22 = .ok (.iload 6, 2) := by decide +kernel
theorem dX8_onHeap_24 : decode cX8_onHeap 24 = .ok (.aload_n 0, 1) := by decide +kernel
theorem dX8_onHeap_25 : decode cX8_onHeap 25 = .ok (.getfield 7, 3) := by decide +kernel
theorem dX8_onHeap_28 : decode cX8_onHeap 28 = .ok (.iconst 1, 1) := by decide +kernel
theorem dX8_onHeap_29 : decode cX8_onHeap 29 = .ok (.iaload, 1) := by decide +kernel
theorem dX8_onHeap_30 : decode cX8_onHeap 30 = .ok (.if_icmp .ge 46, 3) := by decide +kernel
theorem dX8_onHeap_33 : decode cX8_onHeap 33 = .ok (.iload 5, 2) := by decide +kernel
theorem dX8_onHeap_35 : decode cX8_onHeap 35 = .ok (.aload_n 0, 1) := by decide +kernel
theorem dX8_onHeap_36 : decode cX8_onHeap 36 = .ok (.iload 6, 2) := by decide +kernel
theorem dX8_onHeap_38 : decode cX8_onHeap 38 = .ok (.iload_n 1, 1) := by decide +kernel
theorem dX8_onHeap_39 : decode cX8_onHeap 39 = .ok (.invokevirtual 59, 3) := by decide +kernel
theorem dX8_onHeap_42 : decode cX8_onHeap 42 = .ok (.ifCond .eq 24, 3) := by decide +kernel
theorem dX8_onHeap_45 : decode cX8_onHeap 45 = .ok (.aload_n 0, 1) := by decide +kernel
theorem dX8_onHeap_46 : decode cX8_onHeap 46 = .ok (.iload 6, 2) := by decide +kernel
theorem dX8_onHeap_48 : decode cX8_onHeap 48 = .ok (.iconst 5, 1) := by decide +kernel
theorem dX8_onHeap_49 : decode cX8_onHeap 49 = .ok (.invokevirtual 56, 3) := by decide +kernel
theorem dX8_onHeap_52 : decode cX8_onHeap 52 = .ok (.aload_n 0, 1) := by decide +kernel
theorem dX8_onHeap_53 : decode cX8_onHeap 53 = .ok (.iload 4, 2) := by decide +kernel
theorem dX8_onHeap_55 : decode cX8_onHeap 55 = .ok (.iconst 5, 1) := by decide +kernel
theorem dX8_onHeap_56 : decode cX8_onHeap 56 = .ok (.invokevirtual 56, 3) := by decide +kernel
theorem dX8_onHeap_59 : decode cX8_onHeap 59 = .ok (.if_icmp .ge 7, 3) := by decide +kernel
theorem dX8_onHeap_62 : decode cX8_onHeap 62 = .ok (.iconst 1, 1) := by decide +kernel
theorem dX8_onHeap_63 : decode cX8_onHeap 63 = .ok (.goto 4, 3) := by decide +kernel
theorem dX8_onHeap_66 : decode cX8_onHeap 66 = .ok (.iconst 0, 1) := by decide +kernel
theorem dX8_onHeap_67 : decode cX8_onHeap 67 = .ok (.iadd, 1) := by decide +kernel
theorem dX8_onHeap_68 : decode cX8_onHeap 68 = .ok (.istore 5, 2) := by decide +kernel
theorem dX8_onHeap_70 : decode cX8_onHeap 70 = .ok (.iinc 6 1, 3) := by decide +kernel
theorem dX8_onHeap_73 : decode cX8_onHeap 73 = .ok (.goto (-51), 3) := by decide +kernel
theorem dX8_onHeap_76 : decode cX8_onHeap 76 = .ok (.aload_n 0, 1) := by decide +kernel
theorem dX8_onHeap_77 : decode cX8_onHeap 77 = .ok (.iload 4, 2) := by decide +kernel
theorem dX8_onHeap_79 : decode cX8_onHeap 79 = .ok (.iload_n 1, 1) := by decide +kernel
theorem dX8_onHeap_80 : decode cX8_onHeap 80 = .ok (.invokevirtual 59, 3) := by decide +kernel
theorem dX8_onHeap_83 : decode cX8_onHeap 83 = .ok (.ifCond .eq 14, 3) := by decide +kernel
theorem dX8_onHeap_86 : decode cX8_onHeap 86 = .ok (.iload 5, 2) := by decide +kernel
theorem dX8_onHeap_88 : decode cX8_onHeap 88 = .ok (.iload_n 2, 1) := by decide +kernel
theorem dX8_onHeap_89 : decode cX8_onHeap 89 = .ok (.if_icmp .ne 8, 3) := by decide +kernel
theorem dX8_onHeap_92 : decode cX8_onHeap 92 = .ok (.iload 4, 2) := by decide +kernel
theorem dX8_onHeap_94 : decode cX8_onHeap 94 = .ok (.goto 4, 3) := by decide +kernel
theorem dX8_onHeap_97 : decode cX8_onHeap 97 = .ok (.iload_n 3, 1) := by decide +kernel
theorem dX8_onHeap_98 : decode cX8_onHeap 98 = .ok (.istore_n 3, 1) := by decide +kernel
theorem dX8_onHeap_99 : decode cX8_onHeap 99 = .ok (.iinc 4 1, 3) := by decide +kernel
theorem dX8_onHeap_102 : decode cX8_onHeap 102 = .ok (.goto (-97), 3) := by decide +kernel
theorem dX8_onHeap_105 : decode cX8_onHeap 105 = .ok (.iload_n 3, 1) := by decide +kernel
theorem dX8_onHeap_106 : decode cX8_onHeap 106 = .ok (.ireturn, 1) := by decide +kernel
theorem dX8_putOnHeap_0 : decode cX8_putOnHeap 0 = .ok (.aload_n 0, 1) := by decide +kernel
theorem dX8_putOnHeap_1 : decode cX8_putOnHeap 1 = .ok (.iload_n 1, 1) := by decide +kernel
theorem dX8_putOnHeap_2 : decode cX8_putOnHeap 2 = .ok (.iconst 1, 1) := by decide +kernel
theorem dX8_putOnHeap_3 : decode cX8_putOnHeap 3 = .ok (.iconst 1, 1) := by decide +kernel
theorem dX8_putOnHeap_4 : decode cX8_putOnHeap 4 = .ok (.invokevirtual 63, 3) := by decide +kernel
theorem dX8_putOnHeap_7 : decode cX8_putOnHeap 7 = .ok (.aload_n 0, 1) := by decide +kernel
theorem dX8_putOnHeap_8 : decode cX8_putOnHeap 8 = .ok (.iload_n 1, 1) := by decide +kernel
theorem dX8_putOnHeap_9 : decode cX8_putOnHeap 9 = .ok (.iconst 4, 1) := by decide +kernel
theorem dX8_putOnHeap_10 : decode cX8_putOnHeap 10 = .ok (.iload_n 2, 1) := by decide +kernel
theorem dX8_putOnHeap_11 : decode cX8_putOnHeap 11 = .ok (.invokevirtual 63, 3) := by decide +kernel
theorem dX8_putOnHeap_14 : decode cX8_putOnHeap 14 = .ok (.aload_n 0, 1) := by decide +kernel
theorem dX8_putOnHeap_15 : decode cX8_putOnHeap 15 = .ok (.iload_n 1, 1) := by decide +kernel
theorem dX8_putOnHeap_16 : decode cX8_putOnHeap 16 = .ok (.iconst 5, 1) := by decide +kernel
theorem dX8_putOnHeap_17 : decode cX8_putOnHeap 17 = .ok (.aload_n 0, 1) := by decide +kernel
theorem dX8_putOnHeap_18 : decode cX8_putOnHeap 18 = .ok (.getfield 7, 3) := by decide +kernel
theorem dX8_putOnHeap_21 : decode cX8_putOnHeap 21 = .ok (.bipush 7, 2) := by decide +kernel
theorem dX8_putOnHeap_23 : decode cX8_putOnHeap 23 = .ok (.iaload, 1) := by decide +kernel
theorem dX8_putOnHeap_24 : decode cX8_putOnHeap 24 = .ok (.invokevirtual 63, 3) := by decide +kernel
theorem dX8_putOnHeap_27 : decode cX8_putOnHeap 27 = .ok (.aload_n 0, 1) := by decide +kernel
theorem dX8_putOnHeap_28 : decode cX8_putOnHeap 28 = .ok (.getfield 7, 3) := by decide +kernel
theorem dX8_putOnHeap_31 : decode cX8_putOnHeap 31 = .ok (.bipush 7, 2) := by decide +kernel
theorem dX8_putOnHeap_33 : decode cX8_putOnHeap 33 = .ok (.dup2, 1) := by decide +kernel
theorem dX8_putOnHeap_34 : decode cX8_putOnHeap 34 = .ok (.iaload, 1) := by decide +kernel
theorem dX8_putOnHeap_35 : decode cX8_putOnHeap 35 = .ok (.iconst 1, 1) := by decide +kernel
theorem dX8_putOnHeap_36 : decode cX8_putOnHeap 36 = .ok (.iadd, 1) := by decide +kernel
theorem dX8_putOnHeap_37 : decode cX8_putOnHeap 37 = .ok (.iastore, 1) := by decide +kernel
theorem dX8_putOnHeap_38 : decode cX8_putOnHeap 38 = .ok (.return_, 1) := by decide +kernel
theorem dX8_mayBurn_0 : decode cX8_mayBurn 0 = .ok (.iload_n 2, 1) := by decide +kernel
theorem dX8_mayBurn_1 : decode cX8_mayBurn 1 = .ok (.ifCond .ne 20, 3) := by decide +kernel
theorem dX8_mayBurn_4 : decode cX8_mayBurn 4 = .ok (.aload_n 0, 1) := by decide +kernel
theorem dX8_mayBurn_5 : decode cX8_mayBurn 5 = .ok (.iload_n 1, 1) := by decide +kernel
theorem dX8_mayBurn_6 : decode cX8_mayBurn 6 = .ok (.iconst (-1), 1) := by decide +kernel
theorem dX8_mayBurn_7 : decode cX8_mayBurn 7 = .ok (.invokevirtual 66, 3) := by decide +kernel
theorem dX8_mayBurn_10 : decode cX8_mayBurn 10 = .ok (.ifCond .ne 7, 3) := by decide +kernel
theorem dX8_mayBurn_13 : decode cX8_mayBurn 13 = .ok (.iconst 1, 1) := by decide +kernel
theorem dX8_mayBurn_14 : decode cX8_mayBurn 14 = .ok (.goto 29, 3) := by decide +kernel
theorem dX8_mayBurn_17 : decode cX8_mayBurn 17 = .ok (.iconst 0, 1) := by decide +kernel
theorem dX8_mayBurn_18 : decode cX8_mayBurn 18 = .ok (.goto 25, 3) := by decide +kernel
theorem dX8_mayBurn_21 : decode cX8_mayBurn 21 = .ok (.aload_n 0, 1) := by decide +kernel
theorem dX8_mayBurn_22 : decode cX8_mayBurn 22 = .ok (.getfield 7, 3) := by decide +kernel
theorem dX8_mayBurn_25 : decode cX8_mayBurn 25 = .ok (.iconst 0, 1) := by decide +kernel
theorem dX8_mayBurn_26 : decode cX8_mayBurn 26 = .ok (.iaload, 1) := by decide +kernel
theorem dX8_mayBurn_27 : decode cX8_mayBurn 27 = .ok (.aload_n 0, 1) := by decide +kernel
theorem dX8_mayBurn_28 : decode cX8_mayBurn 28 = .ok (.iload_n 1, 1) := by decide +kernel
theorem dX8_mayBurn_29 : decode cX8_mayBurn 29 = .ok (.iconst 3, 1) := by decide +kernel
theorem dX8_mayBurn_30 : decode cX8_mayBurn 30 = .ok (.invokevirtual 56, 3) := by decide +kernel
theorem dX8_mayBurn_33 : decode cX8_mayBurn 33 = .ok (.isub, 1) := by decide +kernel
theorem dX8_mayBurn_34 : decode cX8_mayBurn 34 = .ok (.iconst 2, 1) := by decide +kernel
theorem dX8_mayBurn_35 : decode cX8_mayBurn 35 = .ok (.if_icmp .lt 7, 3) := by decide +kernel
theorem dX8_mayBurn_38 : decode cX8_mayBurn 38 = .ok (.iconst 1, 1) := by decide +kernel
theorem dX8_mayBurn_39 : decode cX8_mayBurn 39 = .ok (.goto 4, 3) := by decide +kernel
theorem dX8_mayBurn_42 : decode cX8_mayBurn 42 = .ok (.iconst 0, 1) := by decide +kernel
theorem dX8_mayBurn_43 : decode cX8_mayBurn 43 = .ok (.ireturn, 1) := by decide +kernel
theorem dX8_burnable_0 : decode cX8_burnable 0 = .ok (.iconst 0, 1) := by decide +kernel
theorem dX8_burnable_1 : decode cX8_burnable 1 = .ok (.istore_n 3, 1) := by decide +kernel
theorem dX8_burnable_2 : decode cX8_burnable 2 = .ok (.iconst 0, 1) := by decide +kernel
theorem dX8_burnable_3 : decode cX8_burnable 3 = .ok (.istore 4, 2) := by decide +kernel
theorem dX8_burnable_5 : decode cX8_burnable 5 = .ok (.iload 4, 2) := by decide +kernel
theorem dX8_burnable_7 : decode cX8_burnable 7 = .ok (.aload_n 0, 1) := by decide +kernel
theorem dX8_burnable_8 : decode cX8_burnable 8 = .ok (.getfield 7, 3) := by decide +kernel
theorem dX8_burnable_11 : decode cX8_burnable 11 = .ok (.iconst 1, 1) := by decide +kernel
theorem dX8_burnable_12 : decode cX8_burnable 12 = .ok (.iaload, 1) := by decide +kernel
theorem dX8_burnable_13 : decode cX8_burnable 13 = .ok (.if_icmp .ge 37, 3) := by decide +kernel
theorem dX8_burnable_16 : decode cX8_burnable 16 = .ok (.iload_n 3, 1) := by decide +kernel
theorem dX8_burnable_17 : decode cX8_burnable 17 = .ok (.aload_n 0, 1) := by decide +kernel
theorem dX8_burnable_18 : decode cX8_burnable 18 = .ok (.iload 4, 2) := by decide +kernel
theorem dX8_burnable_20 : decode cX8_burnable 20 = .ok (.iload_n 1, 1) := by decide +kernel
theorem dX8_burnable_21 : decode cX8_burnable 21 = .ok (.invokevirtual 59, 3) := by decide +kernel
theorem dX8_burnable_24 : decode cX8_burnable 24 = .ok (.ifCond .eq 17, 3) := by decide +kernel
theorem dX8_burnable_27 : decode cX8_burnable 27 = .ok (.aload_n 0, 1) := by decide +kernel
theorem dX8_burnable_28 : decode cX8_burnable 28 = .ok (.iload 4, 2) := by decide +kernel
theorem dX8_burnable_30 : decode cX8_burnable 30 = .ok (.iload_n 2, 1) := by decide +kernel
theorem dX8_burnable_31 : decode cX8_burnable 31 = .ok (.invokevirtual 69, 3) := by decide +kernel
theorem dX8_burnable_34 : decode cX8_burnable 34 = .ok (.ifCond .eq 7, 3) := by decide +kernel
theorem dX8_burnable_37 : decode cX8_burnable 37 = .ok (.iconst 1, 1) := by decide +kernel
theorem dX8_burnable_38 : decode cX8_burnable 38 = .ok (.goto 4, 3) := by decide +kernel
theorem dX8_burnable_41 : decode cX8_burnable 41 = .ok (.iconst 0, 1) := by decide +kernel
theorem dX8_burnable_42 : decode cX8_burnable 42 = .ok (.iadd, 1) := by decide +kernel
theorem dX8_burnable_43 : decode cX8_burnable 43 = .ok (.istore_n 3, 1) := by decide +kernel
theorem dX8_burnable_44 : decode cX8_burnable 44 = .ok (.iinc 4 1, 3) := by decide +kernel
theorem dX8_burnable_47 : decode cX8_burnable 47 = .ok (.goto (-42), 3) := by decide +kernel
theorem dX8_burnable_50 : decode cX8_burnable 50 = .ok (.iload_n 3, 1) := by decide +kernel
theorem dX8_burnable_51 : decode cX8_burnable 51 = .ok (.ireturn, 1) := by decide +kernel
theorem dX8_record_0 : decode cX8_record 0 = .ok (.aload_n 0, 1) := by decide +kernel
theorem dX8_record_1 : decode cX8_record 1 = .ok (.getfield 72, 3) := by decide +kernel
theorem dX8_record_4 : decode cX8_record 4 = .ok (.bipush 6, 2) := by decide +kernel
theorem dX8_record_6 : decode cX8_record 6 = .ok (.if_icmp .ne 44, 3) := by decide +kernel
theorem dX8_record_9 : decode cX8_record 9 = .ok (.iconst 0, 1) := by decide +kernel
theorem dX8_record_10 : decode cX8_record 10 = .ok (.istore_n 1, 1) := by decide +kernel
theorem dX8_record_11 : decode cX8_record 11 = .ok (.iload_n 1, 1) := by decide +kernel
theorem dX8_record_12 : decode cX8_record 12 = .ok (.sipush 4085, 3) := by decide +kernel
theorem dX8_record_15 : decode cX8_record 15 = .ok (.if_icmp .ge 25, 3) := by decide +kernel
theorem dX8_record_18 : decode cX8_record 18 = .ok (.aload_n 0, 1) := by decide +kernel
theorem dX8_record_19 : decode cX8_record 19 = .ok (.getfield 13, 3) := by decide +kernel
theorem dX8_record_22 : decode cX8_record 22 = .ok (.iload_n 1, 1) := by decide +kernel
theorem dX8_record_23 : decode cX8_record 23 = .ok (.aload_n 0, 1) := by decide +kernel
theorem dX8_record_24 : decode cX8_record 24 = .ok (.getfield 13, 3) := by decide +kernel
theorem dX8_record_27 : decode cX8_record 27 = .ok (.sipush 817, 3) := by decide +kernel
theorem dX8_record_30 : decode cX8_record 30 = .ok (.iload_n 1, 1) := by decide +kernel
theorem dX8_record_31 : decode cX8_record 31 = .ok (.iadd, 1) := by decide +kernel
theorem dX8_record_32 : decode cX8_record 32 = .ok (.iaload, 1) := by decide +kernel
theorem dX8_record_33 : decode cX8_record 33 = .ok (.iastore, 1) := by decide +kernel
theorem dX8_record_34 : decode cX8_record 34 = .ok (.iinc 1 1, 3) := by decide +kernel
theorem dX8_record_37 : decode cX8_record 37 = .ok (.goto (-26), 3) := by decide +kernel
theorem dX8_record_40 : decode cX8_record 40 = .ok (.aload_n 0, 1) := by decide +kernel
theorem dX8_record_41 : decode cX8_record 41 = .ok (.dup, 1) := by decide +kernel
theorem dX8_record_42 : decode cX8_record 42 = .ok (.getfield 72, 3) := by decide +kernel
theorem dX8_record_45 : decode cX8_record 45 = .ok (.iconst 1, 1) := by decide +kernel
theorem dX8_record_46 : decode cX8_record 46 = .ok (.isub, 1) := by decide +kernel
theorem dX8_record_47 : decode cX8_record 47 = .ok (.putfield 72, 3) := by decide +kernel
theorem dX8_record_50 : decode cX8_record 50 = .ok (.iconst 0, 1) := by decide +kernel
theorem dX8_record_51 : decode cX8_record 51 = .ok (.istore_n 1, 1) := by decide +kernel
theorem dX8_record_52 : decode cX8_record 52 = .ok (.iload_n 1, 1) := by decide +kernel
theorem dX8_record_53 : decode cX8_record 53 = .ok (.sipush 817, 3) := by decide +kernel
theorem dX8_record_56 : decode cX8_record 56 = .ok (.if_icmp .ge 30, 3) := by decide +kernel
theorem dX8_record_59 : decode cX8_record 59 = .ok (.aload_n 0, 1) := by decide +kernel
theorem dX8_record_60 : decode cX8_record 60 = .ok (.getfield 13, 3) := by decide +kernel
theorem dX8_record_63 : decode cX8_record 63 = .ok (.sipush 817, 3) := by decide +kernel
theorem dX8_record_66 : decode cX8_record 66 = .ok (.aload_n 0, 1) := by decide +kernel
theorem dX8_record_67 : decode cX8_record 67 = .ok (.getfield 72, 3) := by decide +kernel
theorem dX8_record_70 : decode cX8_record 70 = .ok (.imul, 1) := by decide +kernel
theorem dX8_record_71 : decode cX8_record 71 = .ok (.iload_n 1, 1) := by decide +kernel
theorem dX8_record_72 : decode cX8_record 72 = .ok (.iadd, 1) := by decide +kernel
theorem dX8_record_73 : decode cX8_record 73 = .ok (.aload_n 0, 1) := by decide +kernel
theorem dX8_record_74 : decode cX8_record 74 = .ok (.getfield 7, 3) := by decide +kernel
theorem dX8_record_77 : decode cX8_record 77 = .ok (.iload_n 1, 1) := by decide +kernel
theorem dX8_record_78 : decode cX8_record 78 = .ok (.iaload, 1) := by decide +kernel
theorem dX8_record_79 : decode cX8_record 79 = .ok (.iastore, 1) := by decide +kernel
theorem dX8_record_80 : decode cX8_record 80 = .ok (.iinc 1 1, 3) := by decide +kernel
theorem dX8_record_83 : decode cX8_record 83 = .ok (.goto (-31), 3) := by decide +kernel
theorem dX8_record_86 : decode cX8_record 86 = .ok (.aload_n 0, 1) := by decide +kernel
theorem dX8_record_87 : decode cX8_record 87 = .ok (.dup, 1) := by decide +kernel
theorem dX8_record_88 : decode cX8_record 88 = .ok (.getfield 72, 3) := by decide +kernel
theorem dX8_record_91 : decode cX8_record 91 = .ok (.iconst 1, 1) := by decide +kernel
theorem dX8_record_92 : decode cX8_record 92 = .ok (.iadd, 1) := by decide +kernel
theorem dX8_record_93 : decode cX8_record 93 = .ok (.putfield 72, 3) := by decide +kernel
theorem dX8_record_96 : decode cX8_record 96 = .ok (.return_, 1) := by decide +kernel
theorem dX8_undo_0 : decode cX8_undo 0 = .ok (.aload_n 0, 1) := by decide +kernel
theorem dX8_undo_1 : decode cX8_undo 1 = .ok (.aload_n 0, 1) := by decide +kernel
theorem dX8_undo_2 : decode cX8_undo 2 = .ok (.getfield 72, 3) := by decide +kernel
theorem dX8_undo_5 : decode cX8_undo 5 = .ok (.ifCond .ne 7, 3) := by decide +kernel
theorem dX8_undo_8 : decode cX8_undo 8 = .ok (.iconst 1, 1) := by decide +kernel
theorem dX8_undo_9 : decode cX8_undo 9 = .ok (.goto 4, 3) := by decide +kernel
theorem dX8_undo_12 : decode cX8_undo 12 = .ok (.iconst 0, 1) := by decide +kernel
theorem dX8_undo_13 : decode cX8_undo 13 = .ok (.putfield 33, 3) := by decide +kernel
theorem dX8_undo_16 : decode cX8_undo 16 = .ok (.aload_n 0, 1) := by decide +kernel
theorem dX8_undo_17 : decode cX8_undo 17 = .ok (.getfield 33, 3) := by decide +kernel
theorem dX8_undo_20 : decode cX8_undo 20 = .ok (.ifCond .le 5, 3) := by decide +kernel
theorem dX8_undo_23 : decode cX8_undo 23 = .ok (.iconst 0, 1) := by decide +kernel
theorem dX8_undo_24 : decode cX8_undo 24 = .ok (.ireturn, 1) := by decide +kernel
theorem dX8_undo_25 : decode cX8_undo 25 = .ok (.aload_n 0, 1) := by decide +kernel
theorem dX8_undo_26 : decode cX8_undo 26 = .ok (.dup, 1) := by decide +kernel
theorem dX8_undo_27 : decode cX8_undo 27 = .ok (.getfield 72, 3) := by decide +kernel
theorem dX8_undo_30 : decode cX8_undo 30 = .ok (.iconst 1, 1) := by decide +kernel
theorem dX8_undo_31 : decode cX8_undo 31 = .ok (.isub, 1) := by decide +kernel
theorem dX8_undo_32 : decode cX8_undo 32 = .ok (.putfield 72, 3) := by decide +kernel
theorem dX8_undo_35 : decode cX8_undo 35 = .ok (.iconst 0, 1) := by decide +kernel
theorem dX8_undo_36 : decode cX8_undo 36 = .ok (.istore_n 1, 1) := by decide +kernel
theorem dX8_undo_37 : decode cX8_undo 37 = .ok (.iload_n 1, 1) := by decide +kernel
theorem dX8_undo_38 : decode cX8_undo 38 = .ok (.sipush 817, 3) := by decide +kernel
theorem dX8_undo_41 : decode cX8_undo 41 = .ok (.if_icmp .ge 30, 3) := by decide +kernel
theorem dX8_undo_44 : decode cX8_undo 44 = .ok (.aload_n 0, 1) := by decide +kernel
theorem dX8_undo_45 : decode cX8_undo 45 = .ok (.getfield 7, 3) := by decide +kernel
theorem dX8_undo_48 : decode cX8_undo 48 = .ok (.iload_n 1, 1) := by decide +kernel
theorem dX8_undo_49 : decode cX8_undo 49 = .ok (.aload_n 0, 1) := by decide +kernel
theorem dX8_undo_50 : decode cX8_undo 50 = .ok (.getfield 13, 3) := by decide +kernel
theorem dX8_undo_53 : decode cX8_undo 53 = .ok (.sipush 817, 3) := by decide +kernel
theorem dX8_undo_56 : decode cX8_undo 56 = .ok (.aload_n 0, 1) := by decide +kernel
theorem dX8_undo_57 : decode cX8_undo 57 = .ok (.getfield 72, 3) := by decide +kernel
theorem dX8_undo_60 : decode cX8_undo 60 = .ok (.imul, 1) := by decide +kernel
theorem dX8_undo_61 : decode cX8_undo 61 = .ok (.iload_n 1, 1) := by decide +kernel
theorem dX8_undo_62 : decode cX8_undo 62 = .ok (.iadd, 1) := by decide +kernel
theorem dX8_undo_63 : decode cX8_undo 63 = .ok (.iaload, 1) := by decide +kernel
theorem dX8_undo_64 : decode cX8_undo 64 = .ok (.iastore, 1) := by decide +kernel
theorem dX8_undo_65 : decode cX8_undo 65 = .ok (.iinc 1 1, 3) := by decide +kernel
theorem dX8_undo_68 : decode cX8_undo 68 = .ok (.goto (-31), 3) := by decide +kernel
theorem dX8_undo_71 : decode cX8_undo 71 = .ok (.aload_n 0, 1) := by decide +kernel
theorem dX8_undo_72 : decode cX8_undo 72 = .ok (.getfield 72, 3) := by decide +kernel
theorem dX8_undo_75 : decode cX8_undo 75 = .ok (.ireturn, 1) := by decide +kernel
theorem dX8_keep_0 : decode cX8_keep 0 = .ok (.aload_n 0, 1) := by decide +kernel
theorem dX8_keep_1 : decode cX8_keep 1 = .ok (.iconst 0, 1) := by decide +kernel
theorem dX8_keep_2 : decode cX8_keep 2 = .ok (.putfield 33, 3) := by decide +kernel
theorem dX8_keep_5 : decode cX8_keep 5 = .ok (.iconst 0, 1) := by decide +kernel
theorem dX8_keep_6 : decode cX8_keep 6 = .ok (.istore_n 1, 1) := by decide +kernel
theorem dX8_keep_7 : decode cX8_keep 7 = .ok (.iload_n 1, 1) := by decide +kernel
theorem dX8_keep_8 : decode cX8_keep 8 = .ok (.sipush 817, 3) := by decide +kernel
theorem dX8_keep_11 : decode cX8_keep 11 = .ok (.if_icmp .ge 21, 3) := by decide +kernel
theorem dX8_keep_14 : decode cX8_keep 14 = .ok (.aload_n 0, 1) := by decide +kernel
theorem dX8_keep_15 : decode cX8_keep 15 = .ok (.getfield 16, 3) := by decide +kernel
theorem dX8_keep_18 : decode cX8_keep 18 = .ok (.iload_n 1, 1) := by decide +kernel
theorem dX8_keep_19 : decode cX8_keep 19 = .ok (.aload_n 0, 1) := by decide +kernel
theorem dX8_keep_20 : decode cX8_keep 20 = .ok (.getfield 7, 3) := by decide +kernel
theorem dX8_keep_23 : decode cX8_keep 23 = .ok (.iload_n 1, 1) := by decide +kernel
theorem dX8_keep_24 : decode cX8_keep 24 = .ok (.iaload, 1) := by decide +kernel
theorem dX8_keep_25 : decode cX8_keep 25 = .ok (.iastore, 1) := by decide +kernel
theorem dX8_keep_26 : decode cX8_keep 26 = .ok (.iinc 1 1, 3) := by decide +kernel
theorem dX8_keep_29 : decode cX8_keep 29 = .ok (.goto (-22), 3) := by decide +kernel
theorem dX8_keep_32 : decode cX8_keep 32 = .ok (.aload_n 0, 1) := by decide +kernel
theorem dX8_keep_33 : decode cX8_keep 33 = .ok (.iconst 1, 1) := by decide +kernel
theorem dX8_keep_34 : decode cX8_keep 34 = .ok (.putfield 75, 3) := by decide +kernel
theorem dX8_keep_37 : decode cX8_keep 37 = .ok (.aload_n 0, 1) := by decide +kernel
theorem dX8_keep_38 : decode cX8_keep 38 = .ok (.getfield 7, 3) := by decide +kernel
theorem dX8_keep_41 : decode cX8_keep 41 = .ok (.iconst 0, 1) := by decide +kernel
theorem dX8_keep_42 : decode cX8_keep 42 = .ok (.iaload, 1) := by decide +kernel
theorem dX8_keep_43 : decode cX8_keep 43 = .ok (.ireturn, 1) := by decide +kernel
theorem dX8_goBack_0 : decode cX8_goBack 0 = .ok (.aload_n 0, 1) := by decide +kernel
theorem dX8_goBack_1 : decode cX8_goBack 1 = .ok (.aload_n 0, 1) := by decide +kernel
theorem dX8_goBack_2 : decode cX8_goBack 2 = .ok (.getfield 75, 3) := by decide +kernel
theorem dX8_goBack_5 : decode cX8_goBack 5 = .ok (.ifCond .eq 7, 3) := by decide +kernel
theorem dX8_goBack_8 : decode cX8_goBack 8 = .ok (.iconst 0, 1) := by decide +kernel
theorem dX8_goBack_9 : decode cX8_goBack 9 = .ok (.goto 4, 3) := by decide +kernel
theorem dX8_goBack_12 : decode cX8_goBack 12 = .ok (.iconst 1, 1) := by decide +kernel
theorem dX8_goBack_13 : decode cX8_goBack 13 = .ok (.putfield 33, 3) := by decide +kernel
theorem dX8_goBack_16 : decode cX8_goBack 16 = .ok (.aload_n 0, 1) := by decide +kernel
theorem dX8_goBack_17 : decode cX8_goBack 17 = .ok (.getfield 33, 3) := by decide +kernel
theorem dX8_goBack_20 : decode cX8_goBack 20 = .ok (.ifCond .le 5, 3) := by decide +kernel
theorem dX8_goBack_23 : decode cX8_goBack 23 = .ok (.iconst 0, 1) := by decide +kernel
theorem dX8_goBack_24 : decode cX8_goBack 24 = .ok (.ireturn, 1) := by decide +kernel
theorem dX8_goBack_25 : decode cX8_goBack 25 = .ok (.aload_n 0, 1) := by decide +kernel
theorem dX8_goBack_26 : decode cX8_goBack 26 = .ok (.invokevirtual 79, 3) := by decide +kernel
theorem dX8_goBack_29 : decode cX8_goBack 29 = .ok (.iconst 0, 1) := by decide +kernel
theorem dX8_goBack_30 : decode cX8_goBack 30 = .ok (.istore_n 1, 1) := by decide +kernel
theorem dX8_goBack_31 : decode cX8_goBack 31 = .ok (.iload_n 1, 1) := by decide +kernel
theorem dX8_goBack_32 : decode cX8_goBack 32 = .ok (.sipush 817, 3) := by decide +kernel
theorem dX8_goBack_35 : decode cX8_goBack 35 = .ok (.if_icmp .ge 21, 3) := by decide +kernel
theorem dX8_goBack_38 : decode cX8_goBack 38 = .ok (.aload_n 0, 1) := by decide +kernel
theorem dX8_goBack_39 : decode cX8_goBack 39 = .ok (.getfield 7, 3) := by decide +kernel
theorem dX8_goBack_42 : decode cX8_goBack 42 = .ok (.iload_n 1, 1) := by decide +kernel
theorem dX8_goBack_43 : decode cX8_goBack 43 = .ok (.aload_n 0, 1) := by decide +kernel
theorem dX8_goBack_44 : decode cX8_goBack 44 = .ok (.getfield 16, 3) := by decide +kernel
theorem dX8_goBack_47 : decode cX8_goBack 47 = .ok (.iload_n 1, 1) := by decide +kernel
theorem dX8_goBack_48 : decode cX8_goBack 48 = .ok (.iaload, 1) := by decide +kernel
theorem dX8_goBack_49 : decode cX8_goBack 49 = .ok (.iastore, 1) := by decide +kernel
theorem dX8_goBack_50 : decode cX8_goBack 50 = .ok (.iinc 1 1, 3) := by decide +kernel
theorem dX8_goBack_53 : decode cX8_goBack 53 = .ok (.goto (-22), 3) := by decide +kernel
theorem dX8_goBack_56 : decode cX8_goBack 56 = .ok (.aload_n 0, 1) := by decide +kernel
theorem dX8_goBack_57 : decode cX8_goBack 57 = .ok (.getfield 7, 3) := by decide +kernel
theorem dX8_goBack_60 : decode cX8_goBack 60 = .ok (.iconst 0, 1) := by decide +kernel
theorem dX8_goBack_61 : decode cX8_goBack 61 = .ok (.iaload, 1) := by decide +kernel
theorem dX8_goBack_62 : decode cX8_goBack 62 = .ok (.ireturn, 1) := by decide +kernel
theorem dX8_come_0 : decode cX8_come 0 = .ok (.aload_n 0, 1) := by decide +kernel
theorem dX8_come_1 : decode cX8_come 1 = .ok (.aload_n 0, 1) := by decide +kernel
theorem dX8_come_2 : decode cX8_come 2 = .ok (.invokevirtual 82, 3) := by decide +kernel
theorem dX8_come_5 : decode cX8_come 5 = .ok (.iconst 5, 1) := by decide +kernel
theorem dX8_come_6 : decode cX8_come 6 = .ok (.if_icmp .ne 7, 3) := by decide +kernel
theorem dX8_come_9 : decode cX8_come 9 = .ok (.iconst 1, 1) := by decide +kernel
theorem dX8_come_10 : decode cX8_come 10 = .ok (.goto 4, 3) := by decide +kernel
theorem dX8_come_13 : decode cX8_come 13 = .ok (.iconst 0, 1) := by decide +kernel
theorem dX8_come_14 : decode cX8_come 14 = .ok (.putfield 33, 3) := by decide +kernel
theorem dX8_come_17 : decode cX8_come 17 = .ok (.aload_n 0, 1) := by decide +kernel
theorem dX8_come_18 : decode cX8_come 18 = .ok (.getfield 33, 3) := by decide +kernel
theorem dX8_come_21 : decode cX8_come 21 = .ok (.ifCond .le 5, 3) := by decide +kernel
theorem dX8_come_24 : decode cX8_come 24 = .ok (.iconst 0, 1) := by decide +kernel
theorem dX8_come_25 : decode cX8_come 25 = .ok (.ireturn, 1) := by decide +kernel
theorem dX8_come_26 : decode cX8_come 26 = .ok (.aload_n 0, 1) := by decide +kernel
theorem dX8_come_27 : decode cX8_come 27 = .ok (.invokevirtual 79, 3) := by decide +kernel
theorem dX8_come_30 : decode cX8_come 30 = .ok (.iconst 0, 1) := by decide +kernel
theorem dX8_come_31 : decode cX8_come 31 = .ok (.istore_n 1, 1) := by decide +kernel
theorem dX8_come_32 : decode cX8_come 32 = .ok (.aload_n 0, 1) := by decide +kernel
theorem dX8_come_33 : decode cX8_come 33 = .ok (.iload_n 1, 1) := by decide +kernel
theorem dX8_come_34 : decode cX8_come 34 = .ok (.iconst 0, 1) := by decide +kernel
theorem dX8_come_35 : decode cX8_come 35 = .ok (.invokevirtual 37, 3) := by decide +kernel
theorem dX8_come_38 : decode cX8_come 38 = .ok (.iconst 1, 1) := by decide +kernel
theorem dX8_come_39 : decode cX8_come 39 = .ok (.if_icmp .ne 9, 3) := by decide +kernel
theorem dX8_come_42 : decode cX8_come 42 = .ok (.iinc 1 1, 3) := by decide +kernel
theorem dX8_come_45 : decode cX8_come 45 = .ok (.goto (-13), 3) := by decide +kernel
theorem dX8_come_48 : decode cX8_come 48 = .ok (.aload_n 0, 1) := by decide +kernel
theorem dX8_come_49 : decode cX8_come 49 = .ok (.iload_n 1, 1) := by decide +kernel
theorem dX8_come_50 : decode cX8_come 50 = .ok (.invokevirtual 25, 3) := by decide +kernel
theorem dX8_come_53 : decode cX8_come 53 = .ok (.aload_n 0, 1) := by decide +kernel
theorem dX8_come_54 : decode cX8_come 54 = .ok (.iload_n 1, 1) := by decide +kernel
theorem dX8_come_55 : decode cX8_come 55 = .ok (.iconst 0, 1) := by decide +kernel
theorem dX8_come_56 : decode cX8_come 56 = .ok (.iconst 1, 1) := by decide +kernel
theorem dX8_come_57 : decode cX8_come 57 = .ok (.invokevirtual 29, 3) := by decide +kernel
theorem dX8_come_60 : decode cX8_come 60 = .ok (.iload_n 1, 1) := by decide +kernel
theorem dX8_come_61 : decode cX8_come 61 = .ok (.ireturn, 1) := by decide +kernel
theorem dX8_leave_0 : decode cX8_leave 0 = .ok (.aload_n 0, 1) := by decide +kernel
theorem dX8_leave_1 : decode cX8_leave 1 = .ok (.aload_n 0, 1) := by decide +kernel
theorem dX8_leave_2 : decode cX8_leave 2 = .ok (.iload_n 1, 1) := by decide +kernel
theorem dX8_leave_3 : decode cX8_leave 3 = .ok (.invokevirtual 86, 3) := by decide +kernel
theorem dX8_leave_6 : decode cX8_leave 6 = .ok (.ifCond .ne 7, 3) := by decide +kernel
theorem dX8_leave_9 : decode cX8_leave 9 = .ok (.iconst 1, 1) := by decide +kernel
theorem dX8_leave_10 : decode cX8_leave 10 = .ok (.goto 16, 3) := by decide +kernel
theorem dX8_leave_13 : decode cX8_leave 13 = .ok (.aload_n 0, 1) := by decide +kernel
theorem dX8_leave_14 : decode cX8_leave 14 = .ok (.invokevirtual 82, 3) := by decide +kernel
theorem dX8_leave_17 : decode cX8_leave 17 = .ok (.iconst 1, 1) := by decide +kernel
theorem dX8_leave_18 : decode cX8_leave 18 = .ok (.if_icmp .ne 7, 3) := by decide +kernel
theorem dX8_leave_21 : decode cX8_leave 21 = .ok (.iconst 2, 1) := by decide +kernel
theorem dX8_leave_22 : decode cX8_leave 22 = .ok (.goto 4, 3) := by decide +kernel
theorem dX8_leave_25 : decode cX8_leave 25 = .ok (.iconst 0, 1) := by decide +kernel
theorem dX8_leave_26 : decode cX8_leave 26 = .ok (.putfield 33, 3) := by decide +kernel
theorem dX8_leave_29 : decode cX8_leave 29 = .ok (.aload_n 0, 1) := by decide +kernel
theorem dX8_leave_30 : decode cX8_leave 30 = .ok (.getfield 33, 3) := by decide +kernel
theorem dX8_leave_33 : decode cX8_leave 33 = .ok (.ifCond .le 5, 3) := by decide +kernel
theorem dX8_leave_36 : decode cX8_leave 36 = .ok (.iconst 0, 1) := by decide +kernel
theorem dX8_leave_37 : decode cX8_leave 37 = .ok (.ireturn, 1) := by decide +kernel
theorem dX8_leave_38 : decode cX8_leave 38 = .ok (.aload_n 0, 1) := by decide +kernel
theorem dX8_leave_39 : decode cX8_leave 39 = .ok (.invokevirtual 79, 3) := by decide +kernel
theorem dX8_leave_42 : decode cX8_leave 42 = .ok (.aload_n 0, 1) := by decide +kernel
theorem dX8_leave_43 : decode cX8_leave 43 = .ok (.iload_n 1, 1) := by decide +kernel
theorem dX8_leave_44 : decode cX8_leave 44 = .ok (.invokevirtual 25, 3) := by decide +kernel
theorem dX8_leave_47 : decode cX8_leave 47 = .ok (.iconst 0, 1) := by decide +kernel
theorem dX8_leave_48 : decode cX8_leave 48 = .ok (.istore_n 2, 1) := by decide +kernel
theorem dX8_leave_49 : decode cX8_leave 49 = .ok (.aload_n 0, 1) := by decide +kernel
theorem dX8_leave_50 : decode cX8_leave 50 = .ok (.iload_n 2, 1) := by decide +kernel
theorem dX8_leave_51 : decode cX8_leave 51 = .ok (.iconst 0, 1) := by decide +kernel
theorem dX8_leave_52 : decode cX8_leave 52 = .ok (.invokevirtual 37, 3) := by decide +kernel
theorem dX8_leave_55 : decode cX8_leave 55 = .ok (.ifCond .ne 9, 3) := by decide +kernel
theorem dX8_leave_58 : decode cX8_leave 58 = .ok (.iinc 2 1, 3) := by decide +kernel
theorem dX8_leave_61 : decode cX8_leave 61 = .ok (.goto (-12), 3) := by decide +kernel
theorem dX8_leave_64 : decode cX8_leave 64 = .ok (.iconst 0, 1) := by decide +kernel
theorem dX8_leave_65 : decode cX8_leave 65 = .ok (.istore_n 3, 1) := by decide +kernel
theorem dX8_leave_66 : decode cX8_leave 66 = .ok (.aload_n 0, 1) := by decide +kernel
theorem dX8_leave_67 : decode cX8_leave 67 = .ok (.iload_n 1, 1) := by decide +kernel
theorem dX8_leave_68 : decode cX8_leave 68 = .ok (.iconst 0, 1) := by decide +kernel
theorem dX8_leave_69 : decode cX8_leave 69 = .ok (.invokevirtual 90, 3) := by decide +kernel
theorem dX8_leave_72 : decode cX8_leave 72 = .ok (.istore 4, 2) := by decide +kernel
theorem dX8_leave_74 : decode cX8_leave 74 = .ok (.iload 4, 2) := by decide +kernel
theorem dX8_leave_76 : decode cX8_leave 76 = .ok (.ifCond .lt 24, 3) := by decide +kernel
theorem dX8_leave_79 : decode cX8_leave 79 = .ok (.aload_n 0, 1) := by decide +kernel
theorem dX8_leave_80 : decode cX8_leave 80 = .ok (.iload 4, 2) := by decide +kernel
theorem dX8_leave_82 : decode cX8_leave 82 = .ok (.iload_n 2, 1) := by decide +kernel
theorem dX8_leave_83 : decode cX8_leave 83 = .ok (.invokevirtual 93, 3) := by decide +kernel
theorem dX8_leave_86 : decode cX8_leave 86 = .ok (.iinc 3 1, 3) := by decide +kernel
theorem dX8_leave_89 : decode cX8_leave 89 = .ok (.aload_n 0, 1) := by decide +kernel
theorem dX8_leave_90 : decode cX8_leave 90 = .ok (.iload_n 1, 1) := by decide +kernel
theorem dX8_leave_91 : decode cX8_leave 91 = .ok (.iconst 0, 1) := by decide +kernel
theorem dX8_leave_92 : decode cX8_leave 92 = .ok (.invokevirtual 90, 3) := by decide +kernel
theorem dX8_leave_95 : decode cX8_leave 95 = .ok (.istore 4, 2) := by decide +kernel
theorem dX8_leave_97 : decode cX8_leave 97 = .ok (.goto (-23), 3) := by decide +kernel
theorem dX8_leave_100 : decode cX8_leave 100 = .ok (.iload_n 3, 1) := by decide +kernel
theorem dX8_leave_101 : decode cX8_leave 101 = .ok (.ireturn, 1) := by decide +kernel
theorem dX8_whyNotEnter_0 : decode cX8_whyNotEnter 0 = .ok (.aload_n 0, 1) := by decide +kernel
theorem dX8_whyNotEnter_1 : decode cX8_whyNotEnter 1 = .ok (.iload_n 1, 1) := by decide +kernel
theorem dX8_whyNotEnter_2 : decode cX8_whyNotEnter 2 = .ok (.invokevirtual 86, 3) := by decide +kernel
theorem dX8_whyNotEnter_5 : decode cX8_whyNotEnter 5 = .ok (.ifCond .ne 7, 3) := by decide +kernel
theorem dX8_whyNotEnter_8 : decode cX8_whyNotEnter 8 = .ok (.iconst 1, 1) := by decide +kernel
theorem dX8_whyNotEnter_9 : decode cX8_whyNotEnter 9 = .ok (.goto 16, 3) := by decide +kernel
theorem dX8_whyNotEnter_12 : decode cX8_whyNotEnter 12 = .ok (.aload_n 0, 1) := by decide +kernel
theorem dX8_whyNotEnter_13 : decode cX8_whyNotEnter 13 = .ok (.iload_n 1, 1) := by decide +kernel
theorem dX8_whyNotEnter_14 : decode cX8_whyNotEnter 14 = .ok (.invokevirtual 97, 3) := by decide +kernel
theorem dX8_whyNotEnter_17 : decode cX8_whyNotEnter 17 = .ok (.ifCond .eq 7, 3) := by decide +kernel
theorem dX8_whyNotEnter_20 : decode cX8_whyNotEnter 20 = .ok (.iconst 2, 1) := by decide +kernel
theorem dX8_whyNotEnter_21 : decode cX8_whyNotEnter 21 = .ok (.goto 4, 3) := by decide +kernel
theorem dX8_whyNotEnter_24 : decode cX8_whyNotEnter 24 = .ok (.iconst 0, 1) := by decide +kernel
theorem dX8_whyNotEnter_25 : decode cX8_whyNotEnter 25 = .ok (.ireturn, 1) := by decide +kernel
theorem dX8_doEnter_0 : decode cX8_doEnter 0 = .ok (.aload_n 0, 1) := by decide +kernel
theorem dX8_doEnter_1 : decode cX8_doEnter 1 = .ok (.iload_n 1, 1) := by decide +kernel
theorem dX8_doEnter_2 : decode cX8_doEnter 2 = .ok (.iconst 1, 1) := by decide +kernel
theorem dX8_doEnter_3 : decode cX8_doEnter 3 = .ok (.iconst 1, 1) := by decide +kernel
theorem dX8_doEnter_4 : decode cX8_doEnter 4 = .ok (.invokevirtual 29, 3) := by decide +kernel
theorem dX8_doEnter_7 : decode cX8_doEnter 7 = .ok (.aload_n 0, 1) := by decide +kernel
theorem dX8_doEnter_8 : decode cX8_doEnter 8 = .ok (.iload_n 1, 1) := by decide +kernel
theorem dX8_doEnter_9 : decode cX8_doEnter 9 = .ok (.iconst 2, 1) := by decide +kernel
theorem dX8_doEnter_10 : decode cX8_doEnter 10 = .ok (.aload_n 0, 1) := by decide +kernel
theorem dX8_doEnter_11 : decode cX8_doEnter 11 = .ok (.getfield 7, 3) := by decide +kernel
theorem dX8_doEnter_14 : decode cX8_doEnter 14 = .ok (.iconst 0, 1) := by decide +kernel
theorem dX8_doEnter_15 : decode cX8_doEnter 15 = .ok (.iaload, 1) := by decide +kernel
theorem dX8_doEnter_16 : decode cX8_doEnter 16 = .ok (.invokevirtual 29, 3) := by decide +kernel
theorem dX8_doEnter_19 : decode cX8_doEnter 19 = .ok (.aload_n 0, 1) := by decide +kernel
theorem dX8_doEnter_20 : decode cX8_doEnter 20 = .ok (.getfield 7, 3) := by decide +kernel
theorem dX8_doEnter_23 : decode cX8_doEnter 23 = .ok (.iconst 0, 1) := by decide +kernel
theorem dX8_doEnter_24 : decode cX8_doEnter 24 = .ok (.iaload, 1) := by decide +kernel
theorem dX8_doEnter_25 : decode cX8_doEnter 25 = .ok (.ireturn, 1) := by decide +kernel
theorem dX8_enter_0 : decode cX8_enter 0 = .ok (.aload_n 0, 1) := by decide +kernel
theorem dX8_enter_1 : decode cX8_enter 1 = .ok (.aload_n 0, 1) := by decide +kernel
theorem dX8_enter_2 : decode cX8_enter 2 = .ok (.iload_n 1, 1) := by decide +kernel
theorem dX8_enter_3 : decode cX8_enter 3 = .ok (.invokevirtual 100, 3) := by decide +kernel
theorem dX8_enter_6 : decode cX8_enter 6 = .ok (.putfield 33, 3) := by decide +kernel
theorem dX8_enter_9 : decode cX8_enter 9 = .ok (.aload_n 0, 1) := by decide +kernel
theorem dX8_enter_10 : decode cX8_enter 10 = .ok (.getfield 33, 3) := by decide +kernel
theorem dX8_enter_13 : decode cX8_enter 13 = .ok (.ifCond .le 5, 3) := by decide +kernel
theorem dX8_enter_16 : decode cX8_enter 16 = .ok (.iconst 0, 1) := by decide +kernel
theorem dX8_enter_17 : decode cX8_enter 17 = .ok (.ireturn, 1) := by decide +kernel
theorem dX8_enter_18 : decode cX8_enter 18 = .ok (.aload_n 0, 1) := by decide +kernel
theorem dX8_enter_19 : decode cX8_enter 19 = .ok (.invokevirtual 79, 3) := by decide +kernel
theorem dX8_enter_22 : decode cX8_enter 22 = .ok (.aload_n 0, 1) := by decide +kernel
theorem dX8_enter_23 : decode cX8_enter 23 = .ok (.iload_n 1, 1) := by decide +kernel
theorem dX8_enter_24 : decode cX8_enter 24 = .ok (.invokevirtual 104, 3) := by decide +kernel
theorem dX8_enter_27 : decode cX8_enter 27 = .ok (.ireturn, 1) := by decide +kernel
theorem dX8_whyNotRest_0 : decode cX8_whyNotRest 0 = .ok (.aload_n 0, 1) := by decide +kernel
theorem dX8_whyNotRest_1 : decode cX8_whyNotRest 1 = .ok (.iload_n 1, 1) := by decide +kernel
theorem dX8_whyNotRest_2 : decode cX8_whyNotRest 2 = .ok (.invokevirtual 86, 3) := by decide +kernel
theorem dX8_whyNotRest_5 : decode cX8_whyNotRest 5 = .ok (.ifCond .ne 7, 3) := by decide +kernel
theorem dX8_whyNotRest_8 : decode cX8_whyNotRest 8 = .ok (.iconst 1, 1) := by decide +kernel
theorem dX8_whyNotRest_9 : decode cX8_whyNotRest 9 = .ok (.goto 16, 3) := by decide +kernel
theorem dX8_whyNotRest_12 : decode cX8_whyNotRest 12 = .ok (.aload_n 0, 1) := by decide +kernel
theorem dX8_whyNotRest_13 : decode cX8_whyNotRest 13 = .ok (.iload_n 1, 1) := by decide +kernel
theorem dX8_whyNotRest_14 : decode cX8_whyNotRest 14 = .ok (.invokevirtual 97, 3) := by decide +kernel
theorem dX8_whyNotRest_17 : decode cX8_whyNotRest 17 = .ok (.ifCond .eq 7, 3) := by decide +kernel
theorem dX8_whyNotRest_20 : decode cX8_whyNotRest 20 = .ok (.iconst 0, 1) := by decide +kernel
theorem dX8_whyNotRest_21 : decode cX8_whyNotRest 21 = .ok (.goto 4, 3) := by decide +kernel
theorem dX8_whyNotRest_24 : decode cX8_whyNotRest 24 = .ok (.iconst 2, 1) := by decide +kernel
theorem dX8_whyNotRest_25 : decode cX8_whyNotRest 25 = .ok (.ireturn, 1) := by decide +kernel
theorem dX8_doRest_0 : decode cX8_doRest 0 = .ok (.aload_n 0, 1) := by decide +kernel
theorem dX8_doRest_1 : decode cX8_doRest 1 = .ok (.iload_n 1, 1) := by decide +kernel
theorem dX8_doRest_2 : decode cX8_doRest 2 = .ok (.iconst 2, 1) := by decide +kernel
theorem dX8_doRest_3 : decode cX8_doRest 3 = .ok (.invokevirtual 107, 3) := by decide +kernel
theorem dX8_doRest_6 : decode cX8_doRest 6 = .ok (.istore_n 2, 1) := by decide +kernel
theorem dX8_doRest_7 : decode cX8_doRest 7 = .ok (.aload_n 0, 1) := by decide +kernel
theorem dX8_doRest_8 : decode cX8_doRest 8 = .ok (.iload_n 1, 1) := by decide +kernel
theorem dX8_doRest_9 : decode cX8_doRest 9 = .ok (.iconst 1, 1) := by decide +kernel
theorem dX8_doRest_10 : decode cX8_doRest 10 = .ok (.iconst 0, 1) := by decide +kernel
theorem dX8_doRest_11 : decode cX8_doRest 11 = .ok (.invokevirtual 29, 3) := by decide +kernel
theorem dX8_doRest_14 : decode cX8_doRest 14 = .ok (.aload_n 0, 1) := by decide +kernel
theorem dX8_doRest_15 : decode cX8_doRest 15 = .ok (.iload_n 1, 1) := by decide +kernel
theorem dX8_doRest_16 : decode cX8_doRest 16 = .ok (.iconst 2, 1) := by decide +kernel
theorem dX8_doRest_17 : decode cX8_doRest 17 = .ok (.iconst (-1), 1) := by decide +kernel
theorem dX8_doRest_18 : decode cX8_doRest 18 = .ok (.invokevirtual 29, 3) := by decide +kernel
theorem dX8_doRest_21 : decode cX8_doRest 21 = .ok (.aload_n 0, 1) := by decide +kernel
theorem dX8_doRest_22 : decode cX8_doRest 22 = .ok (.iload_n 1, 1) := by decide +kernel
theorem dX8_doRest_23 : decode cX8_doRest 23 = .ok (.invokevirtual 45, 3) := by decide +kernel
theorem dX8_doRest_26 : decode cX8_doRest 26 = .ok (.iload_n 2, 1) := by decide +kernel
theorem dX8_doRest_27 : decode cX8_doRest 27 = .ok (.ireturn, 1) := by decide +kernel
theorem dX8_rest_0 : decode cX8_rest 0 = .ok (.aload_n 0, 1) := by decide +kernel
theorem dX8_rest_1 : decode cX8_rest 1 = .ok (.aload_n 0, 1) := by decide +kernel
theorem dX8_rest_2 : decode cX8_rest 2 = .ok (.iload_n 1, 1) := by decide +kernel
theorem dX8_rest_3 : decode cX8_rest 3 = .ok (.invokevirtual 110, 3) := by decide +kernel
theorem dX8_rest_6 : decode cX8_rest 6 = .ok (.putfield 33, 3) := by decide +kernel
theorem dX8_rest_9 : decode cX8_rest 9 = .ok (.aload_n 0, 1) := by decide +kernel
theorem dX8_rest_10 : decode cX8_rest 10 = .ok (.getfield 33, 3) := by decide +kernel
theorem dX8_rest_13 : decode cX8_rest 13 = .ok (.ifCond .le 5, 3) := by decide +kernel
theorem dX8_rest_16 : decode cX8_rest 16 = .ok (.iconst 0, 1) := by decide +kernel
theorem dX8_rest_17 : decode cX8_rest 17 = .ok (.ireturn, 1) := by decide +kernel
theorem dX8_rest_18 : decode cX8_rest 18 = .ok (.aload_n 0, 1) := by decide +kernel
theorem dX8_rest_19 : decode cX8_rest 19 = .ok (.invokevirtual 79, 3) := by decide +kernel
theorem dX8_rest_22 : decode cX8_rest 22 = .ok (.aload_n 0, 1) := by decide +kernel
theorem dX8_rest_23 : decode cX8_rest 23 = .ok (.iload_n 1, 1) := by decide +kernel
theorem dX8_rest_24 : decode cX8_rest 24 = .ok (.invokevirtual 113, 3) := by decide +kernel
theorem dX8_rest_27 : decode cX8_rest 27 = .ok (.ireturn, 1) := by decide +kernel
theorem dX8_lateOnes_0 : decode cX8_lateOnes 0 = .ok (.iconst 0, 1) := by decide +kernel
theorem dX8_lateOnes_1 : decode cX8_lateOnes 1 = .ok (.istore_n 1, 1) := by decide +kernel
theorem dX8_lateOnes_2 : decode cX8_lateOnes 2 = .ok (.iconst 0, 1) := by decide +kernel
theorem dX8_lateOnes_3 : decode cX8_lateOnes 3 = .ok (.istore_n 2, 1) := by decide +kernel
theorem dX8_lateOnes_4 : decode cX8_lateOnes 4 = .ok (.iload_n 2, 1) := by decide +kernel
theorem dX8_lateOnes_5 : decode cX8_lateOnes 5 = .ok (.iconst 5, 1) := by decide +kernel
theorem dX8_lateOnes_6 : decode cX8_lateOnes 6 = .ok (.if_icmp .ge 42, 3) := by decide +kernel
theorem dX8_lateOnes_9 : decode cX8_lateOnes 9 = .ok (.iload_n 1, 1) := by decide +kernel
theorem dX8_lateOnes_10 : decode cX8_lateOnes 10 = .ok (.aload_n 0, 1) := by decide +kernel
theorem dX8_lateOnes_11 : decode cX8_lateOnes 11 = .ok (.iload_n 2, 1) := by decide +kernel
theorem dX8_lateOnes_12 : decode cX8_lateOnes 12 = .ok (.invokevirtual 97, 3) := by decide +kernel
theorem dX8_lateOnes_15 : decode cX8_lateOnes 15 = .ok (.ifCond .eq 24, 3) := by decide +kernel
theorem dX8_lateOnes_18 : decode cX8_lateOnes 18 = .ok (.aload_n 0, 1) := by decide +kernel
theorem dX8_lateOnes_19 : decode cX8_lateOnes 19 = .ok (.iload_n 2, 1) := by decide +kernel
theorem dX8_lateOnes_20 : decode cX8_lateOnes 20 = .ok (.iconst 2, 1) := by decide +kernel
theorem dX8_lateOnes_21 : decode cX8_lateOnes 21 = .ok (.invokevirtual 37, 3) := by decide +kernel
theorem dX8_lateOnes_24 : decode cX8_lateOnes 24 = .ok (.aload_n 0, 1) := by decide +kernel
theorem dX8_lateOnes_25 : decode cX8_lateOnes 25 = .ok (.getfield 7, 3) := by decide +kernel
theorem dX8_lateOnes_28 : decode cX8_lateOnes 28 = .ok (.iconst 0, 1) := by decide +kernel
theorem dX8_lateOnes_29 : decode cX8_lateOnes 29 = .ok (.iaload, 1) := by decide +kernel
theorem dX8_lateOnes_30 : decode cX8_lateOnes 30 = .ok (.if_icmp .eq 9, 3) := by decide +kernel
theorem dX8_lateOnes_33 : decode cX8_lateOnes 33 = .ok (.iconst 1, 1) := by decide +kernel
theorem dX8_lateOnes_34 : decode cX8_lateOnes 34 = .ok (.iload_n 2, 1) := by decide +kernel
theorem dX8_lateOnes_35 : decode cX8_lateOnes 35 = .ok (.ishl, 1) := by decide +kernel
theorem dX8_lateOnes_36 : decode cX8_lateOnes 36 = .ok (.goto 4, 3) := by decide +kernel
theorem dX8_lateOnes_39 : decode cX8_lateOnes 39 = .ok (.iconst 0, 1) := by decide +kernel
theorem dX8_lateOnes_40 : decode cX8_lateOnes 40 = .ok (.ior, 1) := by decide +kernel
theorem dX8_lateOnes_41 : decode cX8_lateOnes 41 = .ok (.istore_n 1, 1) := by decide +kernel
theorem dX8_lateOnes_42 : decode cX8_lateOnes 42 = .ok (.iinc 2 1, 3) := by decide +kernel
theorem dX8_lateOnes_45 : decode cX8_lateOnes 45 = .ok (.goto (-41), 3) := by decide +kernel
theorem dX8_lateOnes_48 : decode cX8_lateOnes 48 = .ok (.iload_n 1, 1) := by decide +kernel
theorem dX8_lateOnes_49 : decode cX8_lateOnes 49 = .ok (.ireturn, 1) := by decide +kernel
theorem dX8_doRing_0 : decode cX8_doRing 0 = .ok (.aload_n 0, 1) := by decide +kernel
theorem dX8_doRing_1 : decode cX8_doRing 1 = .ok (.getfield 7, 3) := by decide +kernel
theorem dX8_doRing_4 : decode cX8_doRing 4 = .ok (.iconst 0, 1) := by decide +kernel
theorem dX8_doRing_5 : decode cX8_doRing 5 = .ok (.dup2, 1) := by decide +kernel
theorem dX8_doRing_6 : decode cX8_doRing 6 = .ok (.iaload, 1) := by decide +kernel
theorem dX8_doRing_7 : decode cX8_doRing 7 = .ok (.iconst 1, 1) := by decide +kernel
theorem dX8_doRing_8 : decode cX8_doRing 8 = .ok (.iadd, 1) := by decide +kernel
theorem dX8_doRing_9 : decode cX8_doRing 9 = .ok (.iastore, 1) := by decide +kernel
theorem dX8_doRing_10 : decode cX8_doRing 10 = .ok (.aload_n 0, 1) := by decide +kernel
theorem dX8_doRing_11 : decode cX8_doRing 11 = .ok (.getfield 7, 3) := by decide +kernel
theorem dX8_doRing_14 : decode cX8_doRing 14 = .ok (.iconst 0, 1) := by decide +kernel
theorem dX8_doRing_15 : decode cX8_doRing 15 = .ok (.iaload, 1) := by decide +kernel
theorem dX8_doRing_16 : decode cX8_doRing 16 = .ok (.ireturn, 1) := by decide +kernel
theorem dX8_ring_0 : decode cX8_ring 0 = .ok (.aload_n 0, 1) := by decide +kernel
theorem dX8_ring_1 : decode cX8_ring 1 = .ok (.aload_n 0, 1) := by decide +kernel
theorem dX8_ring_2 : decode cX8_ring 2 = .ok (.invokevirtual 116, 3) := by decide +kernel
theorem dX8_ring_5 : decode cX8_ring 5 = .ok (.ifCond .ne 7, 3) := by decide +kernel
theorem dX8_ring_8 : decode cX8_ring 8 = .ok (.iconst 0, 1) := by decide +kernel
theorem dX8_ring_9 : decode cX8_ring 9 = .ok (.goto 4, 3) := by decide +kernel
theorem dX8_ring_12 : decode cX8_ring 12 = .ok (.iconst 1, 1) := by decide +kernel
theorem dX8_ring_13 : decode cX8_ring 13 = .ok (.putfield 33, 3) := by decide +kernel
theorem dX8_ring_16 : decode cX8_ring 16 = .ok (.aload_n 0, 1) := by decide +kernel
theorem dX8_ring_17 : decode cX8_ring 17 = .ok (.getfield 33, 3) := by decide +kernel
theorem dX8_ring_20 : decode cX8_ring 20 = .ok (.ifCond .le 5, 3) := by decide +kernel
theorem dX8_ring_23 : decode cX8_ring 23 = .ok (.iconst 0, 1) := by decide +kernel
theorem dX8_ring_24 : decode cX8_ring 24 = .ok (.ireturn, 1) := by decide +kernel
theorem dX8_ring_25 : decode cX8_ring 25 = .ok (.aload_n 0, 1) := by decide +kernel
theorem dX8_ring_26 : decode cX8_ring 26 = .ok (.invokevirtual 79, 3) := by decide +kernel
theorem dX8_ring_29 : decode cX8_ring 29 = .ok (.aload_n 0, 1) := by decide +kernel
theorem dX8_ring_30 : decode cX8_ring 30 = .ok (.invokevirtual 119, 3) := by decide +kernel
theorem dX8_ring_33 : decode cX8_ring 33 = .ok (.ireturn, 1) := by decide +kernel
theorem dX8_whyNotGrow_0 : decode cX8_whyNotGrow 0 = .ok (.iload_n 1, 1) := by decide +kernel
theorem dX8_whyNotGrow_1 : decode cX8_whyNotGrow 1 = .ok (.invokestatic 122, 3) := by decide +kernel
theorem dX8_whyNotGrow_4 : decode cX8_whyNotGrow 4 = .ok (.ifCond .ne 5, 3) := by decide +kernel
theorem dX8_whyNotGrow_7 : decode cX8_whyNotGrow 7 = .ok (.iconst 1, 1) := by decide +kernel
theorem dX8_whyNotGrow_8 : decode cX8_whyNotGrow 8 = .ok (.ireturn, 1) := by decide +kernel
theorem dX8_whyNotGrow_9 : decode cX8_whyNotGrow 9 = .ok (.iload_n 2, 1) := by decide +kernel
theorem dX8_whyNotGrow_10 : decode cX8_whyNotGrow 10 = .ok (.invokestatic 125, 3) := by decide +kernel
theorem dX8_whyNotGrow_13 : decode cX8_whyNotGrow 13 = .ok (.ifCond .ne 5, 3) := by decide +kernel
theorem dX8_whyNotGrow_16 : decode cX8_whyNotGrow 16 = .ok (.iconst 2, 1) := by decide +kernel
theorem dX8_whyNotGrow_17 : decode cX8_whyNotGrow 17 = .ok (.ireturn, 1) := by decide +kernel
theorem dX8_whyNotGrow_18 : decode cX8_whyNotGrow 18 = .ok (.aload_n 0, 1) := by decide +kernel
theorem dX8_whyNotGrow_19 : decode cX8_whyNotGrow 19 = .ok (.getfield 7, 3) := by decide +kernel
theorem dX8_whyNotGrow_22 : decode cX8_whyNotGrow 22 = .ok (.bipush 10, 2) := by decide +kernel
theorem dX8_whyNotGrow_24 : decode cX8_whyNotGrow 24 = .ok (.iload_n 1, 1) := by decide +kernel
theorem dX8_whyNotGrow_25 : decode cX8_whyNotGrow 25 = .ok (.iadd, 1) := by decide +kernel
theorem dX8_whyNotGrow_26 : decode cX8_whyNotGrow 26 = .ok (.iaload, 1) := by decide +kernel
theorem dX8_whyNotGrow_27 : decode cX8_whyNotGrow 27 = .ok (.ifCond .ge 14, 3) := by decide +kernel
theorem dX8_whyNotGrow_30 : decode cX8_whyNotGrow 30 = .ok (.aload_n 0, 1) := by decide +kernel
theorem dX8_whyNotGrow_31 : decode cX8_whyNotGrow 31 = .ok (.getfield 7, 3) := by decide +kernel
theorem dX8_whyNotGrow_34 : decode cX8_whyNotGrow 34 = .ok (.iconst 1, 1) := by decide +kernel
theorem dX8_whyNotGrow_35 : decode cX8_whyNotGrow 35 = .ok (.iaload, 1) := by decide +kernel
theorem dX8_whyNotGrow_36 : decode cX8_whyNotGrow 36 = .ok (.bipush 120, 2) := by decide +kernel
theorem dX8_whyNotGrow_38 : decode cX8_whyNotGrow 38 = .ok (.if_icmp .ne 7, 3) := by decide +kernel
theorem dX8_whyNotGrow_41 : decode cX8_whyNotGrow 41 = .ok (.iconst 3, 1) := by decide +kernel
theorem dX8_whyNotGrow_42 : decode cX8_whyNotGrow 42 = .ok (.goto 4, 3) := by decide +kernel
theorem dX8_whyNotGrow_45 : decode cX8_whyNotGrow 45 = .ok (.iconst 0, 1) := by decide +kernel
theorem dX8_whyNotGrow_46 : decode cX8_whyNotGrow 46 = .ok (.ireturn, 1) := by decide +kernel
theorem dX8_doGrow_0 : decode cX8_doGrow 0 = .ok (.aload_n 0, 1) := by decide +kernel
theorem dX8_doGrow_1 : decode cX8_doGrow 1 = .ok (.getfield 7, 3) := by decide +kernel
theorem dX8_doGrow_4 : decode cX8_doGrow 4 = .ok (.iconst 1, 1) := by decide +kernel
theorem dX8_doGrow_5 : decode cX8_doGrow 5 = .ok (.iaload, 1) := by decide +kernel
theorem dX8_doGrow_6 : decode cX8_doGrow 6 = .ok (.istore_n 3, 1) := by decide +kernel
theorem dX8_doGrow_7 : decode cX8_doGrow 7 = .ok (.aload_n 0, 1) := by decide +kernel
theorem dX8_doGrow_8 : decode cX8_doGrow 8 = .ok (.getfield 7, 3) := by decide +kernel
theorem dX8_doGrow_11 : decode cX8_doGrow 11 = .ok (.iconst 1, 1) := by decide +kernel
theorem dX8_doGrow_12 : decode cX8_doGrow 12 = .ok (.dup2, 1) := by decide +kernel
theorem dX8_doGrow_13 : decode cX8_doGrow 13 = .ok (.iaload, 1) := by decide +kernel
theorem dX8_doGrow_14 : decode cX8_doGrow 14 = .ok (.iconst 1, 1) := by decide +kernel
theorem dX8_doGrow_15 : decode cX8_doGrow 15 = .ok (.iadd, 1) := by decide +kernel
theorem dX8_doGrow_16 : decode cX8_doGrow 16 = .ok (.iastore, 1) := by decide +kernel
theorem dX8_doGrow_17 : decode cX8_doGrow 17 = .ok (.aload_n 0, 1) := by decide +kernel
theorem dX8_doGrow_18 : decode cX8_doGrow 18 = .ok (.getfield 7, 3) := by decide +kernel
theorem dX8_doGrow_21 : decode cX8_doGrow 21 = .ok (.bipush 10, 2) := by decide +kernel
theorem dX8_doGrow_23 : decode cX8_doGrow 23 = .ok (.iload_n 1, 1) := by decide +kernel
theorem dX8_doGrow_24 : decode cX8_doGrow 24 = .ok (.iadd, 1) := by decide +kernel
theorem dX8_doGrow_25 : decode cX8_doGrow 25 = .ok (.iload_n 3, 1) := by decide +kernel
theorem dX8_doGrow_26 : decode cX8_doGrow 26 = .ok (.iastore, 1) := by decide +kernel
theorem dX8_doGrow_27 : decode cX8_doGrow 27 = .ok (.aload_n 0, 1) := by decide +kernel
theorem dX8_doGrow_28 : decode cX8_doGrow 28 = .ok (.iload_n 3, 1) := by decide +kernel
theorem dX8_doGrow_29 : decode cX8_doGrow 29 = .ok (.iconst 0, 1) := by decide +kernel
theorem dX8_doGrow_30 : decode cX8_doGrow 30 = .ok (.iload_n 2, 1) := by decide +kernel
theorem dX8_doGrow_31 : decode cX8_doGrow 31 = .ok (.invokevirtual 63, 3) := by decide +kernel
theorem dX8_doGrow_34 : decode cX8_doGrow 34 = .ok (.aload_n 0, 1) := by decide +kernel
theorem dX8_doGrow_35 : decode cX8_doGrow 35 = .ok (.iload_n 3, 1) := by decide +kernel
theorem dX8_doGrow_36 : decode cX8_doGrow 36 = .ok (.iconst 1, 1) := by decide +kernel
theorem dX8_doGrow_37 : decode cX8_doGrow 37 = .ok (.iconst 0, 1) := by decide +kernel
theorem dX8_doGrow_38 : decode cX8_doGrow 38 = .ok (.invokevirtual 63, 3) := by decide +kernel
theorem dX8_doGrow_41 : decode cX8_doGrow 41 = .ok (.aload_n 0, 1) := by decide +kernel
theorem dX8_doGrow_42 : decode cX8_doGrow 42 = .ok (.iload_n 3, 1) := by decide +kernel
theorem dX8_doGrow_43 : decode cX8_doGrow 43 = .ok (.iconst 2, 1) := by decide +kernel
theorem dX8_doGrow_44 : decode cX8_doGrow 44 = .ok (.iload_n 1, 1) := by decide +kernel
theorem dX8_doGrow_45 : decode cX8_doGrow 45 = .ok (.invokevirtual 63, 3) := by decide +kernel
theorem dX8_doGrow_48 : decode cX8_doGrow 48 = .ok (.aload_n 0, 1) := by decide +kernel
theorem dX8_doGrow_49 : decode cX8_doGrow 49 = .ok (.iload_n 3, 1) := by decide +kernel
theorem dX8_doGrow_50 : decode cX8_doGrow 50 = .ok (.iconst 3, 1) := by decide +kernel
theorem dX8_doGrow_51 : decode cX8_doGrow 51 = .ok (.iconst (-1), 1) := by decide +kernel
theorem dX8_doGrow_52 : decode cX8_doGrow 52 = .ok (.invokevirtual 63, 3) := by decide +kernel
theorem dX8_doGrow_55 : decode cX8_doGrow 55 = .ok (.iload_n 3, 1) := by decide +kernel
theorem dX8_doGrow_56 : decode cX8_doGrow 56 = .ok (.ireturn, 1) := by decide +kernel
theorem dX8_grow_0 : decode cX8_grow 0 = .ok (.aload_n 0, 1) := by decide +kernel
theorem dX8_grow_1 : decode cX8_grow 1 = .ok (.aload_n 0, 1) := by decide +kernel
theorem dX8_grow_2 : decode cX8_grow 2 = .ok (.iload_n 1, 1) := by decide +kernel
theorem dX8_grow_3 : decode cX8_grow 3 = .ok (.iload_n 2, 1) := by decide +kernel
theorem dX8_grow_4 : decode cX8_grow 4 = .ok (.invokevirtual 128, 3) := by decide +kernel
theorem dX8_grow_7 : decode cX8_grow 7 = .ok (.putfield 33, 3) := by decide +kernel
theorem dX8_grow_10 : decode cX8_grow 10 = .ok (.aload_n 0, 1) := by decide +kernel
theorem dX8_grow_11 : decode cX8_grow 11 = .ok (.getfield 33, 3) := by decide +kernel
theorem dX8_grow_14 : decode cX8_grow 14 = .ok (.ifCond .le 5, 3) := by decide +kernel
theorem dX8_grow_17 : decode cX8_grow 17 = .ok (.iconst 0, 1) := by decide +kernel
theorem dX8_grow_18 : decode cX8_grow 18 = .ok (.ireturn, 1) := by decide +kernel
theorem dX8_grow_19 : decode cX8_grow 19 = .ok (.aload_n 0, 1) := by decide +kernel
theorem dX8_grow_20 : decode cX8_grow 20 = .ok (.invokevirtual 79, 3) := by decide +kernel
theorem dX8_grow_23 : decode cX8_grow 23 = .ok (.aload_n 0, 1) := by decide +kernel
theorem dX8_grow_24 : decode cX8_grow 24 = .ok (.iload_n 1, 1) := by decide +kernel
theorem dX8_grow_25 : decode cX8_grow 25 = .ok (.iload_n 2, 1) := by decide +kernel
theorem dX8_grow_26 : decode cX8_grow 26 = .ok (.invokevirtual 131, 3) := by decide +kernel
theorem dX8_grow_29 : decode cX8_grow 29 = .ok (.ireturn, 1) := by decide +kernel
theorem dX8_whyNotNote_0 : decode cX8_whyNotNote 0 = .ok (.aload_n 0, 1) := by decide +kernel
theorem dX8_whyNotNote_1 : decode cX8_whyNotNote 1 = .ok (.iload_n 1, 1) := by decide +kernel
theorem dX8_whyNotNote_2 : decode cX8_whyNotNote 2 = .ok (.invokevirtual 86, 3) := by decide +kernel
theorem dX8_whyNotNote_5 : decode cX8_whyNotNote 5 = .ok (.ifCond .eq 17, 3) := by decide +kernel
theorem dX8_whyNotNote_8 : decode cX8_whyNotNote 8 = .ok (.iload_n 2, 1) := by decide +kernel
theorem dX8_whyNotNote_9 : decode cX8_whyNotNote 9 = .ok (.invokestatic 134, 3) := by decide +kernel
theorem dX8_whyNotNote_12 : decode cX8_whyNotNote 12 = .ok (.ifCond .eq 10, 3) := by decide +kernel
theorem dX8_whyNotNote_15 : decode cX8_whyNotNote 15 = .ok (.iload_n 3, 1) := by decide +kernel
theorem dX8_whyNotNote_16 : decode cX8_whyNotNote 16 = .ok (.invokestatic 122, 3) := by decide +kernel
theorem dX8_whyNotNote_19 : decode cX8_whyNotNote 19 = .ok (.ifCond .ne 5, 3) := by decide +kernel
theorem dX8_whyNotNote_22 : decode cX8_whyNotNote 22 = .ok (.iconst 1, 1) := by decide +kernel
theorem dX8_whyNotNote_23 : decode cX8_whyNotNote 23 = .ok (.ireturn, 1) := by decide +kernel
theorem dX8_whyNotNote_24 : decode cX8_whyNotNote 24 = .ok (.aload_n 0, 1) := by decide +kernel
theorem dX8_whyNotNote_25 : decode cX8_whyNotNote 25 = .ok (.iload_n 1, 1) := by decide +kernel
theorem dX8_whyNotNote_26 : decode cX8_whyNotNote 26 = .ok (.invokevirtual 97, 3) := by decide +kernel
theorem dX8_whyNotNote_29 : decode cX8_whyNotNote 29 = .ok (.ifCond .eq 25, 3) := by decide +kernel
theorem dX8_whyNotNote_32 : decode cX8_whyNotNote 32 = .ok (.aload_n 0, 1) := by decide +kernel
theorem dX8_whyNotNote_33 : decode cX8_whyNotNote 33 = .ok (.iload_n 1, 1) := by decide +kernel
theorem dX8_whyNotNote_34 : decode cX8_whyNotNote 34 = .ok (.iload_n 2, 1) := by decide +kernel
theorem dX8_whyNotNote_35 : decode cX8_whyNotNote 35 = .ok (.iconst 0, 1) := by decide +kernel
theorem dX8_whyNotNote_36 : decode cX8_whyNotNote 36 = .ok (.invokevirtual 52, 3) := by decide +kernel
theorem dX8_whyNotNote_39 : decode cX8_whyNotNote 39 = .ok (.ifCond .ne 15, 3) := by decide +kernel
theorem dX8_whyNotNote_42 : decode cX8_whyNotNote 42 = .ok (.aload_n 0, 1) := by decide +kernel
theorem dX8_whyNotNote_43 : decode cX8_whyNotNote 43 = .ok (.getfield 7, 3) := by decide +kernel
theorem dX8_whyNotNote_46 : decode cX8_whyNotNote 46 = .ok (.bipush 10, 2) := by decide +kernel
theorem dX8_whyNotNote_48 : decode cX8_whyNotNote 48 = .ok (.iload_n 3, 1) := by decide +kernel
theorem dX8_whyNotNote_49 : decode cX8_whyNotNote 49 = .ok (.iadd, 1) := by decide +kernel
theorem dX8_whyNotNote_50 : decode cX8_whyNotNote 50 = .ok (.iaload, 1) := by decide +kernel
theorem dX8_whyNotNote_51 : decode cX8_whyNotNote 51 = .ok (.ifCond .ge 7, 3) := by decide +kernel
theorem dX8_whyNotNote_54 : decode cX8_whyNotNote 54 = .ok (.iconst 2, 1) := by decide +kernel
theorem dX8_whyNotNote_55 : decode cX8_whyNotNote 55 = .ok (.goto 4, 3) := by decide +kernel
theorem dX8_whyNotNote_58 : decode cX8_whyNotNote 58 = .ok (.iconst 0, 1) := by decide +kernel
theorem dX8_whyNotNote_59 : decode cX8_whyNotNote 59 = .ok (.ireturn, 1) := by decide +kernel
theorem dX8_doNote_0 : decode cX8_doNote 0 = .ok (.aload_n 0, 1) := by decide +kernel
theorem dX8_doNote_1 : decode cX8_doNote 1 = .ok (.iload_n 1, 1) := by decide +kernel
theorem dX8_doNote_2 : decode cX8_doNote 2 = .ok (.iload_n 2, 1) := by decide +kernel
theorem dX8_doNote_3 : decode cX8_doNote 3 = .ok (.iconst 1, 1) := by decide +kernel
theorem dX8_doNote_4 : decode cX8_doNote 4 = .ok (.aload_n 0, 1) := by decide +kernel
theorem dX8_doNote_5 : decode cX8_doNote 5 = .ok (.getfield 7, 3) := by decide +kernel
theorem dX8_doNote_8 : decode cX8_doNote 8 = .ok (.bipush 10, 2) := by decide +kernel
theorem dX8_doNote_10 : decode cX8_doNote 10 = .ok (.iload_n 3, 1) := by decide +kernel
theorem dX8_doNote_11 : decode cX8_doNote 11 = .ok (.iadd, 1) := by decide +kernel
theorem dX8_doNote_12 : decode cX8_doNote 12 = .ok (.iaload, 1) := by decide +kernel
theorem dX8_doNote_13 : decode cX8_doNote 13 = .ok (.iload_n 3, 1) := by decide +kernel
theorem dX8_doNote_14 : decode cX8_doNote 14 = .ok (.invokevirtual 41, 3) := by decide +kernel
theorem dX8_doNote_17 : decode cX8_doNote 17 = .ok (.aload_n 0, 1) := by decide +kernel
theorem dX8_doNote_18 : decode cX8_doNote 18 = .ok (.getfield 7, 3) := by decide +kernel
theorem dX8_doNote_21 : decode cX8_doNote 21 = .ok (.bipush 10, 2) := by decide +kernel
theorem dX8_doNote_23 : decode cX8_doNote 23 = .ok (.iload_n 3, 1) := by decide +kernel
theorem dX8_doNote_24 : decode cX8_doNote 24 = .ok (.iadd, 1) := by decide +kernel
theorem dX8_doNote_25 : decode cX8_doNote 25 = .ok (.iaload, 1) := by decide +kernel
theorem dX8_doNote_26 : decode cX8_doNote 26 = .ok (.ireturn, 1) := by decide +kernel
theorem dX8_note_0 : decode cX8_note 0 = .ok (.aload_n 0, 1) := by decide +kernel
theorem dX8_note_1 : decode cX8_note 1 = .ok (.aload_n 0, 1) := by decide +kernel
theorem dX8_note_2 : decode cX8_note 2 = .ok (.iload_n 1, 1) := by decide +kernel
theorem dX8_note_3 : decode cX8_note 3 = .ok (.iload_n 2, 1) := by decide +kernel
theorem dX8_note_4 : decode cX8_note 4 = .ok (.iload_n 3, 1) := by decide +kernel
theorem dX8_note_5 : decode cX8_note 5 = .ok (.invokevirtual 137, 3) := by decide +kernel
theorem dX8_note_8 : decode cX8_note 8 = .ok (.putfield 33, 3) := by decide +kernel
theorem dX8_note_11 : decode cX8_note 11 = .ok (.aload_n 0, 1) := by decide +kernel
theorem dX8_note_12 : decode cX8_note 12 = .ok (.getfield 33, 3) := by decide +kernel
theorem dX8_note_15 : decode cX8_note 15 = .ok (.ifCond .le 5, 3) := by decide +kernel
theorem dX8_note_18 : decode cX8_note 18 = .ok (.iconst 0, 1) := by decide +kernel
theorem dX8_note_19 : decode cX8_note 19 = .ok (.ireturn, 1) := by decide +kernel
theorem dX8_note_20 : decode cX8_note 20 = .ok (.aload_n 0, 1) := by decide +kernel
theorem dX8_note_21 : decode cX8_note 21 = .ok (.invokevirtual 79, 3) := by decide +kernel
theorem dX8_note_24 : decode cX8_note 24 = .ok (.aload_n 0, 1) := by decide +kernel
theorem dX8_note_25 : decode cX8_note 25 = .ok (.iload_n 1, 1) := by decide +kernel
theorem dX8_note_26 : decode cX8_note 26 = .ok (.iload_n 2, 1) := by decide +kernel
theorem dX8_note_27 : decode cX8_note 27 = .ok (.iload_n 3, 1) := by decide +kernel
theorem dX8_note_28 : decode cX8_note 28 = .ok (.invokevirtual 140, 3) := by decide +kernel
theorem dX8_note_31 : decode cX8_note 31 = .ok (.ireturn, 1) := by decide +kernel
theorem dX8_whyNotPin_0 : decode cX8_whyNotPin 0 = .ok (.aload_n 0, 1) := by decide +kernel
theorem dX8_whyNotPin_1 : decode cX8_whyNotPin 1 = .ok (.iload_n 1, 1) := by decide +kernel
theorem dX8_whyNotPin_2 : decode cX8_whyNotPin 2 = .ok (.invokevirtual 86, 3) := by decide +kernel
theorem dX8_whyNotPin_5 : decode cX8_whyNotPin 5 = .ok (.ifCond .eq 10, 3) := by decide +kernel
theorem dX8_whyNotPin_8 : decode cX8_whyNotPin 8 = .ok (.iload_n 2, 1) := by decide +kernel
theorem dX8_whyNotPin_9 : decode cX8_whyNotPin 9 = .ok (.invokestatic 134, 3) := by decide +kernel
theorem dX8_whyNotPin_12 : decode cX8_whyNotPin 12 = .ok (.ifCond .ne 7, 3) := by decide +kernel
theorem dX8_whyNotPin_15 : decode cX8_whyNotPin 15 = .ok (.iconst 1, 1) := by decide +kernel
theorem dX8_whyNotPin_16 : decode cX8_whyNotPin 16 = .ok (.goto 19, 3) := by decide +kernel
theorem dX8_whyNotPin_19 : decode cX8_whyNotPin 19 = .ok (.aload_n 0, 1) := by decide +kernel
theorem dX8_whyNotPin_20 : decode cX8_whyNotPin 20 = .ok (.iload_n 1, 1) := by decide +kernel
theorem dX8_whyNotPin_21 : decode cX8_whyNotPin 21 = .ok (.iload_n 2, 1) := by decide +kernel
theorem dX8_whyNotPin_22 : decode cX8_whyNotPin 22 = .ok (.iconst 0, 1) := by decide +kernel
theorem dX8_whyNotPin_23 : decode cX8_whyNotPin 23 = .ok (.invokevirtual 52, 3) := by decide +kernel
theorem dX8_whyNotPin_26 : decode cX8_whyNotPin 26 = .ok (.iconst 1, 1) := by decide +kernel
theorem dX8_whyNotPin_27 : decode cX8_whyNotPin 27 = .ok (.if_icmp .ne 7, 3) := by decide +kernel
theorem dX8_whyNotPin_30 : decode cX8_whyNotPin 30 = .ok (.iconst 0, 1) := by decide +kernel
theorem dX8_whyNotPin_31 : decode cX8_whyNotPin 31 = .ok (.goto 4, 3) := by decide +kernel
theorem dX8_whyNotPin_34 : decode cX8_whyNotPin 34 = .ok (.iconst 2, 1) := by decide +kernel
theorem dX8_whyNotPin_35 : decode cX8_whyNotPin 35 = .ok (.ireturn, 1) := by decide +kernel
theorem dX8_doPin_0 : decode cX8_doPin 0 = .ok (.aload_n 0, 1) := by decide +kernel
theorem dX8_doPin_1 : decode cX8_doPin 1 = .ok (.iload_n 1, 1) := by decide +kernel
theorem dX8_doPin_2 : decode cX8_doPin 2 = .ok (.iload_n 2, 1) := by decide +kernel
theorem dX8_doPin_3 : decode cX8_doPin 3 = .ok (.iconst 1, 1) := by decide +kernel
theorem dX8_doPin_4 : decode cX8_doPin 4 = .ok (.invokevirtual 52, 3) := by decide +kernel
theorem dX8_doPin_7 : decode cX8_doPin 7 = .ok (.istore_n 3, 1) := by decide +kernel
theorem dX8_doPin_8 : decode cX8_doPin 8 = .ok (.aload_n 0, 1) := by decide +kernel
theorem dX8_doPin_9 : decode cX8_doPin 9 = .ok (.getfield 7, 3) := by decide +kernel
theorem dX8_doPin_12 : decode cX8_doPin 12 = .ok (.bipush 10, 2) := by decide +kernel
theorem dX8_doPin_14 : decode cX8_doPin 14 = .ok (.aload_n 0, 1) := by decide +kernel
theorem dX8_doPin_15 : decode cX8_doPin 15 = .ok (.iload_n 1, 1) := by decide +kernel
theorem dX8_doPin_16 : decode cX8_doPin 16 = .ok (.iload_n 2, 1) := by decide +kernel
theorem dX8_doPin_17 : decode cX8_doPin 17 = .ok (.iconst 2, 1) := by decide +kernel
theorem dX8_doPin_18 : decode cX8_doPin 18 = .ok (.invokevirtual 52, 3) := by decide +kernel
theorem dX8_doPin_21 : decode cX8_doPin 21 = .ok (.iadd, 1) := by decide +kernel
theorem dX8_doPin_22 : decode cX8_doPin 22 = .ok (.iaload, 1) := by decide +kernel
theorem dX8_doPin_23 : decode cX8_doPin 23 = .ok (.iload_n 3, 1) := by decide +kernel
theorem dX8_doPin_24 : decode cX8_doPin 24 = .ok (.if_icmp .ne 7, 3) := by decide +kernel
theorem dX8_doPin_27 : decode cX8_doPin 27 = .ok (.iconst 1, 1) := by decide +kernel
theorem dX8_doPin_28 : decode cX8_doPin 28 = .ok (.goto 4, 3) := by decide +kernel
theorem dX8_doPin_31 : decode cX8_doPin 31 = .ok (.iconst 0, 1) := by decide +kernel
theorem dX8_doPin_32 : decode cX8_doPin 32 = .ok (.istore 4, 2) := by decide +kernel
theorem dX8_doPin_34 : decode cX8_doPin 34 = .ok (.iload 4, 2) := by decide +kernel
theorem dX8_doPin_36 : decode cX8_doPin 36 = .ok (.ifCond .eq 15, 3) := by decide +kernel
theorem dX8_doPin_39 : decode cX8_doPin 39 = .ok (.aload_n 0, 1) := by decide +kernel
theorem dX8_doPin_40 : decode cX8_doPin 40 = .ok (.iload_n 1, 1) := by decide +kernel
theorem dX8_doPin_41 : decode cX8_doPin 41 = .ok (.iload_n 2, 1) := by decide +kernel
theorem dX8_doPin_42 : decode cX8_doPin 42 = .ok (.iconst 2, 1) := by decide +kernel
theorem dX8_doPin_43 : decode cX8_doPin 43 = .ok (.iload_n 3, 1) := by decide +kernel
theorem dX8_doPin_44 : decode cX8_doPin 44 = .ok (.iconst (-1), 1) := by decide +kernel
theorem dX8_doPin_45 : decode cX8_doPin 45 = .ok (.invokevirtual 41, 3) := by decide +kernel
theorem dX8_doPin_48 : decode cX8_doPin 48 = .ok (.goto 22, 3) := by decide +kernel
theorem dX8_doPin_51 : decode cX8_doPin 51 = .ok (.aload_n 0, 1) := by decide +kernel
theorem dX8_doPin_52 : decode cX8_doPin 52 = .ok (.iload_n 1, 1) := by decide +kernel
theorem dX8_doPin_53 : decode cX8_doPin 53 = .ok (.iload_n 2, 1) := by decide +kernel
theorem dX8_doPin_54 : decode cX8_doPin 54 = .ok (.iconst 0, 1) := by decide +kernel
theorem dX8_doPin_55 : decode cX8_doPin 55 = .ok (.iconst (-1), 1) := by decide +kernel
theorem dX8_doPin_56 : decode cX8_doPin 56 = .ok (.iconst (-1), 1) := by decide +kernel
theorem dX8_doPin_57 : decode cX8_doPin 57 = .ok (.invokevirtual 41, 3) := by decide +kernel
theorem dX8_doPin_60 : decode cX8_doPin 60 = .ok (.aload_n 0, 1) := by decide +kernel
theorem dX8_doPin_61 : decode cX8_doPin 61 = .ok (.getfield 7, 3) := by decide +kernel
theorem dX8_doPin_64 : decode cX8_doPin 64 = .ok (.iconst 4, 1) := by decide +kernel
theorem dX8_doPin_65 : decode cX8_doPin 65 = .ok (.dup2, 1) := by decide +kernel
theorem dX8_doPin_66 : decode cX8_doPin 66 = .ok (.iaload, 1) := by decide +kernel
theorem dX8_doPin_67 : decode cX8_doPin 67 = .ok (.iconst 1, 1) := by decide +kernel
theorem dX8_doPin_68 : decode cX8_doPin 68 = .ok (.iadd, 1) := by decide +kernel
theorem dX8_doPin_69 : decode cX8_doPin 69 = .ok (.iastore, 1) := by decide +kernel
theorem dX8_doPin_70 : decode cX8_doPin 70 = .ok (.iload 4, 2) := by decide +kernel
theorem dX8_doPin_72 : decode cX8_doPin 72 = .ok (.ifCond .eq 7, 3) := by decide +kernel
theorem dX8_doPin_75 : decode cX8_doPin 75 = .ok (.iconst 1, 1) := by decide +kernel
theorem dX8_doPin_76 : decode cX8_doPin 76 = .ok (.goto 4, 3) := by decide +kernel
theorem dX8_doPin_79 : decode cX8_doPin 79 = .ok (.iconst 0, 1) := by decide +kernel
theorem dX8_doPin_80 : decode cX8_doPin 80 = .ok (.ireturn, 1) := by decide +kernel
theorem dX8_pin_0 : decode cX8_pin 0 = .ok (.aload_n 0, 1) := by decide +kernel
theorem dX8_pin_1 : decode cX8_pin 1 = .ok (.aload_n 0, 1) := by decide +kernel
theorem dX8_pin_2 : decode cX8_pin 2 = .ok (.iload_n 1, 1) := by decide +kernel
theorem dX8_pin_3 : decode cX8_pin 3 = .ok (.iload_n 2, 1) := by decide +kernel
theorem dX8_pin_4 : decode cX8_pin 4 = .ok (.invokevirtual 143, 3) := by decide +kernel
theorem dX8_pin_7 : decode cX8_pin 7 = .ok (.putfield 33, 3) := by decide +kernel
theorem dX8_pin_10 : decode cX8_pin 10 = .ok (.aload_n 0, 1) := by decide +kernel
theorem dX8_pin_11 : decode cX8_pin 11 = .ok (.getfield 33, 3) := by decide +kernel
theorem dX8_pin_14 : decode cX8_pin 14 = .ok (.ifCond .le 5, 3) := by decide +kernel
theorem dX8_pin_17 : decode cX8_pin 17 = .ok (.iconst 0, 1) := by decide +kernel
theorem dX8_pin_18 : decode cX8_pin 18 = .ok (.ireturn, 1) := by decide +kernel
theorem dX8_pin_19 : decode cX8_pin 19 = .ok (.aload_n 0, 1) := by decide +kernel
theorem dX8_pin_20 : decode cX8_pin 20 = .ok (.invokevirtual 79, 3) := by decide +kernel
theorem dX8_pin_23 : decode cX8_pin 23 = .ok (.aload_n 0, 1) := by decide +kernel
theorem dX8_pin_24 : decode cX8_pin 24 = .ok (.iload_n 1, 1) := by decide +kernel
theorem dX8_pin_25 : decode cX8_pin 25 = .ok (.iload_n 2, 1) := by decide +kernel
theorem dX8_pin_26 : decode cX8_pin 26 = .ok (.invokevirtual 146, 3) := by decide +kernel
theorem dX8_pin_29 : decode cX8_pin 29 = .ok (.ireturn, 1) := by decide +kernel
theorem dX8_whyNotUse_0 : decode cX8_whyNotUse 0 = .ok (.aload_n 0, 1) := by decide +kernel
theorem dX8_whyNotUse_1 : decode cX8_whyNotUse 1 = .ok (.iload_n 1, 1) := by decide +kernel
theorem dX8_whyNotUse_2 : decode cX8_whyNotUse 2 = .ok (.invokevirtual 86, 3) := by decide +kernel
theorem dX8_whyNotUse_5 : decode cX8_whyNotUse 5 = .ok (.ifCond .eq 10, 3) := by decide +kernel
theorem dX8_whyNotUse_8 : decode cX8_whyNotUse 8 = .ok (.iload_n 2, 1) := by decide +kernel
theorem dX8_whyNotUse_9 : decode cX8_whyNotUse 9 = .ok (.invokestatic 134, 3) := by decide +kernel
theorem dX8_whyNotUse_12 : decode cX8_whyNotUse 12 = .ok (.ifCond .ne 7, 3) := by decide +kernel
theorem dX8_whyNotUse_15 : decode cX8_whyNotUse 15 = .ok (.iconst 1, 1) := by decide +kernel
theorem dX8_whyNotUse_16 : decode cX8_whyNotUse 16 = .ok (.goto 18, 3) := by decide +kernel
theorem dX8_whyNotUse_19 : decode cX8_whyNotUse 19 = .ok (.aload_n 0, 1) := by decide +kernel
theorem dX8_whyNotUse_20 : decode cX8_whyNotUse 20 = .ok (.iload_n 1, 1) := by decide +kernel
theorem dX8_whyNotUse_21 : decode cX8_whyNotUse 21 = .ok (.iload_n 2, 1) := by decide +kernel
theorem dX8_whyNotUse_22 : decode cX8_whyNotUse 22 = .ok (.iconst 0, 1) := by decide +kernel
theorem dX8_whyNotUse_23 : decode cX8_whyNotUse 23 = .ok (.invokevirtual 52, 3) := by decide +kernel
theorem dX8_whyNotUse_26 : decode cX8_whyNotUse 26 = .ok (.ifCond .ne 7, 3) := by decide +kernel
theorem dX8_whyNotUse_29 : decode cX8_whyNotUse 29 = .ok (.iconst 2, 1) := by decide +kernel
theorem dX8_whyNotUse_30 : decode cX8_whyNotUse 30 = .ok (.goto 4, 3) := by decide +kernel
theorem dX8_whyNotUse_33 : decode cX8_whyNotUse 33 = .ok (.iconst 0, 1) := by decide +kernel
theorem dX8_whyNotUse_34 : decode cX8_whyNotUse 34 = .ok (.ireturn, 1) := by decide +kernel
theorem dX8_doLoosen_0 : decode cX8_doLoosen 0 = .ok (.aload_n 0, 1) := by decide +kernel
theorem dX8_doLoosen_1 : decode cX8_doLoosen 1 = .ok (.iload_n 1, 1) := by decide +kernel
theorem dX8_doLoosen_2 : decode cX8_doLoosen 2 = .ok (.iload_n 2, 1) := by decide +kernel
theorem dX8_doLoosen_3 : decode cX8_doLoosen 3 = .ok (.iconst 1, 1) := by decide +kernel
theorem dX8_doLoosen_4 : decode cX8_doLoosen 4 = .ok (.invokevirtual 52, 3) := by decide +kernel
theorem dX8_doLoosen_7 : decode cX8_doLoosen 7 = .ok (.istore_n 3, 1) := by decide +kernel
theorem dX8_doLoosen_8 : decode cX8_doLoosen 8 = .ok (.aload_n 0, 1) := by decide +kernel
theorem dX8_doLoosen_9 : decode cX8_doLoosen 9 = .ok (.iload_n 1, 1) := by decide +kernel
theorem dX8_doLoosen_10 : decode cX8_doLoosen 10 = .ok (.iload_n 2, 1) := by decide +kernel
theorem dX8_doLoosen_11 : decode cX8_doLoosen 11 = .ok (.iconst 0, 1) := by decide +kernel
theorem dX8_doLoosen_12 : decode cX8_doLoosen 12 = .ok (.iconst (-1), 1) := by decide +kernel
theorem dX8_doLoosen_13 : decode cX8_doLoosen 13 = .ok (.iconst (-1), 1) := by decide +kernel
theorem dX8_doLoosen_14 : decode cX8_doLoosen 14 = .ok (.invokevirtual 41, 3) := by decide +kernel
theorem dX8_doLoosen_17 : decode cX8_doLoosen 17 = .ok (.iload_n 3, 1) := by decide +kernel
theorem dX8_doLoosen_18 : decode cX8_doLoosen 18 = .ok (.ireturn, 1) := by decide +kernel
theorem dX8_loosen_0 : decode cX8_loosen 0 = .ok (.aload_n 0, 1) := by decide +kernel
theorem dX8_loosen_1 : decode cX8_loosen 1 = .ok (.aload_n 0, 1) := by decide +kernel
theorem dX8_loosen_2 : decode cX8_loosen 2 = .ok (.iload_n 1, 1) := by decide +kernel
theorem dX8_loosen_3 : decode cX8_loosen 3 = .ok (.iload_n 2, 1) := by decide +kernel
theorem dX8_loosen_4 : decode cX8_loosen 4 = .ok (.invokevirtual 149, 3) := by decide +kernel
theorem dX8_loosen_7 : decode cX8_loosen 7 = .ok (.putfield 33, 3) := by decide +kernel
theorem dX8_loosen_10 : decode cX8_loosen 10 = .ok (.aload_n 0, 1) := by decide +kernel
theorem dX8_loosen_11 : decode cX8_loosen 11 = .ok (.getfield 33, 3) := by decide +kernel
theorem dX8_loosen_14 : decode cX8_loosen 14 = .ok (.ifCond .le 5, 3) := by decide +kernel
theorem dX8_loosen_17 : decode cX8_loosen 17 = .ok (.iconst 0, 1) := by decide +kernel
theorem dX8_loosen_18 : decode cX8_loosen 18 = .ok (.ireturn, 1) := by decide +kernel
theorem dX8_loosen_19 : decode cX8_loosen 19 = .ok (.aload_n 0, 1) := by decide +kernel
theorem dX8_loosen_20 : decode cX8_loosen 20 = .ok (.invokevirtual 79, 3) := by decide +kernel
theorem dX8_loosen_23 : decode cX8_loosen 23 = .ok (.aload_n 0, 1) := by decide +kernel
theorem dX8_loosen_24 : decode cX8_loosen 24 = .ok (.iload_n 1, 1) := by decide +kernel
theorem dX8_loosen_25 : decode cX8_loosen 25 = .ok (.iload_n 2, 1) := by decide +kernel
theorem dX8_loosen_26 : decode cX8_loosen 26 = .ok (.invokevirtual 152, 3) := by decide +kernel
theorem dX8_loosen_29 : decode cX8_loosen 29 = .ok (.ireturn, 1) := by decide +kernel
theorem dX8_look_0 : decode cX8_look 0 = .ok (.aload_n 0, 1) := by decide +kernel
theorem dX8_look_1 : decode cX8_look 1 = .ok (.aload_n 0, 1) := by decide +kernel
theorem dX8_look_2 : decode cX8_look 2 = .ok (.iload_n 1, 1) := by decide +kernel
theorem dX8_look_3 : decode cX8_look 3 = .ok (.iload_n 2, 1) := by decide +kernel
theorem dX8_look_4 : decode cX8_look 4 = .ok (.invokevirtual 149, 3) := by decide +kernel
theorem dX8_look_7 : decode cX8_look 7 = .ok (.putfield 33, 3) := by decide +kernel
theorem dX8_look_10 : decode cX8_look 10 = .ok (.aload_n 0, 1) := by decide +kernel
theorem dX8_look_11 : decode cX8_look 11 = .ok (.getfield 33, 3) := by decide +kernel
theorem dX8_look_14 : decode cX8_look 14 = .ok (.ifCond .le 5, 3) := by decide +kernel
theorem dX8_look_17 : decode cX8_look 17 = .ok (.iconst 0, 1) := by decide +kernel
theorem dX8_look_18 : decode cX8_look 18 = .ok (.ireturn, 1) := by decide +kernel
theorem dX8_look_19 : decode cX8_look 19 = .ok (.aload_n 0, 1) := by decide +kernel
theorem dX8_look_20 : decode cX8_look 20 = .ok (.invokevirtual 79, 3) := by decide +kernel
theorem dX8_look_23 : decode cX8_look 23 = .ok (.aload_n 0, 1) := by decide +kernel
theorem dX8_look_24 : decode cX8_look 24 = .ok (.iload_n 1, 1) := by decide +kernel
theorem dX8_look_25 : decode cX8_look 25 = .ok (.iload_n 2, 1) := by decide +kernel
theorem dX8_look_26 : decode cX8_look 26 = .ok (.iconst 1, 1) := by decide +kernel
theorem dX8_look_27 : decode cX8_look 27 = .ok (.invokevirtual 52, 3) := by decide +kernel
theorem dX8_look_30 : decode cX8_look 30 = .ok (.istore_n 3, 1) := by decide +kernel
theorem dX8_look_31 : decode cX8_look 31 = .ok (.aload_n 0, 1) := by decide +kernel
theorem dX8_look_32 : decode cX8_look 32 = .ok (.iload_n 1, 1) := by decide +kernel
theorem dX8_look_33 : decode cX8_look 33 = .ok (.iload_n 2, 1) := by decide +kernel
theorem dX8_look_34 : decode cX8_look 34 = .ok (.iconst 0, 1) := by decide +kernel
theorem dX8_look_35 : decode cX8_look 35 = .ok (.invokevirtual 52, 3) := by decide +kernel
theorem dX8_look_38 : decode cX8_look 38 = .ok (.iconst 1, 1) := by decide +kernel
theorem dX8_look_39 : decode cX8_look 39 = .ok (.if_icmp .ne 25, 3) := by decide +kernel
theorem dX8_look_42 : decode cX8_look 42 = .ok (.aload_n 0, 1) := by decide +kernel
theorem dX8_look_43 : decode cX8_look 43 = .ok (.iload_n 3, 1) := by decide +kernel
theorem dX8_look_44 : decode cX8_look 44 = .ok (.iconst 1, 1) := by decide +kernel
theorem dX8_look_45 : decode cX8_look 45 = .ok (.invokevirtual 56, 3) := by decide +kernel
theorem dX8_look_48 : decode cX8_look 48 = .ok (.iconst 2, 1) := by decide +kernel
theorem dX8_look_49 : decode cX8_look 49 = .ok (.if_icmp .ne 15, 3) := by decide +kernel
theorem dX8_look_52 : decode cX8_look 52 = .ok (.aload_n 0, 1) := by decide +kernel
theorem dX8_look_53 : decode cX8_look 53 = .ok (.getfield 7, 3) := by decide +kernel
theorem dX8_look_56 : decode cX8_look 56 = .ok (.iconst 5, 1) := by decide +kernel
theorem dX8_look_57 : decode cX8_look 57 = .ok (.dup2, 1) := by decide +kernel
theorem dX8_look_58 : decode cX8_look 58 = .ok (.iaload, 1) := by decide +kernel
theorem dX8_look_59 : decode cX8_look 59 = .ok (.iconst 1, 1) := by decide +kernel
theorem dX8_look_60 : decode cX8_look 60 = .ok (.iadd, 1) := by decide +kernel
theorem dX8_look_61 : decode cX8_look 61 = .ok (.iastore, 1) := by decide +kernel
theorem dX8_look_62 : decode cX8_look 62 = .ok (.iconst (-1), 1) := by decide +kernel
theorem dX8_look_63 : decode cX8_look 63 = .ok (.ireturn, 1) := by decide +kernel
theorem dX8_look_64 : decode cX8_look 64 = .ok (.aload_n 0, 1) := by decide +kernel
theorem dX8_look_65 : decode cX8_look 65 = .ok (.iload_n 3, 1) := by decide +kernel
theorem dX8_look_66 : decode cX8_look 66 = .ok (.iconst 0, 1) := by decide +kernel
theorem dX8_look_67 : decode cX8_look 67 = .ok (.invokevirtual 56, 3) := by decide +kernel
theorem dX8_look_70 : decode cX8_look 70 = .ok (.ireturn, 1) := by decide +kernel
theorem dX8_doRake_0 : decode cX8_doRake 0 = .ok (.iconst 0, 1) := by decide +kernel
theorem dX8_doRake_1 : decode cX8_doRake 1 = .ok (.istore_n 2, 1) := by decide +kernel
theorem dX8_doRake_2 : decode cX8_doRake 2 = .ok (.iconst 0, 1) := by decide +kernel
theorem dX8_doRake_3 : decode cX8_doRake 3 = .ok (.istore_n 3, 1) := by decide +kernel
theorem dX8_doRake_4 : decode cX8_doRake 4 = .ok (.iload_n 3, 1) := by decide +kernel
theorem dX8_doRake_5 : decode cX8_doRake 5 = .ok (.aload_n 0, 1) := by decide +kernel
theorem dX8_doRake_6 : decode cX8_doRake 6 = .ok (.getfield 7, 3) := by decide +kernel
theorem dX8_doRake_9 : decode cX8_doRake 9 = .ok (.iconst 1, 1) := by decide +kernel
theorem dX8_doRake_10 : decode cX8_doRake 10 = .ok (.iaload, 1) := by decide +kernel
theorem dX8_doRake_11 : decode cX8_doRake 11 = .ok (.if_icmp .ge 43, 3) := by decide +kernel
theorem dX8_doRake_14 : decode cX8_doRake 14 = .ok (.aload_n 0, 1) := by decide +kernel
theorem dX8_doRake_15 : decode cX8_doRake 15 = .ok (.iload_n 3, 1) := by decide +kernel
theorem dX8_doRake_16 : decode cX8_doRake 16 = .ok (.iload_n 1, 1) := by decide +kernel
theorem dX8_doRake_17 : decode cX8_doRake 17 = .ok (.invokevirtual 59, 3) := by decide +kernel
theorem dX8_doRake_20 : decode cX8_doRake 20 = .ok (.ifCond .eq 28, 3) := by decide +kernel
theorem dX8_doRake_23 : decode cX8_doRake 23 = .ok (.aload_n 0, 1) := by decide +kernel
theorem dX8_doRake_24 : decode cX8_doRake 24 = .ok (.iload_n 3, 1) := by decide +kernel
theorem dX8_doRake_25 : decode cX8_doRake 25 = .ok (.aload_n 0, 1) := by decide +kernel
theorem dX8_doRake_26 : decode cX8_doRake 26 = .ok (.getfield 7, 3) := by decide +kernel
theorem dX8_doRake_29 : decode cX8_doRake 29 = .ok (.bipush 9, 2) := by decide +kernel
theorem dX8_doRake_31 : decode cX8_doRake 31 = .ok (.iaload, 1) := by decide +kernel
theorem dX8_doRake_32 : decode cX8_doRake 32 = .ok (.invokevirtual 69, 3) := by decide +kernel
theorem dX8_doRake_35 : decode cX8_doRake 35 = .ok (.ifCond .eq 13, 3) := by decide +kernel
theorem dX8_doRake_38 : decode cX8_doRake 38 = .ok (.aload_n 0, 1) := by decide +kernel
theorem dX8_doRake_39 : decode cX8_doRake 39 = .ok (.iload_n 3, 1) := by decide +kernel
theorem dX8_doRake_40 : decode cX8_doRake 40 = .ok (.iconst 1, 1) := by decide +kernel
theorem dX8_doRake_41 : decode cX8_doRake 41 = .ok (.iconst 2, 1) := by decide +kernel
theorem dX8_doRake_42 : decode cX8_doRake 42 = .ok (.invokevirtual 63, 3) := by decide +kernel
theorem dX8_doRake_45 : decode cX8_doRake 45 = .ok (.iinc 2 1, 3) := by decide +kernel
theorem dX8_doRake_48 : decode cX8_doRake 48 = .ok (.iinc 3 1, 3) := by decide +kernel
theorem dX8_doRake_51 : decode cX8_doRake 51 = .ok (.goto (-47), 3) := by decide +kernel
theorem dX8_doRake_54 : decode cX8_doRake 54 = .ok (.aload_n 0, 1) := by decide +kernel
theorem dX8_doRake_55 : decode cX8_doRake 55 = .ok (.getfield 7, 3) := by decide +kernel
theorem dX8_doRake_58 : decode cX8_doRake 58 = .ok (.iconst 2, 1) := by decide +kernel
theorem dX8_doRake_59 : decode cX8_doRake 59 = .ok (.dup2, 1) := by decide +kernel
theorem dX8_doRake_60 : decode cX8_doRake 60 = .ok (.iaload, 1) := by decide +kernel
theorem dX8_doRake_61 : decode cX8_doRake 61 = .ok (.iconst 1, 1) := by decide +kernel
theorem dX8_doRake_62 : decode cX8_doRake 62 = .ok (.iadd, 1) := by decide +kernel
theorem dX8_doRake_63 : decode cX8_doRake 63 = .ok (.iastore, 1) := by decide +kernel
theorem dX8_doRake_64 : decode cX8_doRake 64 = .ok (.aload_n 0, 1) := by decide +kernel
theorem dX8_doRake_65 : decode cX8_doRake 65 = .ok (.getfield 7, 3) := by decide +kernel
theorem dX8_doRake_68 : decode cX8_doRake 68 = .ok (.iconst 3, 1) := by decide +kernel
theorem dX8_doRake_69 : decode cX8_doRake 69 = .ok (.dup2, 1) := by decide +kernel
theorem dX8_doRake_70 : decode cX8_doRake 70 = .ok (.iaload, 1) := by decide +kernel
theorem dX8_doRake_71 : decode cX8_doRake 71 = .ok (.aload_n 0, 1) := by decide +kernel
theorem dX8_doRake_72 : decode cX8_doRake 72 = .ok (.getfield 7, 3) := by decide +kernel
theorem dX8_doRake_75 : decode cX8_doRake 75 = .ok (.bipush 9, 2) := by decide +kernel
theorem dX8_doRake_77 : decode cX8_doRake 77 = .ok (.iaload, 1) := by decide +kernel
theorem dX8_doRake_78 : decode cX8_doRake 78 = .ok (.ifCond .ne 12, 3) := by decide +kernel
theorem dX8_doRake_81 : decode cX8_doRake 81 = .ok (.iconst 3, 1) := by decide +kernel
theorem dX8_doRake_82 : decode cX8_doRake 82 = .ok (.aload_n 0, 1) := by decide +kernel
theorem dX8_doRake_83 : decode cX8_doRake 83 = .ok (.invokevirtual 82, 3) := by decide +kernel
theorem dX8_doRake_86 : decode cX8_doRake 86 = .ok (.imul, 1) := by decide +kernel
theorem dX8_doRake_87 : decode cX8_doRake 87 = .ok (.goto 4, 3) := by decide +kernel
theorem dX8_doRake_90 : decode cX8_doRake 90 = .ok (.iconst 0, 1) := by decide +kernel
theorem dX8_doRake_91 : decode cX8_doRake 91 = .ok (.iadd, 1) := by decide +kernel
theorem dX8_doRake_92 : decode cX8_doRake 92 = .ok (.iastore, 1) := by decide +kernel
theorem dX8_doRake_93 : decode cX8_doRake 93 = .ok (.aload_n 0, 1) := by decide +kernel
theorem dX8_doRake_94 : decode cX8_doRake 94 = .ok (.iload_n 1, 1) := by decide +kernel
theorem dX8_doRake_95 : decode cX8_doRake 95 = .ok (.iconst 5, 1) := by decide +kernel
theorem dX8_doRake_96 : decode cX8_doRake 96 = .ok (.aload_n 0, 1) := by decide +kernel
theorem dX8_doRake_97 : decode cX8_doRake 97 = .ok (.iload_n 1, 1) := by decide +kernel
theorem dX8_doRake_98 : decode cX8_doRake 98 = .ok (.iconst 5, 1) := by decide +kernel
theorem dX8_doRake_99 : decode cX8_doRake 99 = .ok (.invokevirtual 37, 3) := by decide +kernel
theorem dX8_doRake_102 : decode cX8_doRake 102 = .ok (.iconst 1, 1) := by decide +kernel
theorem dX8_doRake_103 : decode cX8_doRake 103 = .ok (.iadd, 1) := by decide +kernel
theorem dX8_doRake_104 : decode cX8_doRake 104 = .ok (.invokevirtual 29, 3) := by decide +kernel
theorem dX8_doRake_107 : decode cX8_doRake 107 = .ok (.aload_n 0, 1) := by decide +kernel
theorem dX8_doRake_108 : decode cX8_doRake 108 = .ok (.iload_n 1, 1) := by decide +kernel
theorem dX8_doRake_109 : decode cX8_doRake 109 = .ok (.iconst 4, 1) := by decide +kernel
theorem dX8_doRake_110 : decode cX8_doRake 110 = .ok (.aload_n 0, 1) := by decide +kernel
theorem dX8_doRake_111 : decode cX8_doRake 111 = .ok (.iload_n 1, 1) := by decide +kernel
theorem dX8_doRake_112 : decode cX8_doRake 112 = .ok (.iconst 4, 1) := by decide +kernel
theorem dX8_doRake_113 : decode cX8_doRake 113 = .ok (.invokevirtual 37, 3) := by decide +kernel
theorem dX8_doRake_116 : decode cX8_doRake 116 = .ok (.iload_n 2, 1) := by decide +kernel
theorem dX8_doRake_117 : decode cX8_doRake 117 = .ok (.iadd, 1) := by decide +kernel
theorem dX8_doRake_118 : decode cX8_doRake 118 = .ok (.invokevirtual 29, 3) := by decide +kernel
theorem dX8_doRake_121 : decode cX8_doRake 121 = .ok (.iload_n 2, 1) := by decide +kernel
theorem dX8_doRake_122 : decode cX8_doRake 122 = .ok (.ireturn, 1) := by decide +kernel
theorem dX8_whyNotTake_0 : decode cX8_whyNotTake 0 = .ok (.aload_n 0, 1) := by decide +kernel
theorem dX8_whyNotTake_1 : decode cX8_whyNotTake 1 = .ok (.iload_n 1, 1) := by decide +kernel
theorem dX8_whyNotTake_2 : decode cX8_whyNotTake 2 = .ok (.invokevirtual 86, 3) := by decide +kernel
theorem dX8_whyNotTake_5 : decode cX8_whyNotTake 5 = .ok (.ifCond .eq 10, 3) := by decide +kernel
theorem dX8_whyNotTake_8 : decode cX8_whyNotTake 8 = .ok (.iload_n 2, 1) := by decide +kernel
theorem dX8_whyNotTake_9 : decode cX8_whyNotTake 9 = .ok (.invokestatic 122, 3) := by decide +kernel
theorem dX8_whyNotTake_12 : decode cX8_whyNotTake 12 = .ok (.ifCond .ne 5, 3) := by decide +kernel
theorem dX8_whyNotTake_15 : decode cX8_whyNotTake 15 = .ok (.iconst 1, 1) := by decide +kernel
theorem dX8_whyNotTake_16 : decode cX8_whyNotTake 16 = .ok (.ireturn, 1) := by decide +kernel
theorem dX8_whyNotTake_17 : decode cX8_whyNotTake 17 = .ok (.aload_n 0, 1) := by decide +kernel
theorem dX8_whyNotTake_18 : decode cX8_whyNotTake 18 = .ok (.iload_n 1, 1) := by decide +kernel
theorem dX8_whyNotTake_19 : decode cX8_whyNotTake 19 = .ok (.invokevirtual 97, 3) := by decide +kernel
theorem dX8_whyNotTake_22 : decode cX8_whyNotTake 22 = .ok (.ifCond .eq 15, 3) := by decide +kernel
theorem dX8_whyNotTake_25 : decode cX8_whyNotTake 25 = .ok (.aload_n 0, 1) := by decide +kernel
theorem dX8_whyNotTake_26 : decode cX8_whyNotTake 26 = .ok (.getfield 7, 3) := by decide +kernel
theorem dX8_whyNotTake_29 : decode cX8_whyNotTake 29 = .ok (.bipush 10, 2) := by decide +kernel
theorem dX8_whyNotTake_31 : decode cX8_whyNotTake 31 = .ok (.iload_n 2, 1) := by decide +kernel
theorem dX8_whyNotTake_32 : decode cX8_whyNotTake 32 = .ok (.iadd, 1) := by decide +kernel
theorem dX8_whyNotTake_33 : decode cX8_whyNotTake 33 = .ok (.iaload, 1) := by decide +kernel
theorem dX8_whyNotTake_34 : decode cX8_whyNotTake 34 = .ok (.ifCond .ge 7, 3) := by decide +kernel
theorem dX8_whyNotTake_37 : decode cX8_whyNotTake 37 = .ok (.iconst 2, 1) := by decide +kernel
theorem dX8_whyNotTake_38 : decode cX8_whyNotTake 38 = .ok (.goto 4, 3) := by decide +kernel
theorem dX8_whyNotTake_41 : decode cX8_whyNotTake 41 = .ok (.iconst 0, 1) := by decide +kernel
theorem dX8_whyNotTake_42 : decode cX8_whyNotTake 42 = .ok (.ireturn, 1) := by decide +kernel
theorem dX8_doTake_0 : decode cX8_doTake 0 = .ok (.aload_n 0, 1) := by decide +kernel
theorem dX8_doTake_1 : decode cX8_doTake 1 = .ok (.getfield 7, 3) := by decide +kernel
theorem dX8_doTake_4 : decode cX8_doTake 4 = .ok (.bipush 10, 2) := by decide +kernel
theorem dX8_doTake_6 : decode cX8_doTake 6 = .ok (.iload_n 2, 1) := by decide +kernel
theorem dX8_doTake_7 : decode cX8_doTake 7 = .ok (.iadd, 1) := by decide +kernel
theorem dX8_doTake_8 : decode cX8_doTake 8 = .ok (.iaload, 1) := by decide +kernel
theorem dX8_doTake_9 : decode cX8_doTake 9 = .ok (.istore_n 3, 1) := by decide +kernel
theorem dX8_doTake_10 : decode cX8_doTake 10 = .ok (.aload_n 0, 1) := by decide +kernel
theorem dX8_doTake_11 : decode cX8_doTake 11 = .ok (.getfield 7, 3) := by decide +kernel
theorem dX8_doTake_14 : decode cX8_doTake 14 = .ok (.bipush 10, 2) := by decide +kernel
theorem dX8_doTake_16 : decode cX8_doTake 16 = .ok (.iload_n 2, 1) := by decide +kernel
theorem dX8_doTake_17 : decode cX8_doTake 17 = .ok (.iadd, 1) := by decide +kernel
theorem dX8_doTake_18 : decode cX8_doTake 18 = .ok (.iconst (-1), 1) := by decide +kernel
theorem dX8_doTake_19 : decode cX8_doTake 19 = .ok (.iastore, 1) := by decide +kernel
theorem dX8_doTake_20 : decode cX8_doTake 20 = .ok (.aload_n 0, 1) := by decide +kernel
theorem dX8_doTake_21 : decode cX8_doTake 21 = .ok (.iload_n 3, 1) := by decide +kernel
theorem dX8_doTake_22 : decode cX8_doTake 22 = .ok (.iconst 3, 1) := by decide +kernel
theorem dX8_doTake_23 : decode cX8_doTake 23 = .ok (.aload_n 0, 1) := by decide +kernel
theorem dX8_doTake_24 : decode cX8_doTake 24 = .ok (.getfield 7, 3) := by decide +kernel
theorem dX8_doTake_27 : decode cX8_doTake 27 = .ok (.iconst 0, 1) := by decide +kernel
theorem dX8_doTake_28 : decode cX8_doTake 28 = .ok (.iaload, 1) := by decide +kernel
theorem dX8_doTake_29 : decode cX8_doTake 29 = .ok (.invokevirtual 63, 3) := by decide +kernel
theorem dX8_doTake_32 : decode cX8_doTake 32 = .ok (.aload_n 0, 1) := by decide +kernel
theorem dX8_doTake_33 : decode cX8_doTake 33 = .ok (.iload_n 3, 1) := by decide +kernel
theorem dX8_doTake_34 : decode cX8_doTake 34 = .ok (.iload_n 1, 1) := by decide +kernel
theorem dX8_doTake_35 : decode cX8_doTake 35 = .ok (.invokevirtual 93, 3) := by decide +kernel
theorem dX8_doTake_38 : decode cX8_doTake 38 = .ok (.aload_n 0, 1) := by decide +kernel
theorem dX8_doTake_39 : decode cX8_doTake 39 = .ok (.iload_n 1, 1) := by decide +kernel
theorem dX8_doTake_40 : decode cX8_doTake 40 = .ok (.iconst 3, 1) := by decide +kernel
theorem dX8_doTake_41 : decode cX8_doTake 41 = .ok (.aload_n 0, 1) := by decide +kernel
theorem dX8_doTake_42 : decode cX8_doTake 42 = .ok (.iload_n 1, 1) := by decide +kernel
theorem dX8_doTake_43 : decode cX8_doTake 43 = .ok (.iconst 3, 1) := by decide +kernel
theorem dX8_doTake_44 : decode cX8_doTake 44 = .ok (.invokevirtual 37, 3) := by decide +kernel
theorem dX8_doTake_47 : decode cX8_doTake 47 = .ok (.iconst 1, 1) := by decide +kernel
theorem dX8_doTake_48 : decode cX8_doTake 48 = .ok (.iadd, 1) := by decide +kernel
theorem dX8_doTake_49 : decode cX8_doTake 49 = .ok (.invokevirtual 29, 3) := by decide +kernel
theorem dX8_doTake_52 : decode cX8_doTake 52 = .ok (.aload_n 0, 1) := by decide +kernel
theorem dX8_doTake_53 : decode cX8_doTake 53 = .ok (.iload_n 1, 1) := by decide +kernel
theorem dX8_doTake_54 : decode cX8_doTake 54 = .ok (.invokevirtual 155, 3) := by decide +kernel
theorem dX8_doTake_57 : decode cX8_doTake 57 = .ok (.aload_n 0, 1) := by decide +kernel
theorem dX8_doTake_58 : decode cX8_doTake 58 = .ok (.getfield 7, 3) := by decide +kernel
theorem dX8_doTake_61 : decode cX8_doTake 61 = .ok (.bipush 8, 2) := by decide +kernel
theorem dX8_doTake_63 : decode cX8_doTake 63 = .ok (.iaload, 1) := by decide +kernel
theorem dX8_doTake_64 : decode cX8_doTake 64 = .ok (.if_icmp .lt 11, 3) := by decide +kernel
theorem dX8_doTake_67 : decode cX8_doTake 67 = .ok (.aload_n 0, 1) := by decide +kernel
theorem dX8_doTake_68 : decode cX8_doTake 68 = .ok (.iload_n 1, 1) := by decide +kernel
theorem dX8_doTake_69 : decode cX8_doTake 69 = .ok (.invokevirtual 158, 3) := by decide +kernel
theorem dX8_doTake_72 : decode cX8_doTake 72 = .ok (.goto 4, 3) := by decide +kernel
theorem dX8_doTake_75 : decode cX8_doTake 75 = .ok (.iconst 0, 1) := by decide +kernel
theorem dX8_doTake_76 : decode cX8_doTake 76 = .ok (.istore 4, 2) := by decide +kernel
theorem dX8_doTake_78 : decode cX8_doTake 78 = .ok (.aload_n 0, 1) := by decide +kernel
theorem dX8_doTake_79 : decode cX8_doTake 79 = .ok (.iconst 1, 1) := by decide +kernel
theorem dX8_doTake_80 : decode cX8_doTake 80 = .ok (.invokevirtual 161, 3) := by decide +kernel
theorem dX8_doTake_83 : decode cX8_doTake 83 = .ok (.istore 5, 2) := by decide +kernel
theorem dX8_doTake_85 : decode cX8_doTake 85 = .ok (.aload_n 0, 1) := by decide +kernel
theorem dX8_doTake_86 : decode cX8_doTake 86 = .ok (.getfield 7, 3) := by decide +kernel
theorem dX8_doTake_89 : decode cX8_doTake 89 = .ok (.bipush 6, 2) := by decide +kernel
theorem dX8_doTake_91 : decode cX8_doTake 91 = .ok (.iload 5, 2) := by decide +kernel
theorem dX8_doTake_93 : decode cX8_doTake 93 = .ok (.aload_n 0, 1) := by decide +kernel
theorem dX8_doTake_94 : decode cX8_doTake 94 = .ok (.getfield 7, 3) := by decide +kernel
theorem dX8_doTake_97 : decode cX8_doTake 97 = .ok (.bipush 6, 2) := by decide +kernel
theorem dX8_doTake_99 : decode cX8_doTake 99 = .ok (.iaload, 1) := by decide +kernel
theorem dX8_doTake_100 : decode cX8_doTake 100 = .ok (.if_icmp .le 8, 3) := by decide +kernel
theorem dX8_doTake_103 : decode cX8_doTake 103 = .ok (.iload 5, 2) := by decide +kernel
theorem dX8_doTake_105 : decode cX8_doTake 105 = .ok (.goto 10, 3) := by decide +kernel
theorem dX8_doTake_108 : decode cX8_doTake 108 = .ok (.aload_n 0, 1) := by decide +kernel
theorem dX8_doTake_109 : decode cX8_doTake 109 = .ok (.getfield 7, 3) := by decide +kernel
theorem dX8_doTake_112 : decode cX8_doTake 112 = .ok (.bipush 6, 2) := by decide +kernel
theorem dX8_doTake_114 : decode cX8_doTake 114 = .ok (.iaload, 1) := by decide +kernel
theorem dX8_doTake_115 : decode cX8_doTake 115 = .ok (.iastore, 1) := by decide +kernel
theorem dX8_doTake_116 : decode cX8_doTake 116 = .ok (.iload 4, 2) := by decide +kernel
theorem dX8_doTake_118 : decode cX8_doTake 118 = .ok (.ireturn, 1) := by decide +kernel
theorem dX8_take_0 : decode cX8_take 0 = .ok (.aload_n 0, 1) := by decide +kernel
theorem dX8_take_1 : decode cX8_take 1 = .ok (.aload_n 0, 1) := by decide +kernel
theorem dX8_take_2 : decode cX8_take 2 = .ok (.iload_n 1, 1) := by decide +kernel
theorem dX8_take_3 : decode cX8_take 3 = .ok (.iload_n 2, 1) := by decide +kernel
theorem dX8_take_4 : decode cX8_take 4 = .ok (.invokevirtual 164, 3) := by decide +kernel
theorem dX8_take_7 : decode cX8_take 7 = .ok (.putfield 33, 3) := by decide +kernel
theorem dX8_take_10 : decode cX8_take 10 = .ok (.aload_n 0, 1) := by decide +kernel
theorem dX8_take_11 : decode cX8_take 11 = .ok (.getfield 33, 3) := by decide +kernel
theorem dX8_take_14 : decode cX8_take 14 = .ok (.ifCond .le 5, 3) := by decide +kernel
theorem dX8_take_17 : decode cX8_take 17 = .ok (.iconst 0, 1) := by decide +kernel
theorem dX8_take_18 : decode cX8_take 18 = .ok (.ireturn, 1) := by decide +kernel
theorem dX8_take_19 : decode cX8_take 19 = .ok (.aload_n 0, 1) := by decide +kernel
theorem dX8_take_20 : decode cX8_take 20 = .ok (.invokevirtual 79, 3) := by decide +kernel
theorem dX8_take_23 : decode cX8_take 23 = .ok (.aload_n 0, 1) := by decide +kernel
theorem dX8_take_24 : decode cX8_take 24 = .ok (.iload_n 1, 1) := by decide +kernel
theorem dX8_take_25 : decode cX8_take 25 = .ok (.iload_n 2, 1) := by decide +kernel
theorem dX8_take_26 : decode cX8_take 26 = .ok (.invokevirtual 167, 3) := by decide +kernel
theorem dX8_take_29 : decode cX8_take 29 = .ok (.ireturn, 1) := by decide +kernel
theorem dX8_whyNotSwap_0 : decode cX8_whyNotSwap 0 = .ok (.aload_n 0, 1) := by decide +kernel
theorem dX8_whyNotSwap_1 : decode cX8_whyNotSwap 1 = .ok (.iload_n 1, 1) := by decide +kernel
theorem dX8_whyNotSwap_2 : decode cX8_whyNotSwap 2 = .ok (.invokevirtual 86, 3) := by decide +kernel
theorem dX8_whyNotSwap_5 : decode cX8_whyNotSwap 5 = .ok (.ifCond .eq 10, 3) := by decide +kernel
theorem dX8_whyNotSwap_8 : decode cX8_whyNotSwap 8 = .ok (.iload_n 2, 1) := by decide +kernel
theorem dX8_whyNotSwap_9 : decode cX8_whyNotSwap 9 = .ok (.invokestatic 122, 3) := by decide +kernel
theorem dX8_whyNotSwap_12 : decode cX8_whyNotSwap 12 = .ok (.ifCond .ne 5, 3) := by decide +kernel
theorem dX8_whyNotSwap_15 : decode cX8_whyNotSwap 15 = .ok (.iconst 1, 1) := by decide +kernel
theorem dX8_whyNotSwap_16 : decode cX8_whyNotSwap 16 = .ok (.ireturn, 1) := by decide +kernel
theorem dX8_whyNotSwap_17 : decode cX8_whyNotSwap 17 = .ok (.iload_n 3, 1) := by decide +kernel
theorem dX8_whyNotSwap_18 : decode cX8_whyNotSwap 18 = .ok (.invokestatic 125, 3) := by decide +kernel
theorem dX8_whyNotSwap_21 : decode cX8_whyNotSwap 21 = .ok (.ifCond .ne 5, 3) := by decide +kernel
theorem dX8_whyNotSwap_24 : decode cX8_whyNotSwap 24 = .ok (.iconst 2, 1) := by decide +kernel
theorem dX8_whyNotSwap_25 : decode cX8_whyNotSwap 25 = .ok (.ireturn, 1) := by decide +kernel
theorem dX8_whyNotSwap_26 : decode cX8_whyNotSwap 26 = .ok (.aload_n 0, 1) := by decide +kernel
theorem dX8_whyNotSwap_27 : decode cX8_whyNotSwap 27 = .ok (.iload_n 1, 1) := by decide +kernel
theorem dX8_whyNotSwap_28 : decode cX8_whyNotSwap 28 = .ok (.invokevirtual 97, 3) := by decide +kernel
theorem dX8_whyNotSwap_31 : decode cX8_whyNotSwap 31 = .ok (.ifCond .eq 26, 3) := by decide +kernel
theorem dX8_whyNotSwap_34 : decode cX8_whyNotSwap 34 = .ok (.aload_n 0, 1) := by decide +kernel
theorem dX8_whyNotSwap_35 : decode cX8_whyNotSwap 35 = .ok (.getfield 7, 3) := by decide +kernel
theorem dX8_whyNotSwap_38 : decode cX8_whyNotSwap 38 = .ok (.bipush 10, 2) := by decide +kernel
theorem dX8_whyNotSwap_40 : decode cX8_whyNotSwap 40 = .ok (.iload_n 2, 1) := by decide +kernel
theorem dX8_whyNotSwap_41 : decode cX8_whyNotSwap 41 = .ok (.iadd, 1) := by decide +kernel
theorem dX8_whyNotSwap_42 : decode cX8_whyNotSwap 42 = .ok (.iaload, 1) := by decide +kernel
theorem dX8_whyNotSwap_43 : decode cX8_whyNotSwap 43 = .ok (.ifCond .lt 14, 3) := by decide +kernel
theorem dX8_whyNotSwap_46 : decode cX8_whyNotSwap 46 = .ok (.aload_n 0, 1) := by decide +kernel
theorem dX8_whyNotSwap_47 : decode cX8_whyNotSwap 47 = .ok (.getfield 7, 3) := by decide +kernel
theorem dX8_whyNotSwap_50 : decode cX8_whyNotSwap 50 = .ok (.iconst 1, 1) := by decide +kernel
theorem dX8_whyNotSwap_51 : decode cX8_whyNotSwap 51 = .ok (.iaload, 1) := by decide +kernel
theorem dX8_whyNotSwap_52 : decode cX8_whyNotSwap 52 = .ok (.bipush 120, 2) := by decide +kernel
theorem dX8_whyNotSwap_54 : decode cX8_whyNotSwap 54 = .ok (.if_icmp .ne 7, 3) := by decide +kernel
theorem dX8_whyNotSwap_57 : decode cX8_whyNotSwap 57 = .ok (.iconst 3, 1) := by decide +kernel
theorem dX8_whyNotSwap_58 : decode cX8_whyNotSwap 58 = .ok (.goto 4, 3) := by decide +kernel
theorem dX8_whyNotSwap_61 : decode cX8_whyNotSwap 61 = .ok (.iconst 0, 1) := by decide +kernel
theorem dX8_whyNotSwap_62 : decode cX8_whyNotSwap 62 = .ok (.ireturn, 1) := by decide +kernel
theorem dX8_doSwap_0 : decode cX8_doSwap 0 = .ok (.aload_n 0, 1) := by decide +kernel
theorem dX8_doSwap_1 : decode cX8_doSwap 1 = .ok (.iload_n 1, 1) := by decide +kernel
theorem dX8_doSwap_2 : decode cX8_doSwap 2 = .ok (.iload_n 2, 1) := by decide +kernel
theorem dX8_doSwap_3 : decode cX8_doSwap 3 = .ok (.invokevirtual 167, 3) := by decide +kernel
theorem dX8_doSwap_6 : decode cX8_doSwap 6 = .ok (.pop, 1) := by decide +kernel
theorem dX8_doSwap_7 : decode cX8_doSwap 7 = .ok (.aload_n 0, 1) := by decide +kernel
theorem dX8_doSwap_8 : decode cX8_doSwap 8 = .ok (.iload_n 2, 1) := by decide +kernel
theorem dX8_doSwap_9 : decode cX8_doSwap 9 = .ok (.iload_n 3, 1) := by decide +kernel
theorem dX8_doSwap_10 : decode cX8_doSwap 10 = .ok (.invokevirtual 131, 3) := by decide +kernel
theorem dX8_doSwap_13 : decode cX8_doSwap 13 = .ok (.ireturn, 1) := by decide +kernel
theorem dX8_swap_0 : decode cX8_swap 0 = .ok (.aload_n 0, 1) := by decide +kernel
theorem dX8_swap_1 : decode cX8_swap 1 = .ok (.aload_n 0, 1) := by decide +kernel
theorem dX8_swap_2 : decode cX8_swap 2 = .ok (.iload_n 1, 1) := by decide +kernel
theorem dX8_swap_3 : decode cX8_swap 3 = .ok (.iload_n 2, 1) := by decide +kernel
theorem dX8_swap_4 : decode cX8_swap 4 = .ok (.iload_n 3, 1) := by decide +kernel
theorem dX8_swap_5 : decode cX8_swap 5 = .ok (.invokevirtual 170, 3) := by decide +kernel
theorem dX8_swap_8 : decode cX8_swap 8 = .ok (.putfield 33, 3) := by decide +kernel
theorem dX8_swap_11 : decode cX8_swap 11 = .ok (.aload_n 0, 1) := by decide +kernel
theorem dX8_swap_12 : decode cX8_swap 12 = .ok (.getfield 33, 3) := by decide +kernel
theorem dX8_swap_15 : decode cX8_swap 15 = .ok (.ifCond .le 5, 3) := by decide +kernel
theorem dX8_swap_18 : decode cX8_swap 18 = .ok (.iconst 0, 1) := by decide +kernel
theorem dX8_swap_19 : decode cX8_swap 19 = .ok (.ireturn, 1) := by decide +kernel
theorem dX8_swap_20 : decode cX8_swap 20 = .ok (.aload_n 0, 1) := by decide +kernel
theorem dX8_swap_21 : decode cX8_swap 21 = .ok (.invokevirtual 79, 3) := by decide +kernel
theorem dX8_swap_24 : decode cX8_swap 24 = .ok (.aload_n 0, 1) := by decide +kernel
theorem dX8_swap_25 : decode cX8_swap 25 = .ok (.iload_n 1, 1) := by decide +kernel
theorem dX8_swap_26 : decode cX8_swap 26 = .ok (.iload_n 2, 1) := by decide +kernel
theorem dX8_swap_27 : decode cX8_swap 27 = .ok (.iload_n 3, 1) := by decide +kernel
theorem dX8_swap_28 : decode cX8_swap 28 = .ok (.invokevirtual 173, 3) := by decide +kernel
theorem dX8_swap_31 : decode cX8_swap 31 = .ok (.ireturn, 1) := by decide +kernel
theorem dX8_whyNotRake_0 : decode cX8_whyNotRake 0 = .ok (.aload_n 0, 1) := by decide +kernel
theorem dX8_whyNotRake_1 : decode cX8_whyNotRake 1 = .ok (.iload_n 1, 1) := by decide +kernel
theorem dX8_whyNotRake_2 : decode cX8_whyNotRake 2 = .ok (.invokevirtual 86, 3) := by decide +kernel
theorem dX8_whyNotRake_5 : decode cX8_whyNotRake 5 = .ok (.ifCond .ne 7, 3) := by decide +kernel
theorem dX8_whyNotRake_8 : decode cX8_whyNotRake 8 = .ok (.iconst 1, 1) := by decide +kernel
theorem dX8_whyNotRake_9 : decode cX8_whyNotRake 9 = .ok (.goto 16, 3) := by decide +kernel
theorem dX8_whyNotRake_12 : decode cX8_whyNotRake 12 = .ok (.aload_n 0, 1) := by decide +kernel
theorem dX8_whyNotRake_13 : decode cX8_whyNotRake 13 = .ok (.iload_n 1, 1) := by decide +kernel
theorem dX8_whyNotRake_14 : decode cX8_whyNotRake 14 = .ok (.invokevirtual 155, 3) := by decide +kernel
theorem dX8_whyNotRake_17 : decode cX8_whyNotRake 17 = .ok (.ifCond .ne 7, 3) := by decide +kernel
theorem dX8_whyNotRake_20 : decode cX8_whyNotRake 20 = .ok (.iconst 2, 1) := by decide +kernel
theorem dX8_whyNotRake_21 : decode cX8_whyNotRake 21 = .ok (.goto 4, 3) := by decide +kernel
theorem dX8_whyNotRake_24 : decode cX8_whyNotRake 24 = .ok (.iconst 0, 1) := by decide +kernel
theorem dX8_whyNotRake_25 : decode cX8_whyNotRake 25 = .ok (.ireturn, 1) := by decide +kernel
theorem dX8_rake_0 : decode cX8_rake 0 = .ok (.aload_n 0, 1) := by decide +kernel
theorem dX8_rake_1 : decode cX8_rake 1 = .ok (.aload_n 0, 1) := by decide +kernel
theorem dX8_rake_2 : decode cX8_rake 2 = .ok (.iload_n 1, 1) := by decide +kernel
theorem dX8_rake_3 : decode cX8_rake 3 = .ok (.invokevirtual 176, 3) := by decide +kernel
theorem dX8_rake_6 : decode cX8_rake 6 = .ok (.putfield 33, 3) := by decide +kernel
theorem dX8_rake_9 : decode cX8_rake 9 = .ok (.aload_n 0, 1) := by decide +kernel
theorem dX8_rake_10 : decode cX8_rake 10 = .ok (.getfield 33, 3) := by decide +kernel
theorem dX8_rake_13 : decode cX8_rake 13 = .ok (.ifCond .le 5, 3) := by decide +kernel
theorem dX8_rake_16 : decode cX8_rake 16 = .ok (.iconst 0, 1) := by decide +kernel
theorem dX8_rake_17 : decode cX8_rake 17 = .ok (.ireturn, 1) := by decide +kernel
theorem dX8_rake_18 : decode cX8_rake 18 = .ok (.aload_n 0, 1) := by decide +kernel
theorem dX8_rake_19 : decode cX8_rake 19 = .ok (.invokevirtual 79, 3) := by decide +kernel
theorem dX8_rake_22 : decode cX8_rake 22 = .ok (.aload_n 0, 1) := by decide +kernel
theorem dX8_rake_23 : decode cX8_rake 23 = .ok (.iload_n 1, 1) := by decide +kernel
theorem dX8_rake_24 : decode cX8_rake 24 = .ok (.invokevirtual 158, 3) := by decide +kernel
theorem dX8_rake_27 : decode cX8_rake 27 = .ok (.ireturn, 1) := by decide +kernel
theorem dX8_set_0 : decode cX8_set 0 = .ok (.iload_n 1, 1) := by decide +kernel
theorem dX8_set_1 : decode cX8_set 1 = .ok (.ifCond .ne 13, 3) := by decide +kernel
theorem dX8_set_4 : decode cX8_set 4 = .ok (.iload_n 2, 1) := by decide +kernel
theorem dX8_set_5 : decode cX8_set 5 = .ok (.iconst 1, 1) := by decide +kernel
theorem dX8_set_6 : decode cX8_set 6 = .ok (.bipush 20, 2) := by decide +kernel
theorem dX8_set_8 : decode cX8_set 8 = .ok (.invokestatic 48, 3) := by decide +kernel
theorem dX8_set_11 : decode cX8_set 11 = .ok (.goto 9, 3) := by decide +kernel
theorem dX8_set_14 : decode cX8_set 14 = .ok (.iload_n 2, 1) := by decide +kernel
theorem dX8_set_15 : decode cX8_set 15 = .ok (.iconst 0, 1) := by decide +kernel
theorem dX8_set_16 : decode cX8_set 16 = .ok (.iconst 1, 1) := by decide +kernel
theorem dX8_set_17 : decode cX8_set 17 = .ok (.invokestatic 48, 3) := by decide +kernel
theorem dX8_set_20 : decode cX8_set 20 = .ok (.istore_n 3, 1) := by decide +kernel
theorem dX8_set_21 : decode cX8_set 21 = .ok (.aload_n 0, 1) := by decide +kernel
theorem dX8_set_22 : decode cX8_set 22 = .ok (.iload_n 1, 1) := by decide +kernel
theorem dX8_set_23 : decode cX8_set 23 = .ok (.iconst 0, 1) := by decide +kernel
theorem dX8_set_24 : decode cX8_set 24 = .ok (.iconst 1, 1) := by decide +kernel
theorem dX8_set_25 : decode cX8_set 25 = .ok (.invokestatic 48, 3) := by decide +kernel
theorem dX8_set_28 : decode cX8_set 28 = .ok (.ifCond .ne 7, 3) := by decide +kernel
theorem dX8_set_31 : decode cX8_set 31 = .ok (.iconst 1, 1) := by decide +kernel
theorem dX8_set_32 : decode cX8_set 32 = .ok (.goto 12, 3) := by decide +kernel
theorem dX8_set_35 : decode cX8_set 35 = .ok (.iload_n 3, 1) := by decide +kernel
theorem dX8_set_36 : decode cX8_set 36 = .ok (.ifCond .eq 7, 3) := by decide +kernel
theorem dX8_set_39 : decode cX8_set 39 = .ok (.iconst 0, 1) := by decide +kernel
theorem dX8_set_40 : decode cX8_set 40 = .ok (.goto 4, 3) := by decide +kernel
theorem dX8_set_43 : decode cX8_set 43 = .ok (.iconst 2, 1) := by decide +kernel
theorem dX8_set_44 : decode cX8_set 44 = .ok (.putfield 33, 3) := by decide +kernel
theorem dX8_set_47 : decode cX8_set 47 = .ok (.aload_n 0, 1) := by decide +kernel
theorem dX8_set_48 : decode cX8_set 48 = .ok (.getfield 33, 3) := by decide +kernel
theorem dX8_set_51 : decode cX8_set 51 = .ok (.ifCond .le 5, 3) := by decide +kernel
theorem dX8_set_54 : decode cX8_set 54 = .ok (.iconst 0, 1) := by decide +kernel
theorem dX8_set_55 : decode cX8_set 55 = .ok (.ireturn, 1) := by decide +kernel
theorem dX8_set_56 : decode cX8_set 56 = .ok (.aload_n 0, 1) := by decide +kernel
theorem dX8_set_57 : decode cX8_set 57 = .ok (.invokevirtual 79, 3) := by decide +kernel
theorem dX8_set_60 : decode cX8_set 60 = .ok (.aload_n 0, 1) := by decide +kernel
theorem dX8_set_61 : decode cX8_set 61 = .ok (.getfield 7, 3) := by decide +kernel
theorem dX8_set_64 : decode cX8_set 64 = .ok (.bipush 8, 2) := by decide +kernel
theorem dX8_set_66 : decode cX8_set 66 = .ok (.iload_n 1, 1) := by decide +kernel
theorem dX8_set_67 : decode cX8_set 67 = .ok (.iadd, 1) := by decide +kernel
theorem dX8_set_68 : decode cX8_set 68 = .ok (.iaload, 1) := by decide +kernel
theorem dX8_set_69 : decode cX8_set 69 = .ok (.istore 4, 2) := by decide +kernel
theorem dX8_set_71 : decode cX8_set 71 = .ok (.aload_n 0, 1) := by decide +kernel
theorem dX8_set_72 : decode cX8_set 72 = .ok (.getfield 7, 3) := by decide +kernel
theorem dX8_set_75 : decode cX8_set 75 = .ok (.bipush 8, 2) := by decide +kernel
theorem dX8_set_77 : decode cX8_set 77 = .ok (.iload_n 1, 1) := by decide +kernel
theorem dX8_set_78 : decode cX8_set 78 = .ok (.iadd, 1) := by decide +kernel
theorem dX8_set_79 : decode cX8_set 79 = .ok (.iload_n 2, 1) := by decide +kernel
theorem dX8_set_80 : decode cX8_set 80 = .ok (.iastore, 1) := by decide +kernel
theorem dX8_set_81 : decode cX8_set 81 = .ok (.iload 4, 2) := by decide +kernel
theorem dX8_set_83 : decode cX8_set 83 = .ok (.ireturn, 1) := by decide +kernel
theorem dX8_append_0 : decode cX8_append 0 = .ok (.aload_n 0, 1) := by decide +kernel
theorem dX8_append_1 : decode cX8_append 1 = .ok (.iload_n 1, 1) := by decide +kernel
theorem dX8_append_2 : decode cX8_append 2 = .ok (.bipush 33, 2) := by decide +kernel
theorem dX8_append_4 : decode cX8_append 4 = .ok (.bipush 126, 2) := by decide +kernel
theorem dX8_append_6 : decode cX8_append 6 = .ok (.invokestatic 48, 3) := by decide +kernel
theorem dX8_append_9 : decode cX8_append 9 = .ok (.ifCond .ne 7, 3) := by decide +kernel
theorem dX8_append_12 : decode cX8_append 12 = .ok (.iconst 1, 1) := by decide +kernel
theorem dX8_append_13 : decode cX8_append 13 = .ok (.goto 17, 3) := by decide +kernel
theorem dX8_append_16 : decode cX8_append 16 = .ok (.aload_n 0, 1) := by decide +kernel
theorem dX8_append_17 : decode cX8_append 17 = .ok (.getfield 179, 3) := by decide +kernel
theorem dX8_append_20 : decode cX8_append 20 = .ok (.bipush 60, 2) := by decide +kernel
theorem dX8_append_22 : decode cX8_append 22 = .ok (.if_icmp .ne 7, 3) := by decide +kernel
theorem dX8_append_25 : decode cX8_append 25 = .ok (.iconst 2, 1) := by decide +kernel
theorem dX8_append_26 : decode cX8_append 26 = .ok (.goto 4, 3) := by decide +kernel
theorem dX8_append_29 : decode cX8_append 29 = .ok (.iconst 0, 1) := by decide +kernel
theorem dX8_append_30 : decode cX8_append 30 = .ok (.putfield 33, 3) := by decide +kernel
theorem dX8_append_33 : decode cX8_append 33 = .ok (.aload_n 0, 1) := by decide +kernel
theorem dX8_append_34 : decode cX8_append 34 = .ok (.getfield 33, 3) := by decide +kernel
theorem dX8_append_37 : decode cX8_append 37 = .ok (.ifCond .le 5, 3) := by decide +kernel
theorem dX8_append_40 : decode cX8_append 40 = .ok (.iconst 0, 1) := by decide +kernel
theorem dX8_append_41 : decode cX8_append 41 = .ok (.ireturn, 1) := by decide +kernel
theorem dX8_append_42 : decode cX8_append 42 = .ok (.aload_n 0, 1) := by decide +kernel
theorem dX8_append_43 : decode cX8_append 43 = .ok (.getfield 19, 3) := by decide +kernel
theorem dX8_append_46 : decode cX8_append 46 = .ok (.aload_n 0, 1) := by decide +kernel
theorem dX8_append_47 : decode cX8_append 47 = .ok (.getfield 179, 3) := by decide +kernel
theorem dX8_append_50 : decode cX8_append 50 = .ok (.iload_n 1, 1) := by decide +kernel
theorem dX8_append_51 : decode cX8_append 51 = .ok (.iastore, 1) := by decide +kernel
theorem dX8_append_52 : decode cX8_append 52 = .ok (.aload_n 0, 1) := by decide +kernel
theorem dX8_append_53 : decode cX8_append 53 = .ok (.dup, 1) := by decide +kernel
theorem dX8_append_54 : decode cX8_append 54 = .ok (.getfield 179, 3) := by decide +kernel
theorem dX8_append_57 : decode cX8_append 57 = .ok (.iconst 1, 1) := by decide +kernel
theorem dX8_append_58 : decode cX8_append 58 = .ok (.iadd, 1) := by decide +kernel
theorem dX8_append_59 : decode cX8_append 59 = .ok (.putfield 179, 3) := by decide +kernel
theorem dX8_append_62 : decode cX8_append 62 = .ok (.aload_n 0, 1) := by decide +kernel
theorem dX8_append_63 : decode cX8_append 63 = .ok (.getfield 179, 3) := by decide +kernel
theorem dX8_append_66 : decode cX8_append 66 = .ok (.ireturn, 1) := by decide +kernel
theorem dX8_clearBuffer_0 : decode cX8_clearBuffer 0 = .ok (.aload_n 0, 1) := by decide +kernel
theorem dX8_clearBuffer_1 : decode cX8_clearBuffer 1 = .ok (.iconst 0, 1) := by decide +kernel
theorem dX8_clearBuffer_2 : decode cX8_clearBuffer 2 = .ok (.putfield 33, 3) := by decide +kernel
theorem dX8_clearBuffer_5 : decode cX8_clearBuffer 5 = .ok (.aload_n 0, 1) := by decide +kernel
theorem dX8_clearBuffer_6 : decode cX8_clearBuffer 6 = .ok (.getfield 179, 3) := by decide +kernel
theorem dX8_clearBuffer_9 : decode cX8_clearBuffer 9 = .ok (.istore_n 1, 1) := by decide +kernel
theorem dX8_clearBuffer_10 : decode cX8_clearBuffer 10 = .ok (.aload_n 0, 1) := by decide +kernel
theorem dX8_clearBuffer_11 : decode cX8_clearBuffer 11 = .ok (.iconst 0, 1) := by decide +kernel
theorem dX8_clearBuffer_12 : decode cX8_clearBuffer 12 = .ok (.putfield 179, 3) := by decide +kernel
theorem dX8_clearBuffer_15 : decode cX8_clearBuffer 15 = .ok (.iload_n 1, 1) := by decide +kernel
theorem dX8_clearBuffer_16 : decode cX8_clearBuffer 16 = .ok (.ireturn, 1) := by decide +kernel
theorem dX8_shapeOf_0 : decode cX8_shapeOf 0 = .ok (.iload_n 0, 1) := by decide +kernel
theorem dX8_shapeOf_1 : decode cX8_shapeOf 1 = .ok (.tableswitch 135 98 122 #[133, 135, 135, 115, 135, 130, 135, 135, 135, 115, 135, 135, 117, 135, 120, 135, 135, 135, 123, 135, 135, 126, 120, 135, 115], 115) := by decide +kernel
theorem dX8_shapeOf_116 : decode cX8_shapeOf 116 = .ok (.iconst 1, 1) := by decide +kernel
theorem dX8_shapeOf_117 : decode cX8_shapeOf 117 = .ok (.ireturn, 1) := by decide +kernel
theorem dX8_shapeOf_118 : decode cX8_shapeOf 118 = .ok (.bipush 123, 2) := by decide +kernel
theorem dX8_shapeOf_120 : decode cX8_shapeOf 120 = .ok (.ireturn, 1) := by decide +kernel
theorem dX8_shapeOf_121 : decode cX8_shapeOf 121 = .ok (.bipush 12, 2) := by decide +kernel
theorem dX8_shapeOf_123 : decode cX8_shapeOf 123 = .ok (.ireturn, 1) := by decide +kernel
theorem dX8_shapeOf_124 : decode cX8_shapeOf 124 = .ok (.bipush 13, 2) := by decide +kernel
theorem dX8_shapeOf_126 : decode cX8_shapeOf 126 = .ok (.ireturn, 1) := by decide +kernel
theorem dX8_shapeOf_127 : decode cX8_shapeOf 127 = .ok (.sipush 134, 3) := by decide +kernel
theorem dX8_shapeOf_130 : decode cX8_shapeOf 130 = .ok (.ireturn, 1) := by decide +kernel
theorem dX8_shapeOf_131 : decode cX8_shapeOf 131 = .ok (.bipush 34, 2) := by decide +kernel
theorem dX8_shapeOf_133 : decode cX8_shapeOf 133 = .ok (.ireturn, 1) := by decide +kernel
theorem dX8_shapeOf_134 : decode cX8_shapeOf 134 = .ok (.iconst 0, 1) := by decide +kernel
theorem dX8_shapeOf_135 : decode cX8_shapeOf 135 = .ok (.ireturn, 1) := by decide +kernel
theorem dX8_shapeOf_136 : decode cX8_shapeOf 136 = .ok (.iconst (-1), 1) := by decide +kernel
theorem dX8_shapeOf_137 : decode cX8_shapeOf 137 = .ok (.ireturn, 1) := by decide +kernel
theorem dX8_valueOf_0 : decode cX8_valueOf 0 = .ok (.iload_n 0, 1) := by decide +kernel
theorem dX8_valueOf_1 : decode cX8_valueOf 1 = .ok (.iconst 3, 1) := by decide +kernel
theorem dX8_valueOf_2 : decode cX8_valueOf 2 = .ok (.if_icmp .ne 10, 3) := by decide +kernel
theorem dX8_valueOf_5 : decode cX8_valueOf 5 = .ok (.iload_n 1, 1) := by decide +kernel
theorem dX8_valueOf_6 : decode cX8_valueOf 6 = .ok (.bipush 97, 2) := by decide +kernel
theorem dX8_valueOf_8 : decode cX8_valueOf 8 = .ok (.isub, 1) := by decide +kernel
theorem dX8_valueOf_9 : decode cX8_valueOf 9 = .ok (.goto 7, 3) := by decide +kernel
theorem dX8_valueOf_12 : decode cX8_valueOf 12 = .ok (.iload_n 1, 1) := by decide +kernel
theorem dX8_valueOf_13 : decode cX8_valueOf 13 = .ok (.bipush 48, 2) := by decide +kernel
theorem dX8_valueOf_15 : decode cX8_valueOf 15 = .ok (.isub, 1) := by decide +kernel
theorem dX8_valueOf_16 : decode cX8_valueOf 16 = .ok (.istore_n 2, 1) := by decide +kernel
theorem dX8_valueOf_17 : decode cX8_valueOf 17 = .ok (.iload_n 0, 1) := by decide +kernel
theorem dX8_valueOf_18 : decode cX8_valueOf 18 = .ok (.iconst 1, 1) := by decide +kernel
theorem dX8_valueOf_19 : decode cX8_valueOf 19 = .ok (.if_icmp .ne 7, 3) := by decide +kernel
theorem dX8_valueOf_22 : decode cX8_valueOf 22 = .ok (.iconst 4, 1) := by decide +kernel
theorem dX8_valueOf_23 : decode cX8_valueOf 23 = .ok (.goto 24, 3) := by decide +kernel
theorem dX8_valueOf_26 : decode cX8_valueOf 26 = .ok (.iload_n 0, 1) := by decide +kernel
theorem dX8_valueOf_27 : decode cX8_valueOf 27 = .ok (.iconst 2, 1) := by decide +kernel
theorem dX8_valueOf_28 : decode cX8_valueOf 28 = .ok (.if_icmp .ne 7, 3) := by decide +kernel
theorem dX8_valueOf_31 : decode cX8_valueOf 31 = .ok (.iconst 2, 1) := by decide +kernel
theorem dX8_valueOf_32 : decode cX8_valueOf 32 = .ok (.goto 15, 3) := by decide +kernel
theorem dX8_valueOf_35 : decode cX8_valueOf 35 = .ok (.iload_n 0, 1) := by decide +kernel
theorem dX8_valueOf_36 : decode cX8_valueOf 36 = .ok (.iconst 3, 1) := by decide +kernel
theorem dX8_valueOf_37 : decode cX8_valueOf 37 = .ok (.if_icmp .ne 8, 3) := by decide +kernel
theorem dX8_valueOf_40 : decode cX8_valueOf 40 = .ok (.bipush 11, 2) := by decide +kernel
theorem dX8_valueOf_42 : decode cX8_valueOf 42 = .ok (.goto 5, 3) := by decide +kernel
theorem dX8_valueOf_45 : decode cX8_valueOf 45 = .ok (.bipush 9, 2) := by decide +kernel
theorem dX8_valueOf_47 : decode cX8_valueOf 47 = .ok (.istore_n 3, 1) := by decide +kernel
theorem dX8_valueOf_48 : decode cX8_valueOf 48 = .ok (.iload_n 2, 1) := by decide +kernel
theorem dX8_valueOf_49 : decode cX8_valueOf 49 = .ok (.iconst 0, 1) := by decide +kernel
theorem dX8_valueOf_50 : decode cX8_valueOf 50 = .ok (.iload_n 3, 1) := by decide +kernel
theorem dX8_valueOf_51 : decode cX8_valueOf 51 = .ok (.invokestatic 48, 3) := by decide +kernel
theorem dX8_valueOf_54 : decode cX8_valueOf 54 = .ok (.ifCond .eq 7, 3) := by decide +kernel
theorem dX8_valueOf_57 : decode cX8_valueOf 57 = .ok (.iload_n 2, 1) := by decide +kernel
theorem dX8_valueOf_58 : decode cX8_valueOf 58 = .ok (.goto 4, 3) := by decide +kernel
theorem dX8_valueOf_61 : decode cX8_valueOf 61 = .ok (.iconst (-1), 1) := by decide +kernel
theorem dX8_valueOf_62 : decode cX8_valueOf 62 = .ok (.ireturn, 1) := by decide +kernel
theorem dX8_readOrder_0 : decode cX8_readOrder 0 = .ok (.aload_n 0, 1) := by decide +kernel
theorem dX8_readOrder_1 : decode cX8_readOrder 1 = .ok (.iload_n 1, 1) := by decide +kernel
theorem dX8_readOrder_2 : decode cX8_readOrder 2 = .ok (.aload_n 0, 1) := by decide +kernel
theorem dX8_readOrder_3 : decode cX8_readOrder 3 = .ok (.getfield 179, 3) := by decide +kernel
theorem dX8_readOrder_6 : decode cX8_readOrder 6 = .ok (.if_icmp .ge 12, 3) := by decide +kernel
theorem dX8_readOrder_9 : decode cX8_readOrder 9 = .ok (.aload_n 0, 1) := by decide +kernel
theorem dX8_readOrder_10 : decode cX8_readOrder 10 = .ok (.getfield 19, 3) := by decide +kernel
theorem dX8_readOrder_13 : decode cX8_readOrder 13 = .ok (.iload_n 1, 1) := by decide +kernel
theorem dX8_readOrder_14 : decode cX8_readOrder 14 = .ok (.iaload, 1) := by decide +kernel
theorem dX8_readOrder_15 : decode cX8_readOrder 15 = .ok (.goto 4, 3) := by decide +kernel
theorem dX8_readOrder_18 : decode cX8_readOrder 18 = .ok (.iconst 0, 1) := by decide +kernel
theorem dX8_readOrder_19 : decode cX8_readOrder 19 = .ok (.putfield 182, 3) := by decide +kernel
theorem dX8_readOrder_22 : decode cX8_readOrder 22 = .ok (.aload_n 0, 1) := by decide +kernel
theorem dX8_readOrder_23 : decode cX8_readOrder 23 = .ok (.getfield 182, 3) := by decide +kernel
theorem dX8_readOrder_26 : decode cX8_readOrder 26 = .ok (.invokestatic 185, 3) := by decide +kernel
theorem dX8_readOrder_29 : decode cX8_readOrder 29 = .ok (.istore_n 2, 1) := by decide +kernel
theorem dX8_readOrder_30 : decode cX8_readOrder 30 = .ok (.iload_n 2, 1) := by decide +kernel
theorem dX8_readOrder_31 : decode cX8_readOrder 31 = .ok (.ifCond .ge 7, 3) := by decide +kernel
theorem dX8_readOrder_34 : decode cX8_readOrder 34 = .ok (.iload_n 1, 1) := by decide +kernel
theorem dX8_readOrder_35 : decode cX8_readOrder 35 = .ok (.goto 6, 3) := by decide +kernel
theorem dX8_readOrder_38 : decode cX8_readOrder 38 = .ok (.iload_n 1, 1) := by decide +kernel
theorem dX8_readOrder_39 : decode cX8_readOrder 39 = .ok (.iconst 1, 1) := by decide +kernel
theorem dX8_readOrder_40 : decode cX8_readOrder 40 = .ok (.iadd, 1) := by decide +kernel
theorem dX8_readOrder_41 : decode cX8_readOrder 41 = .ok (.istore_n 3, 1) := by decide +kernel
theorem dX8_readOrder_42 : decode cX8_readOrder 42 = .ok (.iload_n 2, 1) := by decide +kernel
theorem dX8_readOrder_43 : decode cX8_readOrder 43 = .ok (.ifCond .ge 7, 3) := by decide +kernel
theorem dX8_readOrder_46 : decode cX8_readOrder 46 = .ok (.iconst 1, 1) := by decide +kernel
theorem dX8_readOrder_47 : decode cX8_readOrder 47 = .ok (.goto 4, 3) := by decide +kernel
theorem dX8_readOrder_50 : decode cX8_readOrder 50 = .ok (.iconst 0, 1) := by decide +kernel
theorem dX8_readOrder_51 : decode cX8_readOrder 51 = .ok (.istore 4, 2) := by decide +kernel
theorem dX8_readOrder_53 : decode cX8_readOrder 53 = .ok (.bipush 100, 2) := by decide +kernel
theorem dX8_readOrder_55 : decode cX8_readOrder 55 = .ok (.istore 5, 2) := by decide +kernel
theorem dX8_readOrder_57 : decode cX8_readOrder 57 = .ok (.iload 5, 2) := by decide +kernel
theorem dX8_readOrder_59 : decode cX8_readOrder 59 = .ok (.ifCond .le 92, 3) := by decide +kernel
theorem dX8_readOrder_62 : decode cX8_readOrder 62 = .ok (.iload 4, 2) := by decide +kernel
theorem dX8_readOrder_64 : decode cX8_readOrder 64 = .ok (.ifCond .ne 87, 3) := by decide +kernel
theorem dX8_readOrder_67 : decode cX8_readOrder 67 = .ok (.iload_n 2, 1) := by decide +kernel
theorem dX8_readOrder_68 : decode cX8_readOrder 68 = .ok (.iload 5, 2) := by decide +kernel
theorem dX8_readOrder_70 : decode cX8_readOrder 70 = .ok (.idiv, 1) := by decide +kernel
theorem dX8_readOrder_71 : decode cX8_readOrder 71 = .ok (.bipush 10, 2) := by decide +kernel
theorem dX8_readOrder_73 : decode cX8_readOrder 73 = .ok (.irem, 1) := by decide +kernel
theorem dX8_readOrder_74 : decode cX8_readOrder 74 = .ok (.istore 6, 2) := by decide +kernel
theorem dX8_readOrder_76 : decode cX8_readOrder 76 = .ok (.iload 6, 2) := by decide +kernel
theorem dX8_readOrder_78 : decode cX8_readOrder 78 = .ok (.ifCond .le 63, 3) := by decide +kernel
theorem dX8_readOrder_81 : decode cX8_readOrder 81 = .ok (.aload_n 0, 1) := by decide +kernel
theorem dX8_readOrder_82 : decode cX8_readOrder 82 = .ok (.getfield 22, 3) := by decide +kernel
theorem dX8_readOrder_85 : decode cX8_readOrder 85 = .ok (.iload 6, 2) := by decide +kernel
theorem dX8_readOrder_87 : decode cX8_readOrder 87 = .ok (.iload_n 3, 1) := by decide +kernel
theorem dX8_readOrder_88 : decode cX8_readOrder 88 = .ok (.aload_n 0, 1) := by decide +kernel
theorem dX8_readOrder_89 : decode cX8_readOrder 89 = .ok (.getfield 179, 3) := by decide +kernel
theorem dX8_readOrder_92 : decode cX8_readOrder 92 = .ok (.if_icmp .ge 17, 3) := by decide +kernel
theorem dX8_readOrder_95 : decode cX8_readOrder 95 = .ok (.iload 6, 2) := by decide +kernel
theorem dX8_readOrder_97 : decode cX8_readOrder 97 = .ok (.aload_n 0, 1) := by decide +kernel
theorem dX8_readOrder_98 : decode cX8_readOrder 98 = .ok (.getfield 19, 3) := by decide +kernel
theorem dX8_readOrder_101 : decode cX8_readOrder 101 = .ok (.iload_n 3, 1) := by decide +kernel
theorem dX8_readOrder_102 : decode cX8_readOrder 102 = .ok (.iaload, 1) := by decide +kernel
theorem dX8_readOrder_103 : decode cX8_readOrder 103 = .ok (.invokestatic 188, 3) := by decide +kernel
theorem dX8_readOrder_106 : decode cX8_readOrder 106 = .ok (.goto 4, 3) := by decide +kernel
theorem dX8_readOrder_109 : decode cX8_readOrder 109 = .ok (.iconst (-1), 1) := by decide +kernel
theorem dX8_readOrder_110 : decode cX8_readOrder 110 = .ok (.iastore, 1) := by decide +kernel
theorem dX8_readOrder_111 : decode cX8_readOrder 111 = .ok (.aload_n 0, 1) := by decide +kernel
theorem dX8_readOrder_112 : decode cX8_readOrder 112 = .ok (.getfield 22, 3) := by decide +kernel
theorem dX8_readOrder_115 : decode cX8_readOrder 115 = .ok (.iload 6, 2) := by decide +kernel
theorem dX8_readOrder_117 : decode cX8_readOrder 117 = .ok (.iaload, 1) := by decide +kernel
theorem dX8_readOrder_118 : decode cX8_readOrder 118 = .ok (.ifCond .ge 7, 3) := by decide +kernel
theorem dX8_readOrder_121 : decode cX8_readOrder 121 = .ok (.iconst 1, 1) := by decide +kernel
theorem dX8_readOrder_122 : decode cX8_readOrder 122 = .ok (.goto 4, 3) := by decide +kernel
theorem dX8_readOrder_125 : decode cX8_readOrder 125 = .ok (.iconst 0, 1) := by decide +kernel
theorem dX8_readOrder_126 : decode cX8_readOrder 126 = .ok (.istore 4, 2) := by decide +kernel
theorem dX8_readOrder_128 : decode cX8_readOrder 128 = .ok (.iload_n 3, 1) := by decide +kernel
theorem dX8_readOrder_129 : decode cX8_readOrder 129 = .ok (.iload 4, 2) := by decide +kernel
theorem dX8_readOrder_131 : decode cX8_readOrder 131 = .ok (.ifCond .eq 7, 3) := by decide +kernel
theorem dX8_readOrder_134 : decode cX8_readOrder 134 = .ok (.iconst 0, 1) := by decide +kernel
theorem dX8_readOrder_135 : decode cX8_readOrder 135 = .ok (.goto 4, 3) := by decide +kernel
theorem dX8_readOrder_138 : decode cX8_readOrder 138 = .ok (.iconst 1, 1) := by decide +kernel
theorem dX8_readOrder_139 : decode cX8_readOrder 139 = .ok (.iadd, 1) := by decide +kernel
theorem dX8_readOrder_140 : decode cX8_readOrder 140 = .ok (.istore_n 3, 1) := by decide +kernel
theorem dX8_readOrder_141 : decode cX8_readOrder 141 = .ok (.iload 5, 2) := by decide +kernel
theorem dX8_readOrder_143 : decode cX8_readOrder 143 = .ok (.bipush 10, 2) := by decide +kernel
theorem dX8_readOrder_145 : decode cX8_readOrder 145 = .ok (.idiv, 1) := by decide +kernel
theorem dX8_readOrder_146 : decode cX8_readOrder 146 = .ok (.istore 5, 2) := by decide +kernel
theorem dX8_readOrder_148 : decode cX8_readOrder 148 = .ok (.goto (-91), 3) := by decide +kernel
theorem dX8_readOrder_151 : decode cX8_readOrder 151 = .ok (.iload 4, 2) := by decide +kernel
theorem dX8_readOrder_153 : decode cX8_readOrder 153 = .ok (.ifCond .eq 9, 3) := by decide +kernel
theorem dX8_readOrder_156 : decode cX8_readOrder 156 = .ok (.iconst (-1), 1) := by decide +kernel
theorem dX8_readOrder_157 : decode cX8_readOrder 157 = .ok (.iload_n 3, 1) := by decide +kernel
theorem dX8_readOrder_158 : decode cX8_readOrder 158 = .ok (.isub, 1) := by decide +kernel
theorem dX8_readOrder_159 : decode cX8_readOrder 159 = .ok (.goto 4, 3) := by decide +kernel
theorem dX8_readOrder_162 : decode cX8_readOrder 162 = .ok (.iload_n 3, 1) := by decide +kernel
theorem dX8_readOrder_163 : decode cX8_readOrder 163 = .ok (.ireturn, 1) := by decide +kernel
theorem dX8_findError_0 : decode cX8_findError 0 = .ok (.aload_n 0, 1) := by decide +kernel
theorem dX8_findError_1 : decode cX8_findError 1 = .ok (.iconst 0, 1) := by decide +kernel
theorem dX8_findError_2 : decode cX8_findError 2 = .ok (.putfield 191, 3) := by decide +kernel
theorem dX8_findError_5 : decode cX8_findError 5 = .ok (.iconst 0, 1) := by decide +kernel
theorem dX8_findError_6 : decode cX8_findError 6 = .ok (.istore_n 1, 1) := by decide +kernel
theorem dX8_findError_7 : decode cX8_findError 7 = .ok (.aload_n 0, 1) := by decide +kernel
theorem dX8_findError_8 : decode cX8_findError 8 = .ok (.iload_n 1, 1) := by decide +kernel
theorem dX8_findError_9 : decode cX8_findError 9 = .ok (.invokevirtual 194, 3) := by decide +kernel
theorem dX8_findError_12 : decode cX8_findError 12 = .ok (.istore_n 1, 1) := by decide +kernel
theorem dX8_findError_13 : decode cX8_findError 13 = .ok (.iload_n 1, 1) := by decide +kernel
theorem dX8_findError_14 : decode cX8_findError 14 = .ok (.ifCond .ge 7, 3) := by decide +kernel
theorem dX8_findError_17 : decode cX8_findError 17 = .ok (.iconst (-1), 1) := by decide +kernel
theorem dX8_findError_18 : decode cX8_findError 18 = .ok (.iload_n 1, 1) := by decide +kernel
theorem dX8_findError_19 : decode cX8_findError 19 = .ok (.isub, 1) := by decide +kernel
theorem dX8_findError_20 : decode cX8_findError 20 = .ok (.ireturn, 1) := by decide +kernel
theorem dX8_findError_21 : decode cX8_findError 21 = .ok (.iload_n 1, 1) := by decide +kernel
theorem dX8_findError_22 : decode cX8_findError 22 = .ok (.aload_n 0, 1) := by decide +kernel
theorem dX8_findError_23 : decode cX8_findError 23 = .ok (.getfield 179, 3) := by decide +kernel
theorem dX8_findError_26 : decode cX8_findError 26 = .ok (.if_icmp .ne 10, 3) := by decide +kernel
theorem dX8_findError_29 : decode cX8_findError 29 = .ok (.aload_n 0, 1) := by decide +kernel
theorem dX8_findError_30 : decode cX8_findError 30 = .ok (.iconst 1, 1) := by decide +kernel
theorem dX8_findError_31 : decode cX8_findError 31 = .ok (.putfield 191, 3) := by decide +kernel
theorem dX8_findError_34 : decode cX8_findError 34 = .ok (.iload_n 1, 1) := by decide +kernel
theorem dX8_findError_35 : decode cX8_findError 35 = .ok (.ireturn, 1) := by decide +kernel
theorem dX8_findError_36 : decode cX8_findError 36 = .ok (.aload_n 0, 1) := by decide +kernel
theorem dX8_findError_37 : decode cX8_findError 37 = .ok (.getfield 19, 3) := by decide +kernel
theorem dX8_findError_40 : decode cX8_findError 40 = .ok (.iload_n 1, 1) := by decide +kernel
theorem dX8_findError_41 : decode cX8_findError 41 = .ok (.iaload, 1) := by decide +kernel
theorem dX8_findError_42 : decode cX8_findError 42 = .ok (.bipush 59, 2) := by decide +kernel
theorem dX8_findError_44 : decode cX8_findError 44 = .ok (.if_icmp .eq 5, 3) := by decide +kernel
theorem dX8_findError_47 : decode cX8_findError 47 = .ok (.iload_n 1, 1) := by decide +kernel
theorem dX8_findError_48 : decode cX8_findError 48 = .ok (.ireturn, 1) := by decide +kernel
theorem dX8_findError_49 : decode cX8_findError 49 = .ok (.iinc 1 1, 3) := by decide +kernel
theorem dX8_findError_52 : decode cX8_findError 52 = .ok (.goto (-45), 3) := by decide +kernel
theorem dX8_firstError_0 : decode cX8_firstError 0 = .ok (.aload_n 0, 1) := by decide +kernel
theorem dX8_firstError_1 : decode cX8_firstError 1 = .ok (.iconst 0, 1) := by decide +kernel
theorem dX8_firstError_2 : decode cX8_firstError 2 = .ok (.putfield 33, 3) := by decide +kernel
theorem dX8_firstError_5 : decode cX8_firstError 5 = .ok (.aload_n 0, 1) := by decide +kernel
theorem dX8_firstError_6 : decode cX8_firstError 6 = .ok (.invokevirtual 197, 3) := by decide +kernel
theorem dX8_firstError_9 : decode cX8_firstError 9 = .ok (.ireturn, 1) := by decide +kernel
theorem dX8_canDo_0 : decode cX8_canDo 0 = .ok (.aload_n 0, 1) := by decide +kernel
theorem dX8_canDo_1 : decode cX8_canDo 1 = .ok (.getfield 182, 3) := by decide +kernel
theorem dX8_canDo_4 : decode cX8_canDo 4 = .ok (.tableswitch 323 101 122 #[104, 323, 298, 323, 323, 323, 142, 323, 323, 161, 323, 192, 323, 323, 323, 242, 323, 323, 267, 217, 323, 123], 104) := by decide +kernel
theorem dX8_canDo_108 : decode cX8_canDo 108 = .ok (.aload_n 0, 1) := by decide +kernel
theorem dX8_canDo_109 : decode cX8_canDo 109 = .ok (.aload_n 0, 1) := by decide +kernel
theorem dX8_canDo_110 : decode cX8_canDo 110 = .ok (.getfield 22, 3) := by decide +kernel
theorem dX8_canDo_113 : decode cX8_canDo 113 = .ok (.iconst 1, 1) := by decide +kernel
theorem dX8_canDo_114 : decode cX8_canDo 114 = .ok (.iaload, 1) := by decide +kernel
theorem dX8_canDo_115 : decode cX8_canDo 115 = .ok (.invokevirtual 100, 3) := by decide +kernel
theorem dX8_canDo_118 : decode cX8_canDo 118 = .ok (.ifCond .ne 7, 3) := by decide +kernel
theorem dX8_canDo_121 : decode cX8_canDo 121 = .ok (.iconst 1, 1) := by decide +kernel
theorem dX8_canDo_122 : decode cX8_canDo 122 = .ok (.goto 4, 3) := by decide +kernel
theorem dX8_canDo_125 : decode cX8_canDo 125 = .ok (.iconst 0, 1) := by decide +kernel
theorem dX8_canDo_126 : decode cX8_canDo 126 = .ok (.ireturn, 1) := by decide +kernel
theorem dX8_canDo_127 : decode cX8_canDo 127 = .ok (.aload_n 0, 1) := by decide +kernel
theorem dX8_canDo_128 : decode cX8_canDo 128 = .ok (.aload_n 0, 1) := by decide +kernel
theorem dX8_canDo_129 : decode cX8_canDo 129 = .ok (.getfield 22, 3) := by decide +kernel
theorem dX8_canDo_132 : decode cX8_canDo 132 = .ok (.iconst 1, 1) := by decide +kernel
theorem dX8_canDo_133 : decode cX8_canDo 133 = .ok (.iaload, 1) := by decide +kernel
theorem dX8_canDo_134 : decode cX8_canDo 134 = .ok (.invokevirtual 110, 3) := by decide +kernel
theorem dX8_canDo_137 : decode cX8_canDo 137 = .ok (.ifCond .ne 7, 3) := by decide +kernel
theorem dX8_canDo_140 : decode cX8_canDo 140 = .ok (.iconst 1, 1) := by decide +kernel
theorem dX8_canDo_141 : decode cX8_canDo 141 = .ok (.goto 4, 3) := by decide +kernel
theorem dX8_canDo_144 : decode cX8_canDo 144 = .ok (.iconst 0, 1) := by decide +kernel
theorem dX8_canDo_145 : decode cX8_canDo 145 = .ok (.ireturn, 1) := by decide +kernel
theorem dX8_canDo_146 : decode cX8_canDo 146 = .ok (.aload_n 0, 1) := by decide +kernel
theorem dX8_canDo_147 : decode cX8_canDo 147 = .ok (.aload_n 0, 1) := by decide +kernel
theorem dX8_canDo_148 : decode cX8_canDo 148 = .ok (.getfield 22, 3) := by decide +kernel
theorem dX8_canDo_151 : decode cX8_canDo 151 = .ok (.iconst 1, 1) := by decide +kernel
theorem dX8_canDo_152 : decode cX8_canDo 152 = .ok (.iaload, 1) := by decide +kernel
theorem dX8_canDo_153 : decode cX8_canDo 153 = .ok (.invokevirtual 176, 3) := by decide +kernel
theorem dX8_canDo_156 : decode cX8_canDo 156 = .ok (.ifCond .ne 7, 3) := by decide +kernel
theorem dX8_canDo_159 : decode cX8_canDo 159 = .ok (.iconst 1, 1) := by decide +kernel
theorem dX8_canDo_160 : decode cX8_canDo 160 = .ok (.goto 4, 3) := by decide +kernel
theorem dX8_canDo_163 : decode cX8_canDo 163 = .ok (.iconst 0, 1) := by decide +kernel
theorem dX8_canDo_164 : decode cX8_canDo 164 = .ok (.ireturn, 1) := by decide +kernel
theorem dX8_canDo_165 : decode cX8_canDo 165 = .ok (.aload_n 0, 1) := by decide +kernel
theorem dX8_canDo_166 : decode cX8_canDo 166 = .ok (.aload_n 0, 1) := by decide +kernel
theorem dX8_canDo_167 : decode cX8_canDo 167 = .ok (.getfield 22, 3) := by decide +kernel
theorem dX8_canDo_170 : decode cX8_canDo 170 = .ok (.iconst 1, 1) := by decide +kernel
theorem dX8_canDo_171 : decode cX8_canDo 171 = .ok (.iaload, 1) := by decide +kernel
theorem dX8_canDo_172 : decode cX8_canDo 172 = .ok (.aload_n 0, 1) := by decide +kernel
theorem dX8_canDo_173 : decode cX8_canDo 173 = .ok (.getfield 22, 3) := by decide +kernel
theorem dX8_canDo_176 : decode cX8_canDo 176 = .ok (.iconst 2, 1) := by decide +kernel
theorem dX8_canDo_177 : decode cX8_canDo 177 = .ok (.iaload, 1) := by decide +kernel
theorem dX8_canDo_178 : decode cX8_canDo 178 = .ok (.aload_n 0, 1) := by decide +kernel
theorem dX8_canDo_179 : decode cX8_canDo 179 = .ok (.getfield 22, 3) := by decide +kernel
theorem dX8_canDo_182 : decode cX8_canDo 182 = .ok (.iconst 3, 1) := by decide +kernel
theorem dX8_canDo_183 : decode cX8_canDo 183 = .ok (.iaload, 1) := by decide +kernel
theorem dX8_canDo_184 : decode cX8_canDo 184 = .ok (.invokevirtual 137, 3) := by decide +kernel
theorem dX8_canDo_187 : decode cX8_canDo 187 = .ok (.ifCond .ne 7, 3) := by decide +kernel
theorem dX8_canDo_190 : decode cX8_canDo 190 = .ok (.iconst 1, 1) := by decide +kernel
theorem dX8_canDo_191 : decode cX8_canDo 191 = .ok (.goto 4, 3) := by decide +kernel
theorem dX8_canDo_194 : decode cX8_canDo 194 = .ok (.iconst 0, 1) := by decide +kernel
theorem dX8_canDo_195 : decode cX8_canDo 195 = .ok (.ireturn, 1) := by decide +kernel
theorem dX8_canDo_196 : decode cX8_canDo 196 = .ok (.aload_n 0, 1) := by decide +kernel
theorem dX8_canDo_197 : decode cX8_canDo 197 = .ok (.aload_n 0, 1) := by decide +kernel
theorem dX8_canDo_198 : decode cX8_canDo 198 = .ok (.getfield 22, 3) := by decide +kernel
theorem dX8_canDo_201 : decode cX8_canDo 201 = .ok (.iconst 1, 1) := by decide +kernel
theorem dX8_canDo_202 : decode cX8_canDo 202 = .ok (.iaload, 1) := by decide +kernel
theorem dX8_canDo_203 : decode cX8_canDo 203 = .ok (.aload_n 0, 1) := by decide +kernel
theorem dX8_canDo_204 : decode cX8_canDo 204 = .ok (.getfield 22, 3) := by decide +kernel
theorem dX8_canDo_207 : decode cX8_canDo 207 = .ok (.iconst 2, 1) := by decide +kernel
theorem dX8_canDo_208 : decode cX8_canDo 208 = .ok (.iaload, 1) := by decide +kernel
theorem dX8_canDo_209 : decode cX8_canDo 209 = .ok (.invokevirtual 143, 3) := by decide +kernel
theorem dX8_canDo_212 : decode cX8_canDo 212 = .ok (.ifCond .ne 7, 3) := by decide +kernel
theorem dX8_canDo_215 : decode cX8_canDo 215 = .ok (.iconst 1, 1) := by decide +kernel
theorem dX8_canDo_216 : decode cX8_canDo 216 = .ok (.goto 4, 3) := by decide +kernel
theorem dX8_canDo_219 : decode cX8_canDo 219 = .ok (.iconst 0, 1) := by decide +kernel
theorem dX8_canDo_220 : decode cX8_canDo 220 = .ok (.ireturn, 1) := by decide +kernel
theorem dX8_canDo_221 : decode cX8_canDo 221 = .ok (.aload_n 0, 1) := by decide +kernel
theorem dX8_canDo_222 : decode cX8_canDo 222 = .ok (.aload_n 0, 1) := by decide +kernel
theorem dX8_canDo_223 : decode cX8_canDo 223 = .ok (.getfield 22, 3) := by decide +kernel
theorem dX8_canDo_226 : decode cX8_canDo 226 = .ok (.iconst 1, 1) := by decide +kernel
theorem dX8_canDo_227 : decode cX8_canDo 227 = .ok (.iaload, 1) := by decide +kernel
theorem dX8_canDo_228 : decode cX8_canDo 228 = .ok (.aload_n 0, 1) := by decide +kernel
theorem dX8_canDo_229 : decode cX8_canDo 229 = .ok (.getfield 22, 3) := by decide +kernel
theorem dX8_canDo_232 : decode cX8_canDo 232 = .ok (.iconst 2, 1) := by decide +kernel
theorem dX8_canDo_233 : decode cX8_canDo 233 = .ok (.iaload, 1) := by decide +kernel
theorem dX8_canDo_234 : decode cX8_canDo 234 = .ok (.invokevirtual 149, 3) := by decide +kernel
theorem dX8_canDo_237 : decode cX8_canDo 237 = .ok (.ifCond .ne 7, 3) := by decide +kernel
theorem dX8_canDo_240 : decode cX8_canDo 240 = .ok (.iconst 1, 1) := by decide +kernel
theorem dX8_canDo_241 : decode cX8_canDo 241 = .ok (.goto 4, 3) := by decide +kernel
theorem dX8_canDo_244 : decode cX8_canDo 244 = .ok (.iconst 0, 1) := by decide +kernel
theorem dX8_canDo_245 : decode cX8_canDo 245 = .ok (.ireturn, 1) := by decide +kernel
theorem dX8_canDo_246 : decode cX8_canDo 246 = .ok (.aload_n 0, 1) := by decide +kernel
theorem dX8_canDo_247 : decode cX8_canDo 247 = .ok (.aload_n 0, 1) := by decide +kernel
theorem dX8_canDo_248 : decode cX8_canDo 248 = .ok (.getfield 22, 3) := by decide +kernel
theorem dX8_canDo_251 : decode cX8_canDo 251 = .ok (.iconst 1, 1) := by decide +kernel
theorem dX8_canDo_252 : decode cX8_canDo 252 = .ok (.iaload, 1) := by decide +kernel
theorem dX8_canDo_253 : decode cX8_canDo 253 = .ok (.aload_n 0, 1) := by decide +kernel
theorem dX8_canDo_254 : decode cX8_canDo 254 = .ok (.getfield 22, 3) := by decide +kernel
theorem dX8_canDo_257 : decode cX8_canDo 257 = .ok (.iconst 3, 1) := by decide +kernel
theorem dX8_canDo_258 : decode cX8_canDo 258 = .ok (.iaload, 1) := by decide +kernel
theorem dX8_canDo_259 : decode cX8_canDo 259 = .ok (.invokevirtual 164, 3) := by decide +kernel
theorem dX8_canDo_262 : decode cX8_canDo 262 = .ok (.ifCond .ne 7, 3) := by decide +kernel
theorem dX8_canDo_265 : decode cX8_canDo 265 = .ok (.iconst 1, 1) := by decide +kernel
theorem dX8_canDo_266 : decode cX8_canDo 266 = .ok (.goto 4, 3) := by decide +kernel
theorem dX8_canDo_269 : decode cX8_canDo 269 = .ok (.iconst 0, 1) := by decide +kernel
theorem dX8_canDo_270 : decode cX8_canDo 270 = .ok (.ireturn, 1) := by decide +kernel
theorem dX8_canDo_271 : decode cX8_canDo 271 = .ok (.aload_n 0, 1) := by decide +kernel
theorem dX8_canDo_272 : decode cX8_canDo 272 = .ok (.aload_n 0, 1) := by decide +kernel
theorem dX8_canDo_273 : decode cX8_canDo 273 = .ok (.getfield 22, 3) := by decide +kernel
theorem dX8_canDo_276 : decode cX8_canDo 276 = .ok (.iconst 1, 1) := by decide +kernel
theorem dX8_canDo_277 : decode cX8_canDo 277 = .ok (.iaload, 1) := by decide +kernel
theorem dX8_canDo_278 : decode cX8_canDo 278 = .ok (.aload_n 0, 1) := by decide +kernel
theorem dX8_canDo_279 : decode cX8_canDo 279 = .ok (.getfield 22, 3) := by decide +kernel
theorem dX8_canDo_282 : decode cX8_canDo 282 = .ok (.iconst 3, 1) := by decide +kernel
theorem dX8_canDo_283 : decode cX8_canDo 283 = .ok (.iaload, 1) := by decide +kernel
theorem dX8_canDo_284 : decode cX8_canDo 284 = .ok (.aload_n 0, 1) := by decide +kernel
theorem dX8_canDo_285 : decode cX8_canDo 285 = .ok (.getfield 22, 3) := by decide +kernel
theorem dX8_canDo_288 : decode cX8_canDo 288 = .ok (.iconst 4, 1) := by decide +kernel
theorem dX8_canDo_289 : decode cX8_canDo 289 = .ok (.iaload, 1) := by decide +kernel
theorem dX8_canDo_290 : decode cX8_canDo 290 = .ok (.invokevirtual 170, 3) := by decide +kernel
theorem dX8_canDo_293 : decode cX8_canDo 293 = .ok (.ifCond .ne 7, 3) := by decide +kernel
theorem dX8_canDo_296 : decode cX8_canDo 296 = .ok (.iconst 1, 1) := by decide +kernel
theorem dX8_canDo_297 : decode cX8_canDo 297 = .ok (.goto 4, 3) := by decide +kernel
theorem dX8_canDo_300 : decode cX8_canDo 300 = .ok (.iconst 0, 1) := by decide +kernel
theorem dX8_canDo_301 : decode cX8_canDo 301 = .ok (.ireturn, 1) := by decide +kernel
theorem dX8_canDo_302 : decode cX8_canDo 302 = .ok (.aload_n 0, 1) := by decide +kernel
theorem dX8_canDo_303 : decode cX8_canDo 303 = .ok (.aload_n 0, 1) := by decide +kernel
theorem dX8_canDo_304 : decode cX8_canDo 304 = .ok (.getfield 22, 3) := by decide +kernel
theorem dX8_canDo_307 : decode cX8_canDo 307 = .ok (.iconst 3, 1) := by decide +kernel
theorem dX8_canDo_308 : decode cX8_canDo 308 = .ok (.iaload, 1) := by decide +kernel
theorem dX8_canDo_309 : decode cX8_canDo 309 = .ok (.aload_n 0, 1) := by decide +kernel
theorem dX8_canDo_310 : decode cX8_canDo 310 = .ok (.getfield 22, 3) := by decide +kernel
theorem dX8_canDo_313 : decode cX8_canDo 313 = .ok (.iconst 4, 1) := by decide +kernel
theorem dX8_canDo_314 : decode cX8_canDo 314 = .ok (.iaload, 1) := by decide +kernel
theorem dX8_canDo_315 : decode cX8_canDo 315 = .ok (.invokevirtual 128, 3) := by decide +kernel
theorem dX8_canDo_318 : decode cX8_canDo 318 = .ok (.ifCond .ne 7, 3) := by decide +kernel
theorem dX8_canDo_321 : decode cX8_canDo 321 = .ok (.iconst 1, 1) := by decide +kernel
theorem dX8_canDo_322 : decode cX8_canDo 322 = .ok (.goto 4, 3) := by decide +kernel
theorem dX8_canDo_325 : decode cX8_canDo 325 = .ok (.iconst 0, 1) := by decide +kernel
theorem dX8_canDo_326 : decode cX8_canDo 326 = .ok (.ireturn, 1) := by decide +kernel
theorem dX8_canDo_327 : decode cX8_canDo 327 = .ok (.aload_n 0, 1) := by decide +kernel
theorem dX8_canDo_328 : decode cX8_canDo 328 = .ok (.invokevirtual 116, 3) := by decide +kernel
theorem dX8_canDo_331 : decode cX8_canDo 331 = .ok (.ifCond .ne 7, 3) := by decide +kernel
theorem dX8_canDo_334 : decode cX8_canDo 334 = .ok (.iconst 1, 1) := by decide +kernel
theorem dX8_canDo_335 : decode cX8_canDo 335 = .ok (.goto 4, 3) := by decide +kernel
theorem dX8_canDo_338 : decode cX8_canDo 338 = .ok (.iconst 0, 1) := by decide +kernel
theorem dX8_canDo_339 : decode cX8_canDo 339 = .ok (.ireturn, 1) := by decide +kernel
theorem dX8_doOrder_0 : decode cX8_doOrder 0 = .ok (.aload_n 0, 1) := by decide +kernel
theorem dX8_doOrder_1 : decode cX8_doOrder 1 = .ok (.getfield 182, 3) := by decide +kernel
theorem dX8_doOrder_4 : decode cX8_doOrder 4 = .ok (.tableswitch 251 101 122 #[104, 251, 234, 251, 251, 251, 126, 251, 251, 137, 251, 160, 251, 251, 251, 194, 251, 251, 211, 177, 251, 115], 104) := by decide +kernel
theorem dX8_doOrder_108 : decode cX8_doOrder 108 = .ok (.aload_n 0, 1) := by decide +kernel
theorem dX8_doOrder_109 : decode cX8_doOrder 109 = .ok (.aload_n 0, 1) := by decide +kernel
theorem dX8_doOrder_110 : decode cX8_doOrder 110 = .ok (.getfield 22, 3) := by decide +kernel
theorem dX8_doOrder_113 : decode cX8_doOrder 113 = .ok (.iconst 1, 1) := by decide +kernel
theorem dX8_doOrder_114 : decode cX8_doOrder 114 = .ok (.iaload, 1) := by decide +kernel
theorem dX8_doOrder_115 : decode cX8_doOrder 115 = .ok (.invokevirtual 104, 3) := by decide +kernel
theorem dX8_doOrder_118 : decode cX8_doOrder 118 = .ok (.ireturn, 1) := by decide +kernel
theorem dX8_doOrder_119 : decode cX8_doOrder 119 = .ok (.aload_n 0, 1) := by decide +kernel
theorem dX8_doOrder_120 : decode cX8_doOrder 120 = .ok (.aload_n 0, 1) := by decide +kernel
theorem dX8_doOrder_121 : decode cX8_doOrder 121 = .ok (.getfield 22, 3) := by decide +kernel
theorem dX8_doOrder_124 : decode cX8_doOrder 124 = .ok (.iconst 1, 1) := by decide +kernel
theorem dX8_doOrder_125 : decode cX8_doOrder 125 = .ok (.iaload, 1) := by decide +kernel
theorem dX8_doOrder_126 : decode cX8_doOrder 126 = .ok (.invokevirtual 113, 3) := by decide +kernel
theorem dX8_doOrder_129 : decode cX8_doOrder 129 = .ok (.ireturn, 1) := by decide +kernel
theorem dX8_doOrder_130 : decode cX8_doOrder 130 = .ok (.aload_n 0, 1) := by decide +kernel
theorem dX8_doOrder_131 : decode cX8_doOrder 131 = .ok (.aload_n 0, 1) := by decide +kernel
theorem dX8_doOrder_132 : decode cX8_doOrder 132 = .ok (.getfield 22, 3) := by decide +kernel
theorem dX8_doOrder_135 : decode cX8_doOrder 135 = .ok (.iconst 1, 1) := by decide +kernel
theorem dX8_doOrder_136 : decode cX8_doOrder 136 = .ok (.iaload, 1) := by decide +kernel
theorem dX8_doOrder_137 : decode cX8_doOrder 137 = .ok (.invokevirtual 158, 3) := by decide +kernel
theorem dX8_doOrder_140 : decode cX8_doOrder 140 = .ok (.ireturn, 1) := by decide +kernel
theorem dX8_doOrder_141 : decode cX8_doOrder 141 = .ok (.aload_n 0, 1) := by decide +kernel
theorem dX8_doOrder_142 : decode cX8_doOrder 142 = .ok (.aload_n 0, 1) := by decide +kernel
theorem dX8_doOrder_143 : decode cX8_doOrder 143 = .ok (.getfield 22, 3) := by decide +kernel
theorem dX8_doOrder_146 : decode cX8_doOrder 146 = .ok (.iconst 1, 1) := by decide +kernel
theorem dX8_doOrder_147 : decode cX8_doOrder 147 = .ok (.iaload, 1) := by decide +kernel
theorem dX8_doOrder_148 : decode cX8_doOrder 148 = .ok (.aload_n 0, 1) := by decide +kernel
theorem dX8_doOrder_149 : decode cX8_doOrder 149 = .ok (.getfield 22, 3) := by decide +kernel
theorem dX8_doOrder_152 : decode cX8_doOrder 152 = .ok (.iconst 2, 1) := by decide +kernel
theorem dX8_doOrder_153 : decode cX8_doOrder 153 = .ok (.iaload, 1) := by decide +kernel
theorem dX8_doOrder_154 : decode cX8_doOrder 154 = .ok (.aload_n 0, 1) := by decide +kernel
theorem dX8_doOrder_155 : decode cX8_doOrder 155 = .ok (.getfield 22, 3) := by decide +kernel
theorem dX8_doOrder_158 : decode cX8_doOrder 158 = .ok (.iconst 3, 1) := by decide +kernel
theorem dX8_doOrder_159 : decode cX8_doOrder 159 = .ok (.iaload, 1) := by decide +kernel
theorem dX8_doOrder_160 : decode cX8_doOrder 160 = .ok (.invokevirtual 140, 3) := by decide +kernel
theorem dX8_doOrder_163 : decode cX8_doOrder 163 = .ok (.ireturn, 1) := by decide +kernel
theorem dX8_doOrder_164 : decode cX8_doOrder 164 = .ok (.aload_n 0, 1) := by decide +kernel
theorem dX8_doOrder_165 : decode cX8_doOrder 165 = .ok (.aload_n 0, 1) := by decide +kernel
theorem dX8_doOrder_166 : decode cX8_doOrder 166 = .ok (.getfield 22, 3) := by decide +kernel
theorem dX8_doOrder_169 : decode cX8_doOrder 169 = .ok (.iconst 1, 1) := by decide +kernel
theorem dX8_doOrder_170 : decode cX8_doOrder 170 = .ok (.iaload, 1) := by decide +kernel
theorem dX8_doOrder_171 : decode cX8_doOrder 171 = .ok (.aload_n 0, 1) := by decide +kernel
theorem dX8_doOrder_172 : decode cX8_doOrder 172 = .ok (.getfield 22, 3) := by decide +kernel
theorem dX8_doOrder_175 : decode cX8_doOrder 175 = .ok (.iconst 2, 1) := by decide +kernel
theorem dX8_doOrder_176 : decode cX8_doOrder 176 = .ok (.iaload, 1) := by decide +kernel
theorem dX8_doOrder_177 : decode cX8_doOrder 177 = .ok (.invokevirtual 146, 3) := by decide +kernel
theorem dX8_doOrder_180 : decode cX8_doOrder 180 = .ok (.ireturn, 1) := by decide +kernel
theorem dX8_doOrder_181 : decode cX8_doOrder 181 = .ok (.aload_n 0, 1) := by decide +kernel
theorem dX8_doOrder_182 : decode cX8_doOrder 182 = .ok (.aload_n 0, 1) := by decide +kernel
theorem dX8_doOrder_183 : decode cX8_doOrder 183 = .ok (.getfield 22, 3) := by decide +kernel
theorem dX8_doOrder_186 : decode cX8_doOrder 186 = .ok (.iconst 1, 1) := by decide +kernel
theorem dX8_doOrder_187 : decode cX8_doOrder 187 = .ok (.iaload, 1) := by decide +kernel
theorem dX8_doOrder_188 : decode cX8_doOrder 188 = .ok (.aload_n 0, 1) := by decide +kernel
theorem dX8_doOrder_189 : decode cX8_doOrder 189 = .ok (.getfield 22, 3) := by decide +kernel
theorem dX8_doOrder_192 : decode cX8_doOrder 192 = .ok (.iconst 2, 1) := by decide +kernel
theorem dX8_doOrder_193 : decode cX8_doOrder 193 = .ok (.iaload, 1) := by decide +kernel
theorem dX8_doOrder_194 : decode cX8_doOrder 194 = .ok (.invokevirtual 152, 3) := by decide +kernel
theorem dX8_doOrder_197 : decode cX8_doOrder 197 = .ok (.ireturn, 1) := by decide +kernel
theorem dX8_doOrder_198 : decode cX8_doOrder 198 = .ok (.aload_n 0, 1) := by decide +kernel
theorem dX8_doOrder_199 : decode cX8_doOrder 199 = .ok (.aload_n 0, 1) := by decide +kernel
theorem dX8_doOrder_200 : decode cX8_doOrder 200 = .ok (.getfield 22, 3) := by decide +kernel
theorem dX8_doOrder_203 : decode cX8_doOrder 203 = .ok (.iconst 1, 1) := by decide +kernel
theorem dX8_doOrder_204 : decode cX8_doOrder 204 = .ok (.iaload, 1) := by decide +kernel
theorem dX8_doOrder_205 : decode cX8_doOrder 205 = .ok (.aload_n 0, 1) := by decide +kernel
theorem dX8_doOrder_206 : decode cX8_doOrder 206 = .ok (.getfield 22, 3) := by decide +kernel
theorem dX8_doOrder_209 : decode cX8_doOrder 209 = .ok (.iconst 3, 1) := by decide +kernel
theorem dX8_doOrder_210 : decode cX8_doOrder 210 = .ok (.iaload, 1) := by decide +kernel
theorem dX8_doOrder_211 : decode cX8_doOrder 211 = .ok (.invokevirtual 167, 3) := by decide +kernel
theorem dX8_doOrder_214 : decode cX8_doOrder 214 = .ok (.ireturn, 1) := by decide +kernel
theorem dX8_doOrder_215 : decode cX8_doOrder 215 = .ok (.aload_n 0, 1) := by decide +kernel
theorem dX8_doOrder_216 : decode cX8_doOrder 216 = .ok (.aload_n 0, 1) := by decide +kernel
theorem dX8_doOrder_217 : decode cX8_doOrder 217 = .ok (.getfield 22, 3) := by decide +kernel
theorem dX8_doOrder_220 : decode cX8_doOrder 220 = .ok (.iconst 1, 1) := by decide +kernel
theorem dX8_doOrder_221 : decode cX8_doOrder 221 = .ok (.iaload, 1) := by decide +kernel
theorem dX8_doOrder_222 : decode cX8_doOrder 222 = .ok (.aload_n 0, 1) := by decide +kernel
theorem dX8_doOrder_223 : decode cX8_doOrder 223 = .ok (.getfield 22, 3) := by decide +kernel
theorem dX8_doOrder_226 : decode cX8_doOrder 226 = .ok (.iconst 3, 1) := by decide +kernel
theorem dX8_doOrder_227 : decode cX8_doOrder 227 = .ok (.iaload, 1) := by decide +kernel
theorem dX8_doOrder_228 : decode cX8_doOrder 228 = .ok (.aload_n 0, 1) := by decide +kernel
theorem dX8_doOrder_229 : decode cX8_doOrder 229 = .ok (.getfield 22, 3) := by decide +kernel
theorem dX8_doOrder_232 : decode cX8_doOrder 232 = .ok (.iconst 4, 1) := by decide +kernel
theorem dX8_doOrder_233 : decode cX8_doOrder 233 = .ok (.iaload, 1) := by decide +kernel
theorem dX8_doOrder_234 : decode cX8_doOrder 234 = .ok (.invokevirtual 173, 3) := by decide +kernel
theorem dX8_doOrder_237 : decode cX8_doOrder 237 = .ok (.ireturn, 1) := by decide +kernel
theorem dX8_doOrder_238 : decode cX8_doOrder 238 = .ok (.aload_n 0, 1) := by decide +kernel
theorem dX8_doOrder_239 : decode cX8_doOrder 239 = .ok (.aload_n 0, 1) := by decide +kernel
theorem dX8_doOrder_240 : decode cX8_doOrder 240 = .ok (.getfield 22, 3) := by decide +kernel
theorem dX8_doOrder_243 : decode cX8_doOrder 243 = .ok (.iconst 3, 1) := by decide +kernel
theorem dX8_doOrder_244 : decode cX8_doOrder 244 = .ok (.iaload, 1) := by decide +kernel
theorem dX8_doOrder_245 : decode cX8_doOrder 245 = .ok (.aload_n 0, 1) := by decide +kernel
theorem dX8_doOrder_246 : decode cX8_doOrder 246 = .ok (.getfield 22, 3) := by decide +kernel
theorem dX8_doOrder_249 : decode cX8_doOrder 249 = .ok (.iconst 4, 1) := by decide +kernel
theorem dX8_doOrder_250 : decode cX8_doOrder 250 = .ok (.iaload, 1) := by decide +kernel
theorem dX8_doOrder_251 : decode cX8_doOrder 251 = .ok (.invokevirtual 131, 3) := by decide +kernel
theorem dX8_doOrder_254 : decode cX8_doOrder 254 = .ok (.ireturn, 1) := by decide +kernel
theorem dX8_doOrder_255 : decode cX8_doOrder 255 = .ok (.aload_n 0, 1) := by decide +kernel
theorem dX8_doOrder_256 : decode cX8_doOrder 256 = .ok (.invokevirtual 119, 3) := by decide +kernel
theorem dX8_doOrder_259 : decode cX8_doOrder 259 = .ok (.ireturn, 1) := by decide +kernel
theorem dX8_obey_0 : decode cX8_obey 0 = .ok (.aload_n 0, 1) := by decide +kernel
theorem dX8_obey_1 : decode cX8_obey 1 = .ok (.invokevirtual 197, 3) := by decide +kernel
theorem dX8_obey_4 : decode cX8_obey 4 = .ok (.pop, 1) := by decide +kernel
theorem dX8_obey_5 : decode cX8_obey 5 = .ok (.aload_n 0, 1) := by decide +kernel
theorem dX8_obey_6 : decode cX8_obey 6 = .ok (.aload_n 0, 1) := by decide +kernel
theorem dX8_obey_7 : decode cX8_obey 7 = .ok (.getfield 191, 3) := by decide +kernel
theorem dX8_obey_10 : decode cX8_obey 10 = .ok (.ifCond .eq 7, 3) := by decide +kernel
theorem dX8_obey_13 : decode cX8_obey 13 = .ok (.iconst 0, 1) := by decide +kernel
theorem dX8_obey_14 : decode cX8_obey 14 = .ok (.goto 4, 3) := by decide +kernel
theorem dX8_obey_17 : decode cX8_obey 17 = .ok (.iconst 1, 1) := by decide +kernel
theorem dX8_obey_18 : decode cX8_obey 18 = .ok (.putfield 33, 3) := by decide +kernel
theorem dX8_obey_21 : decode cX8_obey 21 = .ok (.aload_n 0, 1) := by decide +kernel
theorem dX8_obey_22 : decode cX8_obey 22 = .ok (.getfield 33, 3) := by decide +kernel
theorem dX8_obey_25 : decode cX8_obey 25 = .ok (.ifCond .le 5, 3) := by decide +kernel
theorem dX8_obey_28 : decode cX8_obey 28 = .ok (.iconst 0, 1) := by decide +kernel
theorem dX8_obey_29 : decode cX8_obey 29 = .ok (.ireturn, 1) := by decide +kernel
theorem dX8_obey_30 : decode cX8_obey 30 = .ok (.aload_n 0, 1) := by decide +kernel
theorem dX8_obey_31 : decode cX8_obey 31 = .ok (.invokevirtual 79, 3) := by decide +kernel
theorem dX8_obey_34 : decode cX8_obey 34 = .ok (.iconst 0, 1) := by decide +kernel
theorem dX8_obey_35 : decode cX8_obey 35 = .ok (.istore_n 1, 1) := by decide +kernel
theorem dX8_obey_36 : decode cX8_obey 36 = .ok (.iconst 1, 1) := by decide +kernel
theorem dX8_obey_37 : decode cX8_obey 37 = .ok (.istore_n 2, 1) := by decide +kernel
theorem dX8_obey_38 : decode cX8_obey 38 = .ok (.iconst 0, 1) := by decide +kernel
theorem dX8_obey_39 : decode cX8_obey 39 = .ok (.istore_n 3, 1) := by decide +kernel
theorem dX8_obey_40 : decode cX8_obey 40 = .ok (.iload_n 2, 1) := by decide +kernel
theorem dX8_obey_41 : decode cX8_obey 41 = .ok (.ifCond .eq 39, 3) := by decide +kernel
theorem dX8_obey_44 : decode cX8_obey 44 = .ok (.iload_n 3, 1) := by decide +kernel
theorem dX8_obey_45 : decode cX8_obey 45 = .ok (.aload_n 0, 1) := by decide +kernel
theorem dX8_obey_46 : decode cX8_obey 46 = .ok (.getfield 179, 3) := by decide +kernel
theorem dX8_obey_49 : decode cX8_obey 49 = .ok (.if_icmp .ge 31, 3) := by decide +kernel
theorem dX8_obey_52 : decode cX8_obey 52 = .ok (.aload_n 0, 1) := by decide +kernel
theorem dX8_obey_53 : decode cX8_obey 53 = .ok (.iload_n 3, 1) := by decide +kernel
theorem dX8_obey_54 : decode cX8_obey 54 = .ok (.invokevirtual 194, 3) := by decide +kernel
theorem dX8_obey_57 : decode cX8_obey 57 = .ok (.iconst 1, 1) := by decide +kernel
theorem dX8_obey_58 : decode cX8_obey 58 = .ok (.iadd, 1) := by decide +kernel
theorem dX8_obey_59 : decode cX8_obey 59 = .ok (.istore_n 3, 1) := by decide +kernel
theorem dX8_obey_60 : decode cX8_obey 60 = .ok (.aload_n 0, 1) := by decide +kernel
theorem dX8_obey_61 : decode cX8_obey 61 = .ok (.invokevirtual 200, 3) := by decide +kernel
theorem dX8_obey_64 : decode cX8_obey 64 = .ok (.istore_n 2, 1) := by decide +kernel
theorem dX8_obey_65 : decode cX8_obey 65 = .ok (.iload_n 2, 1) := by decide +kernel
theorem dX8_obey_66 : decode cX8_obey 66 = .ok (.ifCond .eq (-26), 3) := by decide +kernel
theorem dX8_obey_69 : decode cX8_obey 69 = .ok (.aload_n 0, 1) := by decide +kernel
theorem dX8_obey_70 : decode cX8_obey 70 = .ok (.invokevirtual 204, 3) := by decide +kernel
theorem dX8_obey_73 : decode cX8_obey 73 = .ok (.pop, 1) := by decide +kernel
theorem dX8_obey_74 : decode cX8_obey 74 = .ok (.iinc 1 1, 3) := by decide +kernel
theorem dX8_obey_77 : decode cX8_obey 77 = .ok (.goto (-37), 3) := by decide +kernel
theorem dX8_obey_80 : decode cX8_obey 80 = .ok (.aload_n 0, 1) := by decide +kernel
theorem dX8_obey_81 : decode cX8_obey 81 = .ok (.iconst 0, 1) := by decide +kernel
theorem dX8_obey_82 : decode cX8_obey 82 = .ok (.putfield 179, 3) := by decide +kernel
theorem dX8_obey_85 : decode cX8_obey 85 = .ok (.iload_n 1, 1) := by decide +kernel
theorem dX8_obey_86 : decode cX8_obey 86 = .ok (.ireturn, 1) := by decide +kernel
theorem dX8_branch_0 : decode cX8_branch 0 = .ok (.aload_n 0, 1) := by decide +kernel
theorem dX8_branch_1 : decode cX8_branch 1 = .ok (.iload_n 1, 1) := by decide +kernel
theorem dX8_branch_2 : decode cX8_branch 2 = .ok (.invokestatic 122, 3) := by decide +kernel
theorem dX8_branch_5 : decode cX8_branch 5 = .ok (.ifCond .eq 7, 3) := by decide +kernel
theorem dX8_branch_8 : decode cX8_branch 8 = .ok (.iconst 0, 1) := by decide +kernel
theorem dX8_branch_9 : decode cX8_branch 9 = .ok (.goto 4, 3) := by decide +kernel
theorem dX8_branch_12 : decode cX8_branch 12 = .ok (.iconst 1, 1) := by decide +kernel
theorem dX8_branch_13 : decode cX8_branch 13 = .ok (.putfield 33, 3) := by decide +kernel
theorem dX8_branch_16 : decode cX8_branch 16 = .ok (.aload_n 0, 1) := by decide +kernel
theorem dX8_branch_17 : decode cX8_branch 17 = .ok (.getfield 33, 3) := by decide +kernel
theorem dX8_branch_20 : decode cX8_branch 20 = .ok (.ifCond .le 7, 3) := by decide +kernel
theorem dX8_branch_23 : decode cX8_branch 23 = .ok (.iconst 0, 1) := by decide +kernel
theorem dX8_branch_24 : decode cX8_branch 24 = .ok (.goto 12, 3) := by decide +kernel
theorem dX8_branch_27 : decode cX8_branch 27 = .ok (.aload_n 0, 1) := by decide +kernel
theorem dX8_branch_28 : decode cX8_branch 28 = .ok (.getfield 7, 3) := by decide +kernel
theorem dX8_branch_31 : decode cX8_branch 31 = .ok (.bipush 10, 2) := by decide +kernel
theorem dX8_branch_33 : decode cX8_branch 33 = .ok (.iload_n 1, 1) := by decide +kernel
theorem dX8_branch_34 : decode cX8_branch 34 = .ok (.iadd, 1) := by decide +kernel
theorem dX8_branch_35 : decode cX8_branch 35 = .ok (.iaload, 1) := by decide +kernel
theorem dX8_branch_36 : decode cX8_branch 36 = .ok (.ireturn, 1) := by decide +kernel
theorem dX8_leafNow_0 : decode cX8_leafNow 0 = .ok (.iload_n 2, 1) := by decide +kernel
theorem dX8_leafNow_1 : decode cX8_leafNow 1 = .ok (.tableswitch 106 0 6 #[43, 50, 57, 64, 71, 92, 99], 43) := by decide +kernel
theorem dX8_leafNow_44 : decode cX8_leafNow 44 = .ok (.aload_n 0, 1) := by decide +kernel
theorem dX8_leafNow_45 : decode cX8_leafNow 45 = .ok (.iload_n 1, 1) := by decide +kernel
theorem dX8_leafNow_46 : decode cX8_leafNow 46 = .ok (.iconst 0, 1) := by decide +kernel
theorem dX8_leafNow_47 : decode cX8_leafNow 47 = .ok (.invokevirtual 56, 3) := by decide +kernel
theorem dX8_leafNow_50 : decode cX8_leafNow 50 = .ok (.ireturn, 1) := by decide +kernel
theorem dX8_leafNow_51 : decode cX8_leafNow 51 = .ok (.aload_n 0, 1) := by decide +kernel
theorem dX8_leafNow_52 : decode cX8_leafNow 52 = .ok (.iload_n 1, 1) := by decide +kernel
theorem dX8_leafNow_53 : decode cX8_leafNow 53 = .ok (.iconst 1, 1) := by decide +kernel
theorem dX8_leafNow_54 : decode cX8_leafNow 54 = .ok (.invokevirtual 56, 3) := by decide +kernel
theorem dX8_leafNow_57 : decode cX8_leafNow 57 = .ok (.ireturn, 1) := by decide +kernel
theorem dX8_leafNow_58 : decode cX8_leafNow 58 = .ok (.aload_n 0, 1) := by decide +kernel
theorem dX8_leafNow_59 : decode cX8_leafNow 59 = .ok (.iload_n 1, 1) := by decide +kernel
theorem dX8_leafNow_60 : decode cX8_leafNow 60 = .ok (.iconst 2, 1) := by decide +kernel
theorem dX8_leafNow_61 : decode cX8_leafNow 61 = .ok (.invokevirtual 56, 3) := by decide +kernel
theorem dX8_leafNow_64 : decode cX8_leafNow 64 = .ok (.ireturn, 1) := by decide +kernel
theorem dX8_leafNow_65 : decode cX8_leafNow 65 = .ok (.aload_n 0, 1) := by decide +kernel
theorem dX8_leafNow_66 : decode cX8_leafNow 66 = .ok (.iload_n 1, 1) := by decide +kernel
theorem dX8_leafNow_67 : decode cX8_leafNow 67 = .ok (.iconst 3, 1) := by decide +kernel
theorem dX8_leafNow_68 : decode cX8_leafNow 68 = .ok (.invokevirtual 56, 3) := by decide +kernel
theorem dX8_leafNow_71 : decode cX8_leafNow 71 = .ok (.ireturn, 1) := by decide +kernel
theorem dX8_leafNow_72 : decode cX8_leafNow 72 = .ok (.aload_n 0, 1) := by decide +kernel
theorem dX8_leafNow_73 : decode cX8_leafNow 73 = .ok (.iload_n 1, 1) := by decide +kernel
theorem dX8_leafNow_74 : decode cX8_leafNow 74 = .ok (.iconst 1, 1) := by decide +kernel
theorem dX8_leafNow_75 : decode cX8_leafNow 75 = .ok (.invokevirtual 56, 3) := by decide +kernel
theorem dX8_leafNow_78 : decode cX8_leafNow 78 = .ok (.iconst 1, 1) := by decide +kernel
theorem dX8_leafNow_79 : decode cX8_leafNow 79 = .ok (.if_icmp .ne 12, 3) := by decide +kernel
theorem dX8_leafNow_82 : decode cX8_leafNow 82 = .ok (.aload_n 0, 1) := by decide +kernel
theorem dX8_leafNow_83 : decode cX8_leafNow 83 = .ok (.iload_n 1, 1) := by decide +kernel
theorem dX8_leafNow_84 : decode cX8_leafNow 84 = .ok (.iconst 4, 1) := by decide +kernel
theorem dX8_leafNow_85 : decode cX8_leafNow 85 = .ok (.invokevirtual 56, 3) := by decide +kernel
theorem dX8_leafNow_88 : decode cX8_leafNow 88 = .ok (.goto 4, 3) := by decide +kernel
theorem dX8_leafNow_91 : decode cX8_leafNow 91 = .ok (.iconst (-1), 1) := by decide +kernel
theorem dX8_leafNow_92 : decode cX8_leafNow 92 = .ok (.ireturn, 1) := by decide +kernel
theorem dX8_leafNow_93 : decode cX8_leafNow 93 = .ok (.aload_n 0, 1) := by decide +kernel
theorem dX8_leafNow_94 : decode cX8_leafNow 94 = .ok (.iload_n 1, 1) := by decide +kernel
theorem dX8_leafNow_95 : decode cX8_leafNow 95 = .ok (.iconst (-1), 1) := by decide +kernel
theorem dX8_leafNow_96 : decode cX8_leafNow 96 = .ok (.invokevirtual 66, 3) := by decide +kernel
theorem dX8_leafNow_99 : decode cX8_leafNow 99 = .ok (.ireturn, 1) := by decide +kernel
theorem dX8_leafNow_100 : decode cX8_leafNow 100 = .ok (.aload_n 0, 1) := by decide +kernel
theorem dX8_leafNow_101 : decode cX8_leafNow 101 = .ok (.iload_n 1, 1) := by decide +kernel
theorem dX8_leafNow_102 : decode cX8_leafNow 102 = .ok (.iconst 2, 1) := by decide +kernel
theorem dX8_leafNow_103 : decode cX8_leafNow 103 = .ok (.invokevirtual 207, 3) := by decide +kernel
theorem dX8_leafNow_106 : decode cX8_leafNow 106 = .ok (.ireturn, 1) := by decide +kernel
theorem dX8_leafNow_107 : decode cX8_leafNow 107 = .ok (.aload_n 0, 1) := by decide +kernel
theorem dX8_leafNow_108 : decode cX8_leafNow 108 = .ok (.iload_n 1, 1) := by decide +kernel
theorem dX8_leafNow_109 : decode cX8_leafNow 109 = .ok (.iconst 1, 1) := by decide +kernel
theorem dX8_leafNow_110 : decode cX8_leafNow 110 = .ok (.invokevirtual 207, 3) := by decide +kernel
theorem dX8_leafNow_113 : decode cX8_leafNow 113 = .ok (.ireturn, 1) := by decide +kernel
theorem dX8_leaf_0 : decode cX8_leaf 0 = .ok (.aload_n 0, 1) := by decide +kernel
theorem dX8_leaf_1 : decode cX8_leaf 1 = .ok (.aload_n 0, 1) := by decide +kernel
theorem dX8_leaf_2 : decode cX8_leaf 2 = .ok (.iload_n 1, 1) := by decide +kernel
theorem dX8_leaf_3 : decode cX8_leaf 3 = .ok (.invokevirtual 210, 3) := by decide +kernel
theorem dX8_leaf_6 : decode cX8_leaf 6 = .ok (.ifCond .ne 7, 3) := by decide +kernel
theorem dX8_leaf_9 : decode cX8_leaf 9 = .ok (.iconst 1, 1) := by decide +kernel
theorem dX8_leaf_10 : decode cX8_leaf 10 = .ok (.goto 18, 3) := by decide +kernel
theorem dX8_leaf_13 : decode cX8_leaf 13 = .ok (.iload_n 2, 1) := by decide +kernel
theorem dX8_leaf_14 : decode cX8_leaf 14 = .ok (.iconst 0, 1) := by decide +kernel
theorem dX8_leaf_15 : decode cX8_leaf 15 = .ok (.bipush 7, 2) := by decide +kernel
theorem dX8_leaf_17 : decode cX8_leaf 17 = .ok (.invokestatic 48, 3) := by decide +kernel
theorem dX8_leaf_20 : decode cX8_leaf 20 = .ok (.ifCond .eq 7, 3) := by decide +kernel
theorem dX8_leaf_23 : decode cX8_leaf 23 = .ok (.iconst 0, 1) := by decide +kernel
theorem dX8_leaf_24 : decode cX8_leaf 24 = .ok (.goto 4, 3) := by decide +kernel
theorem dX8_leaf_27 : decode cX8_leaf 27 = .ok (.iconst 2, 1) := by decide +kernel
theorem dX8_leaf_28 : decode cX8_leaf 28 = .ok (.putfield 33, 3) := by decide +kernel
theorem dX8_leaf_31 : decode cX8_leaf 31 = .ok (.aload_n 0, 1) := by decide +kernel
theorem dX8_leaf_32 : decode cX8_leaf 32 = .ok (.getfield 33, 3) := by decide +kernel
theorem dX8_leaf_35 : decode cX8_leaf 35 = .ok (.ifCond .le 7, 3) := by decide +kernel
theorem dX8_leaf_38 : decode cX8_leaf 38 = .ok (.iconst 0, 1) := by decide +kernel
theorem dX8_leaf_39 : decode cX8_leaf 39 = .ok (.goto 9, 3) := by decide +kernel
theorem dX8_leaf_42 : decode cX8_leaf 42 = .ok (.aload_n 0, 1) := by decide +kernel
theorem dX8_leaf_43 : decode cX8_leaf 43 = .ok (.iload_n 1, 1) := by decide +kernel
theorem dX8_leaf_44 : decode cX8_leaf 44 = .ok (.iload_n 2, 1) := by decide +kernel
theorem dX8_leaf_45 : decode cX8_leaf 45 = .ok (.invokevirtual 213, 3) := by decide +kernel
theorem dX8_leaf_48 : decode cX8_leaf 48 = .ok (.ireturn, 1) := by decide +kernel
theorem dX8_childNow_0 : decode cX8_childNow 0 = .ok (.iload_n 2, 1) := by decide +kernel
theorem dX8_childNow_1 : decode cX8_childNow 1 = .ok (.tableswitch 91 0 6 #[43, 50, 57, 64, 71, 77, 84], 43) := by decide +kernel
theorem dX8_childNow_44 : decode cX8_childNow 44 = .ok (.aload_n 0, 1) := by decide +kernel
theorem dX8_childNow_45 : decode cX8_childNow 45 = .ok (.iload_n 1, 1) := by decide +kernel
theorem dX8_childNow_46 : decode cX8_childNow 46 = .ok (.iconst 1, 1) := by decide +kernel
theorem dX8_childNow_47 : decode cX8_childNow 47 = .ok (.invokevirtual 37, 3) := by decide +kernel
theorem dX8_childNow_50 : decode cX8_childNow 50 = .ok (.ireturn, 1) := by decide +kernel
theorem dX8_childNow_51 : decode cX8_childNow 51 = .ok (.aload_n 0, 1) := by decide +kernel
theorem dX8_childNow_52 : decode cX8_childNow 52 = .ok (.iload_n 1, 1) := by decide +kernel
theorem dX8_childNow_53 : decode cX8_childNow 53 = .ok (.iconst 2, 1) := by decide +kernel
theorem dX8_childNow_54 : decode cX8_childNow 54 = .ok (.invokevirtual 37, 3) := by decide +kernel
theorem dX8_childNow_57 : decode cX8_childNow 57 = .ok (.ireturn, 1) := by decide +kernel
theorem dX8_childNow_58 : decode cX8_childNow 58 = .ok (.aload_n 0, 1) := by decide +kernel
theorem dX8_childNow_59 : decode cX8_childNow 59 = .ok (.iload_n 1, 1) := by decide +kernel
theorem dX8_childNow_60 : decode cX8_childNow 60 = .ok (.iconst 2, 1) := by decide +kernel
theorem dX8_childNow_61 : decode cX8_childNow 61 = .ok (.invokevirtual 107, 3) := by decide +kernel
theorem dX8_childNow_64 : decode cX8_childNow 64 = .ok (.ireturn, 1) := by decide +kernel
theorem dX8_childNow_65 : decode cX8_childNow 65 = .ok (.aload_n 0, 1) := by decide +kernel
theorem dX8_childNow_66 : decode cX8_childNow 66 = .ok (.iload_n 1, 1) := by decide +kernel
theorem dX8_childNow_67 : decode cX8_childNow 67 = .ok (.iconst 1, 1) := by decide +kernel
theorem dX8_childNow_68 : decode cX8_childNow 68 = .ok (.invokevirtual 107, 3) := by decide +kernel
theorem dX8_childNow_71 : decode cX8_childNow 71 = .ok (.ireturn, 1) := by decide +kernel
theorem dX8_childNow_72 : decode cX8_childNow 72 = .ok (.aload_n 0, 1) := by decide +kernel
theorem dX8_childNow_73 : decode cX8_childNow 73 = .ok (.iload_n 1, 1) := by decide +kernel
theorem dX8_childNow_74 : decode cX8_childNow 74 = .ok (.invokevirtual 155, 3) := by decide +kernel
theorem dX8_childNow_77 : decode cX8_childNow 77 = .ok (.ireturn, 1) := by decide +kernel
theorem dX8_childNow_78 : decode cX8_childNow 78 = .ok (.aload_n 0, 1) := by decide +kernel
theorem dX8_childNow_79 : decode cX8_childNow 79 = .ok (.iload_n 1, 1) := by decide +kernel
theorem dX8_childNow_80 : decode cX8_childNow 80 = .ok (.iconst 3, 1) := by decide +kernel
theorem dX8_childNow_81 : decode cX8_childNow 81 = .ok (.invokevirtual 37, 3) := by decide +kernel
theorem dX8_childNow_84 : decode cX8_childNow 84 = .ok (.ireturn, 1) := by decide +kernel
theorem dX8_childNow_85 : decode cX8_childNow 85 = .ok (.aload_n 0, 1) := by decide +kernel
theorem dX8_childNow_86 : decode cX8_childNow 86 = .ok (.iload_n 1, 1) := by decide +kernel
theorem dX8_childNow_87 : decode cX8_childNow 87 = .ok (.iconst 4, 1) := by decide +kernel
theorem dX8_childNow_88 : decode cX8_childNow 88 = .ok (.invokevirtual 37, 3) := by decide +kernel
theorem dX8_childNow_91 : decode cX8_childNow 91 = .ok (.ireturn, 1) := by decide +kernel
theorem dX8_childNow_92 : decode cX8_childNow 92 = .ok (.aload_n 0, 1) := by decide +kernel
theorem dX8_childNow_93 : decode cX8_childNow 93 = .ok (.iload_n 1, 1) := by decide +kernel
theorem dX8_childNow_94 : decode cX8_childNow 94 = .ok (.iconst 5, 1) := by decide +kernel
theorem dX8_childNow_95 : decode cX8_childNow 95 = .ok (.invokevirtual 37, 3) := by decide +kernel
theorem dX8_childNow_98 : decode cX8_childNow 98 = .ok (.ireturn, 1) := by decide +kernel
theorem dX8_child_0 : decode cX8_child 0 = .ok (.aload_n 0, 1) := by decide +kernel
theorem dX8_child_1 : decode cX8_child 1 = .ok (.aload_n 0, 1) := by decide +kernel
theorem dX8_child_2 : decode cX8_child 2 = .ok (.iload_n 1, 1) := by decide +kernel
theorem dX8_child_3 : decode cX8_child 3 = .ok (.invokevirtual 86, 3) := by decide +kernel
theorem dX8_child_6 : decode cX8_child 6 = .ok (.ifCond .ne 7, 3) := by decide +kernel
theorem dX8_child_9 : decode cX8_child 9 = .ok (.iconst 1, 1) := by decide +kernel
theorem dX8_child_10 : decode cX8_child 10 = .ok (.goto 18, 3) := by decide +kernel
theorem dX8_child_13 : decode cX8_child 13 = .ok (.iload_n 2, 1) := by decide +kernel
theorem dX8_child_14 : decode cX8_child 14 = .ok (.iconst 0, 1) := by decide +kernel
theorem dX8_child_15 : decode cX8_child 15 = .ok (.bipush 7, 2) := by decide +kernel
theorem dX8_child_17 : decode cX8_child 17 = .ok (.invokestatic 48, 3) := by decide +kernel
theorem dX8_child_20 : decode cX8_child 20 = .ok (.ifCond .eq 7, 3) := by decide +kernel
theorem dX8_child_23 : decode cX8_child 23 = .ok (.iconst 0, 1) := by decide +kernel
theorem dX8_child_24 : decode cX8_child 24 = .ok (.goto 4, 3) := by decide +kernel
theorem dX8_child_27 : decode cX8_child 27 = .ok (.iconst 2, 1) := by decide +kernel
theorem dX8_child_28 : decode cX8_child 28 = .ok (.putfield 33, 3) := by decide +kernel
theorem dX8_child_31 : decode cX8_child 31 = .ok (.aload_n 0, 1) := by decide +kernel
theorem dX8_child_32 : decode cX8_child 32 = .ok (.getfield 33, 3) := by decide +kernel
theorem dX8_child_35 : decode cX8_child 35 = .ok (.ifCond .le 7, 3) := by decide +kernel
theorem dX8_child_38 : decode cX8_child 38 = .ok (.iconst 0, 1) := by decide +kernel
theorem dX8_child_39 : decode cX8_child 39 = .ok (.goto 9, 3) := by decide +kernel
theorem dX8_child_42 : decode cX8_child 42 = .ok (.aload_n 0, 1) := by decide +kernel
theorem dX8_child_43 : decode cX8_child 43 = .ok (.iload_n 1, 1) := by decide +kernel
theorem dX8_child_44 : decode cX8_child 44 = .ok (.iload_n 2, 1) := by decide +kernel
theorem dX8_child_45 : decode cX8_child 45 = .ok (.invokevirtual 216, 3) := by decide +kernel
theorem dX8_child_48 : decode cX8_child 48 = .ok (.ireturn, 1) := by decide +kernel
theorem dX8_hook_0 : decode cX8_hook 0 = .ok (.aload_n 0, 1) := by decide +kernel
theorem dX8_hook_1 : decode cX8_hook 1 = .ok (.aload_n 0, 1) := by decide +kernel
theorem dX8_hook_2 : decode cX8_hook 2 = .ok (.iload_n 1, 1) := by decide +kernel
theorem dX8_hook_3 : decode cX8_hook 3 = .ok (.invokevirtual 86, 3) := by decide +kernel
theorem dX8_hook_6 : decode cX8_hook 6 = .ok (.ifCond .eq 10, 3) := by decide +kernel
theorem dX8_hook_9 : decode cX8_hook 9 = .ok (.iload_n 2, 1) := by decide +kernel
theorem dX8_hook_10 : decode cX8_hook 10 = .ok (.invokestatic 134, 3) := by decide +kernel
theorem dX8_hook_13 : decode cX8_hook 13 = .ok (.ifCond .ne 7, 3) := by decide +kernel
theorem dX8_hook_16 : decode cX8_hook 16 = .ok (.iconst 1, 1) := by decide +kernel
theorem dX8_hook_17 : decode cX8_hook 17 = .ok (.goto 17, 3) := by decide +kernel
theorem dX8_hook_20 : decode cX8_hook 20 = .ok (.iload_n 3, 1) := by decide +kernel
theorem dX8_hook_21 : decode cX8_hook 21 = .ok (.iconst 0, 1) := by decide +kernel
theorem dX8_hook_22 : decode cX8_hook 22 = .ok (.iconst 2, 1) := by decide +kernel
theorem dX8_hook_23 : decode cX8_hook 23 = .ok (.invokestatic 48, 3) := by decide +kernel
theorem dX8_hook_26 : decode cX8_hook 26 = .ok (.ifCond .eq 7, 3) := by decide +kernel
theorem dX8_hook_29 : decode cX8_hook 29 = .ok (.iconst 0, 1) := by decide +kernel
theorem dX8_hook_30 : decode cX8_hook 30 = .ok (.goto 4, 3) := by decide +kernel
theorem dX8_hook_33 : decode cX8_hook 33 = .ok (.iconst 2, 1) := by decide +kernel
theorem dX8_hook_34 : decode cX8_hook 34 = .ok (.putfield 33, 3) := by decide +kernel
theorem dX8_hook_37 : decode cX8_hook 37 = .ok (.aload_n 0, 1) := by decide +kernel
theorem dX8_hook_38 : decode cX8_hook 38 = .ok (.getfield 33, 3) := by decide +kernel
theorem dX8_hook_41 : decode cX8_hook 41 = .ok (.ifCond .le 7, 3) := by decide +kernel
theorem dX8_hook_44 : decode cX8_hook 44 = .ok (.iconst 0, 1) := by decide +kernel
theorem dX8_hook_45 : decode cX8_hook 45 = .ok (.goto 10, 3) := by decide +kernel
theorem dX8_hook_48 : decode cX8_hook 48 = .ok (.aload_n 0, 1) := by decide +kernel
theorem dX8_hook_49 : decode cX8_hook 49 = .ok (.iload_n 1, 1) := by decide +kernel
theorem dX8_hook_50 : decode cX8_hook 50 = .ok (.iload_n 2, 1) := by decide +kernel
theorem dX8_hook_51 : decode cX8_hook 51 = .ok (.iload_n 3, 1) := by decide +kernel
theorem dX8_hook_52 : decode cX8_hook 52 = .ok (.invokevirtual 52, 3) := by decide +kernel
theorem dX8_hook_55 : decode cX8_hook 55 = .ok (.ireturn, 1) := by decide +kernel
theorem dX8_heap_0 : decode cX8_heap 0 = .ok (.aload_n 0, 1) := by decide +kernel
theorem dX8_heap_1 : decode cX8_heap 1 = .ok (.aload_n 0, 1) := by decide +kernel
theorem dX8_heap_2 : decode cX8_heap 2 = .ok (.iload_n 1, 1) := by decide +kernel
theorem dX8_heap_3 : decode cX8_heap 3 = .ok (.invokevirtual 86, 3) := by decide +kernel
theorem dX8_heap_6 : decode cX8_heap 6 = .ok (.ifCond .ne 7, 3) := by decide +kernel
theorem dX8_heap_9 : decode cX8_heap 9 = .ok (.iconst 1, 1) := by decide +kernel
theorem dX8_heap_10 : decode cX8_heap 10 = .ok (.goto 12, 3) := by decide +kernel
theorem dX8_heap_13 : decode cX8_heap 13 = .ok (.iload_n 2, 1) := by decide +kernel
theorem dX8_heap_14 : decode cX8_heap 14 = .ok (.ifCond .ge 7, 3) := by decide +kernel
theorem dX8_heap_17 : decode cX8_heap 17 = .ok (.iconst 2, 1) := by decide +kernel
theorem dX8_heap_18 : decode cX8_heap 18 = .ok (.goto 4, 3) := by decide +kernel
theorem dX8_heap_21 : decode cX8_heap 21 = .ok (.iconst 0, 1) := by decide +kernel
theorem dX8_heap_22 : decode cX8_heap 22 = .ok (.putfield 33, 3) := by decide +kernel
theorem dX8_heap_25 : decode cX8_heap 25 = .ok (.aload_n 0, 1) := by decide +kernel
theorem dX8_heap_26 : decode cX8_heap 26 = .ok (.getfield 33, 3) := by decide +kernel
theorem dX8_heap_29 : decode cX8_heap 29 = .ok (.ifCond .le 7, 3) := by decide +kernel
theorem dX8_heap_32 : decode cX8_heap 32 = .ok (.iconst 0, 1) := by decide +kernel
theorem dX8_heap_33 : decode cX8_heap 33 = .ok (.goto 9, 3) := by decide +kernel
theorem dX8_heap_36 : decode cX8_heap 36 = .ok (.aload_n 0, 1) := by decide +kernel
theorem dX8_heap_37 : decode cX8_heap 37 = .ok (.iload_n 1, 1) := by decide +kernel
theorem dX8_heap_38 : decode cX8_heap 38 = .ok (.iload_n 2, 1) := by decide +kernel
theorem dX8_heap_39 : decode cX8_heap 39 = .ok (.invokevirtual 90, 3) := by decide +kernel
theorem dX8_heap_42 : decode cX8_heap 42 = .ok (.ireturn, 1) := by decide +kernel
theorem dX8_countNow_0 : decode cX8_countNow 0 = .ok (.iconst 0, 1) := by decide +kernel
theorem dX8_countNow_1 : decode cX8_countNow 1 = .ok (.istore_n 2, 1) := by decide +kernel
theorem dX8_countNow_2 : decode cX8_countNow 2 = .ok (.iconst 0, 1) := by decide +kernel
theorem dX8_countNow_3 : decode cX8_countNow 3 = .ok (.istore_n 3, 1) := by decide +kernel
theorem dX8_countNow_4 : decode cX8_countNow 4 = .ok (.iconst 0, 1) := by decide +kernel
theorem dX8_countNow_5 : decode cX8_countNow 5 = .ok (.istore 4, 2) := by decide +kernel
theorem dX8_countNow_7 : decode cX8_countNow 7 = .ok (.iconst 0, 1) := by decide +kernel
theorem dX8_countNow_8 : decode cX8_countNow 8 = .ok (.istore 5, 2) := by decide +kernel
theorem dX8_countNow_10 : decode cX8_countNow 10 = .ok (.iconst 0, 1) := by decide +kernel
theorem dX8_countNow_11 : decode cX8_countNow 11 = .ok (.istore 6, 2) := by decide +kernel
theorem dX8_countNow_13 : decode cX8_countNow 13 = .ok (.iload 6, 2) := by decide +kernel
theorem dX8_countNow_15 : decode cX8_countNow 15 = .ok (.iconst 5, 1) := by decide +kernel
theorem dX8_countNow_16 : decode cX8_countNow 16 = .ok (.if_icmp .ge 56, 3) := by decide +kernel
theorem dX8_countNow_19 : decode cX8_countNow 19 = .ok (.iload_n 2, 1) := by decide +kernel
theorem dX8_countNow_20 : decode cX8_countNow 20 = .ok (.aload_n 0, 1) := by decide +kernel
theorem dX8_countNow_21 : decode cX8_countNow 21 = .ok (.iload 6, 2) := by decide +kernel
theorem dX8_countNow_23 : decode cX8_countNow 23 = .ok (.iconst 0, 1) := by decide +kernel
theorem dX8_countNow_24 : decode cX8_countNow 24 = .ok (.invokevirtual 37, 3) := by decide +kernel
theorem dX8_countNow_27 : decode cX8_countNow 27 = .ok (.iload 6, 2) := by decide +kernel
theorem dX8_countNow_29 : decode cX8_countNow 29 = .ok (.ishl, 1) := by decide +kernel
theorem dX8_countNow_30 : decode cX8_countNow 30 = .ok (.ior, 1) := by decide +kernel
theorem dX8_countNow_31 : decode cX8_countNow 31 = .ok (.istore_n 2, 1) := by decide +kernel
theorem dX8_countNow_32 : decode cX8_countNow 32 = .ok (.iload_n 3, 1) := by decide +kernel
theorem dX8_countNow_33 : decode cX8_countNow 33 = .ok (.aload_n 0, 1) := by decide +kernel
theorem dX8_countNow_34 : decode cX8_countNow 34 = .ok (.iload 6, 2) := by decide +kernel
theorem dX8_countNow_36 : decode cX8_countNow 36 = .ok (.iconst 1, 1) := by decide +kernel
theorem dX8_countNow_37 : decode cX8_countNow 37 = .ok (.invokevirtual 37, 3) := by decide +kernel
theorem dX8_countNow_40 : decode cX8_countNow 40 = .ok (.iadd, 1) := by decide +kernel
theorem dX8_countNow_41 : decode cX8_countNow 41 = .ok (.istore_n 3, 1) := by decide +kernel
theorem dX8_countNow_42 : decode cX8_countNow 42 = .ok (.iload 4, 2) := by decide +kernel
theorem dX8_countNow_44 : decode cX8_countNow 44 = .ok (.aload_n 0, 1) := by decide +kernel
theorem dX8_countNow_45 : decode cX8_countNow 45 = .ok (.iload 6, 2) := by decide +kernel
theorem dX8_countNow_47 : decode cX8_countNow 47 = .ok (.iconst 2, 1) := by decide +kernel
theorem dX8_countNow_48 : decode cX8_countNow 48 = .ok (.invokevirtual 107, 3) := by decide +kernel
theorem dX8_countNow_51 : decode cX8_countNow 51 = .ok (.iadd, 1) := by decide +kernel
theorem dX8_countNow_52 : decode cX8_countNow 52 = .ok (.istore 4, 2) := by decide +kernel
theorem dX8_countNow_54 : decode cX8_countNow 54 = .ok (.iload 5, 2) := by decide +kernel
theorem dX8_countNow_56 : decode cX8_countNow 56 = .ok (.aload_n 0, 1) := by decide +kernel
theorem dX8_countNow_57 : decode cX8_countNow 57 = .ok (.iload 6, 2) := by decide +kernel
theorem dX8_countNow_59 : decode cX8_countNow 59 = .ok (.iconst 1, 1) := by decide +kernel
theorem dX8_countNow_60 : decode cX8_countNow 60 = .ok (.invokevirtual 107, 3) := by decide +kernel
theorem dX8_countNow_63 : decode cX8_countNow 63 = .ok (.iadd, 1) := by decide +kernel
theorem dX8_countNow_64 : decode cX8_countNow 64 = .ok (.istore 5, 2) := by decide +kernel
theorem dX8_countNow_66 : decode cX8_countNow 66 = .ok (.iinc 6 1, 3) := by decide +kernel
theorem dX8_countNow_69 : decode cX8_countNow 69 = .ok (.goto (-56), 3) := by decide +kernel
theorem dX8_countNow_72 : decode cX8_countNow 72 = .ok (.iload_n 1, 1) := by decide +kernel
theorem dX8_countNow_73 : decode cX8_countNow 73 = .ok (.tableswitch 158 0 14 #[75, 77, 82, 84, 91, 98, 104, 110, 116, 119, 122, 129, 136, 143, 150], 75) := by decide +kernel
theorem dX8_countNow_148 : decode cX8_countNow 148 = .ok (.iload_n 2, 1) := by decide +kernel
theorem dX8_countNow_149 : decode cX8_countNow 149 = .ok (.ireturn, 1) := by decide +kernel
theorem dX8_countNow_150 : decode cX8_countNow 150 = .ok (.aload_n 0, 1) := by decide +kernel
theorem dX8_countNow_151 : decode cX8_countNow 151 = .ok (.invokevirtual 82, 3) := by decide +kernel
theorem dX8_countNow_154 : decode cX8_countNow 154 = .ok (.ireturn, 1) := by decide +kernel
theorem dX8_countNow_155 : decode cX8_countNow 155 = .ok (.iload_n 3, 1) := by decide +kernel
theorem dX8_countNow_156 : decode cX8_countNow 156 = .ok (.ireturn, 1) := by decide +kernel
theorem dX8_countNow_157 : decode cX8_countNow 157 = .ok (.aload_n 0, 1) := by decide +kernel
theorem dX8_countNow_158 : decode cX8_countNow 158 = .ok (.getfield 7, 3) := by decide +kernel
theorem dX8_countNow_161 : decode cX8_countNow 161 = .ok (.iconst 0, 1) := by decide +kernel
theorem dX8_countNow_162 : decode cX8_countNow 162 = .ok (.iaload, 1) := by decide +kernel
theorem dX8_countNow_163 : decode cX8_countNow 163 = .ok (.ireturn, 1) := by decide +kernel
theorem dX8_countNow_164 : decode cX8_countNow 164 = .ok (.aload_n 0, 1) := by decide +kernel
theorem dX8_countNow_165 : decode cX8_countNow 165 = .ok (.getfield 7, 3) := by decide +kernel
theorem dX8_countNow_168 : decode cX8_countNow 168 = .ok (.iconst 1, 1) := by decide +kernel
theorem dX8_countNow_169 : decode cX8_countNow 169 = .ok (.iaload, 1) := by decide +kernel
theorem dX8_countNow_170 : decode cX8_countNow 170 = .ok (.ireturn, 1) := by decide +kernel
theorem dX8_countNow_171 : decode cX8_countNow 171 = .ok (.aload_n 0, 1) := by decide +kernel
theorem dX8_countNow_172 : decode cX8_countNow 172 = .ok (.iconst 0, 1) := by decide +kernel
theorem dX8_countNow_173 : decode cX8_countNow 173 = .ok (.invokevirtual 161, 3) := by decide +kernel
theorem dX8_countNow_176 : decode cX8_countNow 176 = .ok (.ireturn, 1) := by decide +kernel
theorem dX8_countNow_177 : decode cX8_countNow 177 = .ok (.aload_n 0, 1) := by decide +kernel
theorem dX8_countNow_178 : decode cX8_countNow 178 = .ok (.iconst 1, 1) := by decide +kernel
theorem dX8_countNow_179 : decode cX8_countNow 179 = .ok (.invokevirtual 161, 3) := by decide +kernel
theorem dX8_countNow_182 : decode cX8_countNow 182 = .ok (.ireturn, 1) := by decide +kernel
theorem dX8_countNow_183 : decode cX8_countNow 183 = .ok (.aload_n 0, 1) := by decide +kernel
theorem dX8_countNow_184 : decode cX8_countNow 184 = .ok (.iconst 2, 1) := by decide +kernel
theorem dX8_countNow_185 : decode cX8_countNow 185 = .ok (.invokevirtual 161, 3) := by decide +kernel
theorem dX8_countNow_188 : decode cX8_countNow 188 = .ok (.ireturn, 1) := by decide +kernel
theorem dX8_countNow_189 : decode cX8_countNow 189 = .ok (.iload 4, 2) := by decide +kernel
theorem dX8_countNow_191 : decode cX8_countNow 191 = .ok (.ireturn, 1) := by decide +kernel
theorem dX8_countNow_192 : decode cX8_countNow 192 = .ok (.iload 5, 2) := by decide +kernel
theorem dX8_countNow_194 : decode cX8_countNow 194 = .ok (.ireturn, 1) := by decide +kernel
theorem dX8_countNow_195 : decode cX8_countNow 195 = .ok (.aload_n 0, 1) := by decide +kernel
theorem dX8_countNow_196 : decode cX8_countNow 196 = .ok (.getfield 7, 3) := by decide +kernel
theorem dX8_countNow_199 : decode cX8_countNow 199 = .ok (.iconst 2, 1) := by decide +kernel
theorem dX8_countNow_200 : decode cX8_countNow 200 = .ok (.iaload, 1) := by decide +kernel
theorem dX8_countNow_201 : decode cX8_countNow 201 = .ok (.ireturn, 1) := by decide +kernel
theorem dX8_countNow_202 : decode cX8_countNow 202 = .ok (.aload_n 0, 1) := by decide +kernel
theorem dX8_countNow_203 : decode cX8_countNow 203 = .ok (.getfield 7, 3) := by decide +kernel
theorem dX8_countNow_206 : decode cX8_countNow 206 = .ok (.iconst 3, 1) := by decide +kernel
theorem dX8_countNow_207 : decode cX8_countNow 207 = .ok (.iaload, 1) := by decide +kernel
theorem dX8_countNow_208 : decode cX8_countNow 208 = .ok (.ireturn, 1) := by decide +kernel
theorem dX8_countNow_209 : decode cX8_countNow 209 = .ok (.aload_n 0, 1) := by decide +kernel
theorem dX8_countNow_210 : decode cX8_countNow 210 = .ok (.getfield 7, 3) := by decide +kernel
theorem dX8_countNow_213 : decode cX8_countNow 213 = .ok (.iconst 4, 1) := by decide +kernel
theorem dX8_countNow_214 : decode cX8_countNow 214 = .ok (.iaload, 1) := by decide +kernel
theorem dX8_countNow_215 : decode cX8_countNow 215 = .ok (.ireturn, 1) := by decide +kernel
theorem dX8_countNow_216 : decode cX8_countNow 216 = .ok (.aload_n 0, 1) := by decide +kernel
theorem dX8_countNow_217 : decode cX8_countNow 217 = .ok (.getfield 7, 3) := by decide +kernel
theorem dX8_countNow_220 : decode cX8_countNow 220 = .ok (.iconst 5, 1) := by decide +kernel
theorem dX8_countNow_221 : decode cX8_countNow 221 = .ok (.iaload, 1) := by decide +kernel
theorem dX8_countNow_222 : decode cX8_countNow 222 = .ok (.ireturn, 1) := by decide +kernel
theorem dX8_countNow_223 : decode cX8_countNow 223 = .ok (.aload_n 0, 1) := by decide +kernel
theorem dX8_countNow_224 : decode cX8_countNow 224 = .ok (.getfield 7, 3) := by decide +kernel
theorem dX8_countNow_227 : decode cX8_countNow 227 = .ok (.bipush 6, 2) := by decide +kernel
theorem dX8_countNow_229 : decode cX8_countNow 229 = .ok (.iaload, 1) := by decide +kernel
theorem dX8_countNow_230 : decode cX8_countNow 230 = .ok (.ireturn, 1) := by decide +kernel
theorem dX8_countNow_231 : decode cX8_countNow 231 = .ok (.aload_n 0, 1) := by decide +kernel
theorem dX8_countNow_232 : decode cX8_countNow 232 = .ok (.getfield 72, 3) := by decide +kernel
theorem dX8_countNow_235 : decode cX8_countNow 235 = .ok (.ireturn, 1) := by decide +kernel
theorem dX8_count_0 : decode cX8_count 0 = .ok (.aload_n 0, 1) := by decide +kernel
theorem dX8_count_1 : decode cX8_count 1 = .ok (.iload_n 1, 1) := by decide +kernel
theorem dX8_count_2 : decode cX8_count 2 = .ok (.iconst 0, 1) := by decide +kernel
theorem dX8_count_3 : decode cX8_count 3 = .ok (.bipush 15, 2) := by decide +kernel
theorem dX8_count_5 : decode cX8_count 5 = .ok (.invokestatic 48, 3) := by decide +kernel
theorem dX8_count_8 : decode cX8_count 8 = .ok (.ifCond .eq 7, 3) := by decide +kernel
theorem dX8_count_11 : decode cX8_count 11 = .ok (.iconst 0, 1) := by decide +kernel
theorem dX8_count_12 : decode cX8_count 12 = .ok (.goto 4, 3) := by decide +kernel
theorem dX8_count_15 : decode cX8_count 15 = .ok (.iconst 1, 1) := by decide +kernel
theorem dX8_count_16 : decode cX8_count 16 = .ok (.putfield 33, 3) := by decide +kernel
theorem dX8_count_19 : decode cX8_count 19 = .ok (.aload_n 0, 1) := by decide +kernel
theorem dX8_count_20 : decode cX8_count 20 = .ok (.getfield 33, 3) := by decide +kernel
theorem dX8_count_23 : decode cX8_count 23 = .ok (.ifCond .le 7, 3) := by decide +kernel
theorem dX8_count_26 : decode cX8_count 26 = .ok (.iconst 0, 1) := by decide +kernel
theorem dX8_count_27 : decode cX8_count 27 = .ok (.goto 8, 3) := by decide +kernel
theorem dX8_count_30 : decode cX8_count 30 = .ok (.aload_n 0, 1) := by decide +kernel
theorem dX8_count_31 : decode cX8_count 31 = .ok (.iload_n 1, 1) := by decide +kernel
theorem dX8_count_32 : decode cX8_count 32 = .ok (.invokevirtual 219, 3) := by decide +kernel
theorem dX8_count_35 : decode cX8_count 35 = .ok (.ireturn, 1) := by decide +kernel
theorem dX8_setting_0 : decode cX8_setting 0 = .ok (.aload_n 0, 1) := by decide +kernel
theorem dX8_setting_1 : decode cX8_setting 1 = .ok (.iload_n 1, 1) := by decide +kernel
theorem dX8_setting_2 : decode cX8_setting 2 = .ok (.iconst 0, 1) := by decide +kernel
theorem dX8_setting_3 : decode cX8_setting 3 = .ok (.iconst 1, 1) := by decide +kernel
theorem dX8_setting_4 : decode cX8_setting 4 = .ok (.invokestatic 48, 3) := by decide +kernel
theorem dX8_setting_7 : decode cX8_setting 7 = .ok (.ifCond .eq 7, 3) := by decide +kernel
theorem dX8_setting_10 : decode cX8_setting 10 = .ok (.iconst 0, 1) := by decide +kernel
theorem dX8_setting_11 : decode cX8_setting 11 = .ok (.goto 4, 3) := by decide +kernel
theorem dX8_setting_14 : decode cX8_setting 14 = .ok (.iconst 1, 1) := by decide +kernel
theorem dX8_setting_15 : decode cX8_setting 15 = .ok (.putfield 33, 3) := by decide +kernel
theorem dX8_setting_18 : decode cX8_setting 18 = .ok (.aload_n 0, 1) := by decide +kernel
theorem dX8_setting_19 : decode cX8_setting 19 = .ok (.getfield 33, 3) := by decide +kernel
theorem dX8_setting_22 : decode cX8_setting 22 = .ok (.ifCond .le 7, 3) := by decide +kernel
theorem dX8_setting_25 : decode cX8_setting 25 = .ok (.iconst 0, 1) := by decide +kernel
theorem dX8_setting_26 : decode cX8_setting 26 = .ok (.goto 12, 3) := by decide +kernel
theorem dX8_setting_29 : decode cX8_setting 29 = .ok (.aload_n 0, 1) := by decide +kernel
theorem dX8_setting_30 : decode cX8_setting 30 = .ok (.getfield 7, 3) := by decide +kernel
theorem dX8_setting_33 : decode cX8_setting 33 = .ok (.bipush 8, 2) := by decide +kernel
theorem dX8_setting_35 : decode cX8_setting 35 = .ok (.iload_n 1, 1) := by decide +kernel
theorem dX8_setting_36 : decode cX8_setting 36 = .ok (.iadd, 1) := by decide +kernel
theorem dX8_setting_37 : decode cX8_setting 37 = .ok (.iaload, 1) := by decide +kernel
theorem dX8_setting_38 : decode cX8_setting 38 = .ok (.ireturn, 1) := by decide +kernel
theorem dX8_whyNot_0 : decode cX8_whyNot 0 = .ok (.aload_n 0, 1) := by decide +kernel
theorem dX8_whyNot_1 : decode cX8_whyNot 1 = .ok (.iload_n 1, 1) := by decide +kernel
theorem dX8_whyNot_2 : decode cX8_whyNot 2 = .ok (.iconst 1, 1) := by decide +kernel
theorem dX8_whyNot_3 : decode cX8_whyNot 3 = .ok (.invokevirtual 56, 3) := by decide +kernel
theorem dX8_whyNot_6 : decode cX8_whyNot 6 = .ok (.istore_n 2, 1) := by decide +kernel
theorem dX8_whyNot_7 : decode cX8_whyNot 7 = .ok (.iload_n 2, 1) := by decide +kernel
theorem dX8_whyNot_8 : decode cX8_whyNot 8 = .ok (.iconst 2, 1) := by decide +kernel
theorem dX8_whyNot_9 : decode cX8_whyNot 9 = .ok (.if_icmp .ne 7, 3) := by decide +kernel
theorem dX8_whyNot_12 : decode cX8_whyNot 12 = .ok (.iconst 0, 1) := by decide +kernel
theorem dX8_whyNot_13 : decode cX8_whyNot 13 = .ok (.goto 31, 3) := by decide +kernel
theorem dX8_whyNot_16 : decode cX8_whyNot 16 = .ok (.iload_n 2, 1) := by decide +kernel
theorem dX8_whyNot_17 : decode cX8_whyNot 17 = .ok (.ifCond .ne 7, 3) := by decide +kernel
theorem dX8_whyNot_20 : decode cX8_whyNot 20 = .ok (.iconst 1, 1) := by decide +kernel
theorem dX8_whyNot_21 : decode cX8_whyNot 21 = .ok (.goto 23, 3) := by decide +kernel
theorem dX8_whyNot_24 : decode cX8_whyNot 24 = .ok (.aload_n 0, 1) := by decide +kernel
theorem dX8_whyNot_25 : decode cX8_whyNot 25 = .ok (.iload_n 1, 1) := by decide +kernel
theorem dX8_whyNot_26 : decode cX8_whyNot 26 = .ok (.aload_n 0, 1) := by decide +kernel
theorem dX8_whyNot_27 : decode cX8_whyNot 27 = .ok (.getfield 7, 3) := by decide +kernel
theorem dX8_whyNot_30 : decode cX8_whyNot 30 = .ok (.bipush 9, 2) := by decide +kernel
theorem dX8_whyNot_32 : decode cX8_whyNot 32 = .ok (.iaload, 1) := by decide +kernel
theorem dX8_whyNot_33 : decode cX8_whyNot 33 = .ok (.invokevirtual 69, 3) := by decide +kernel
theorem dX8_whyNot_36 : decode cX8_whyNot 36 = .ok (.ifCond .eq 7, 3) := by decide +kernel
theorem dX8_whyNot_39 : decode cX8_whyNot 39 = .ok (.iconst 3, 1) := by decide +kernel
theorem dX8_whyNot_40 : decode cX8_whyNot 40 = .ok (.goto 4, 3) := by decide +kernel
theorem dX8_whyNot_43 : decode cX8_whyNot 43 = .ok (.iconst 2, 1) := by decide +kernel
theorem dX8_whyNot_44 : decode cX8_whyNot 44 = .ok (.ireturn, 1) := by decide +kernel
theorem dX8_why_0 : decode cX8_why 0 = .ok (.aload_n 0, 1) := by decide +kernel
theorem dX8_why_1 : decode cX8_why 1 = .ok (.aload_n 0, 1) := by decide +kernel
theorem dX8_why_2 : decode cX8_why 2 = .ok (.iload_n 1, 1) := by decide +kernel
theorem dX8_why_3 : decode cX8_why 3 = .ok (.invokevirtual 210, 3) := by decide +kernel
theorem dX8_why_6 : decode cX8_why 6 = .ok (.ifCond .eq 7, 3) := by decide +kernel
theorem dX8_why_9 : decode cX8_why 9 = .ok (.iconst 0, 1) := by decide +kernel
theorem dX8_why_10 : decode cX8_why 10 = .ok (.goto 4, 3) := by decide +kernel
theorem dX8_why_13 : decode cX8_why 13 = .ok (.iconst 1, 1) := by decide +kernel
theorem dX8_why_14 : decode cX8_why 14 = .ok (.putfield 33, 3) := by decide +kernel
theorem dX8_why_17 : decode cX8_why 17 = .ok (.aload_n 0, 1) := by decide +kernel
theorem dX8_why_18 : decode cX8_why 18 = .ok (.getfield 33, 3) := by decide +kernel
theorem dX8_why_21 : decode cX8_why 21 = .ok (.ifCond .le 7, 3) := by decide +kernel
theorem dX8_why_24 : decode cX8_why 24 = .ok (.iconst 0, 1) := by decide +kernel
theorem dX8_why_25 : decode cX8_why 25 = .ok (.goto 8, 3) := by decide +kernel
theorem dX8_why_28 : decode cX8_why 28 = .ok (.aload_n 0, 1) := by decide +kernel
theorem dX8_why_29 : decode cX8_why 29 = .ok (.iload_n 1, 1) := by decide +kernel
theorem dX8_why_30 : decode cX8_why 30 = .ok (.invokevirtual 222, 3) := by decide +kernel
theorem dX8_why_33 : decode cX8_why 33 = .ok (.ireturn, 1) := by decide +kernel
theorem dX8_ifRaked_0 : decode cX8_ifRaked 0 = .ok (.aload_n 0, 1) := by decide +kernel
theorem dX8_ifRaked_1 : decode cX8_ifRaked 1 = .ok (.aload_n 0, 1) := by decide +kernel
theorem dX8_ifRaked_2 : decode cX8_ifRaked 2 = .ok (.iload_n 1, 1) := by decide +kernel
theorem dX8_ifRaked_3 : decode cX8_ifRaked 3 = .ok (.invokevirtual 86, 3) := by decide +kernel
theorem dX8_ifRaked_6 : decode cX8_ifRaked 6 = .ok (.ifCond .ne 7, 3) := by decide +kernel
theorem dX8_ifRaked_9 : decode cX8_ifRaked 9 = .ok (.iconst 1, 1) := by decide +kernel
theorem dX8_ifRaked_10 : decode cX8_ifRaked 10 = .ok (.goto 17, 3) := by decide +kernel
theorem dX8_ifRaked_13 : decode cX8_ifRaked 13 = .ok (.iload_n 2, 1) := by decide +kernel
theorem dX8_ifRaked_14 : decode cX8_ifRaked 14 = .ok (.iconst 0, 1) := by decide +kernel
theorem dX8_ifRaked_15 : decode cX8_ifRaked 15 = .ok (.iconst 1, 1) := by decide +kernel
theorem dX8_ifRaked_16 : decode cX8_ifRaked 16 = .ok (.invokestatic 48, 3) := by decide +kernel
theorem dX8_ifRaked_19 : decode cX8_ifRaked 19 = .ok (.ifCond .eq 7, 3) := by decide +kernel
theorem dX8_ifRaked_22 : decode cX8_ifRaked 22 = .ok (.iconst 0, 1) := by decide +kernel
theorem dX8_ifRaked_23 : decode cX8_ifRaked 23 = .ok (.goto 4, 3) := by decide +kernel
theorem dX8_ifRaked_26 : decode cX8_ifRaked 26 = .ok (.iconst 2, 1) := by decide +kernel
theorem dX8_ifRaked_27 : decode cX8_ifRaked 27 = .ok (.putfield 33, 3) := by decide +kernel
theorem dX8_ifRaked_30 : decode cX8_ifRaked 30 = .ok (.aload_n 0, 1) := by decide +kernel
theorem dX8_ifRaked_31 : decode cX8_ifRaked 31 = .ok (.getfield 33, 3) := by decide +kernel
theorem dX8_ifRaked_34 : decode cX8_ifRaked 34 = .ok (.ifCond .le 7, 3) := by decide +kernel
theorem dX8_ifRaked_37 : decode cX8_ifRaked 37 = .ok (.iconst 0, 1) := by decide +kernel
theorem dX8_ifRaked_38 : decode cX8_ifRaked 38 = .ok (.goto 9, 3) := by decide +kernel
theorem dX8_ifRaked_41 : decode cX8_ifRaked 41 = .ok (.aload_n 0, 1) := by decide +kernel
theorem dX8_ifRaked_42 : decode cX8_ifRaked 42 = .ok (.iload_n 1, 1) := by decide +kernel
theorem dX8_ifRaked_43 : decode cX8_ifRaked 43 = .ok (.iload_n 2, 1) := by decide +kernel
theorem dX8_ifRaked_44 : decode cX8_ifRaked 44 = .ok (.invokevirtual 225, 3) := by decide +kernel
theorem dX8_ifRaked_47 : decode cX8_ifRaked 47 = .ok (.ireturn, 1) := by decide +kernel
theorem dX8_findBestRake_0 : decode cX8_findBestRake 0 = .ok (.iconst (-1), 1) := by decide +kernel
theorem dX8_findBestRake_1 : decode cX8_findBestRake 1 = .ok (.istore_n 1, 1) := by decide +kernel
theorem dX8_findBestRake_2 : decode cX8_findBestRake 2 = .ok (.iconst 0, 1) := by decide +kernel
theorem dX8_findBestRake_3 : decode cX8_findBestRake 3 = .ok (.istore_n 2, 1) := by decide +kernel
theorem dX8_findBestRake_4 : decode cX8_findBestRake 4 = .ok (.iconst 0, 1) := by decide +kernel
theorem dX8_findBestRake_5 : decode cX8_findBestRake 5 = .ok (.istore_n 3, 1) := by decide +kernel
theorem dX8_findBestRake_6 : decode cX8_findBestRake 6 = .ok (.iload_n 3, 1) := by decide +kernel
theorem dX8_findBestRake_7 : decode cX8_findBestRake 7 = .ok (.iconst 5, 1) := by decide +kernel
theorem dX8_findBestRake_8 : decode cX8_findBestRake 8 = .ok (.if_icmp .ge 72, 3) := by decide +kernel
theorem dX8_findBestRake_11 : decode cX8_findBestRake 11 = .ok (.aload_n 0, 1) := by decide +kernel
theorem dX8_findBestRake_12 : decode cX8_findBestRake 12 = .ok (.iload_n 3, 1) := by decide +kernel
theorem dX8_findBestRake_13 : decode cX8_findBestRake 13 = .ok (.iconst 0, 1) := by decide +kernel
theorem dX8_findBestRake_14 : decode cX8_findBestRake 14 = .ok (.invokevirtual 37, 3) := by decide +kernel
theorem dX8_findBestRake_17 : decode cX8_findBestRake 17 = .ok (.iconst 1, 1) := by decide +kernel
theorem dX8_findBestRake_18 : decode cX8_findBestRake 18 = .ok (.if_icmp .ne 18, 3) := by decide +kernel
theorem dX8_findBestRake_21 : decode cX8_findBestRake 21 = .ok (.aload_n 0, 1) := by decide +kernel
theorem dX8_findBestRake_22 : decode cX8_findBestRake 22 = .ok (.iload_n 3, 1) := by decide +kernel
theorem dX8_findBestRake_23 : decode cX8_findBestRake 23 = .ok (.aload_n 0, 1) := by decide +kernel
theorem dX8_findBestRake_24 : decode cX8_findBestRake 24 = .ok (.getfield 7, 3) := by decide +kernel
theorem dX8_findBestRake_27 : decode cX8_findBestRake 27 = .ok (.bipush 9, 2) := by decide +kernel
theorem dX8_findBestRake_29 : decode cX8_findBestRake 29 = .ok (.iaload, 1) := by decide +kernel
theorem dX8_findBestRake_30 : decode cX8_findBestRake 30 = .ok (.invokevirtual 225, 3) := by decide +kernel
theorem dX8_findBestRake_33 : decode cX8_findBestRake 33 = .ok (.goto 4, 3) := by decide +kernel
theorem dX8_findBestRake_36 : decode cX8_findBestRake 36 = .ok (.iconst 0, 1) := by decide +kernel
theorem dX8_findBestRake_37 : decode cX8_findBestRake 37 = .ok (.istore 4, 2) := by decide +kernel
theorem dX8_findBestRake_39 : decode cX8_findBestRake 39 = .ok (.iload 4, 2) := by decide +kernel
theorem dX8_findBestRake_41 : decode cX8_findBestRake 41 = .ok (.iload_n 2, 1) := by decide +kernel
theorem dX8_findBestRake_42 : decode cX8_findBestRake 42 = .ok (.if_icmp .gt 27, 3) := by decide +kernel
theorem dX8_findBestRake_45 : decode cX8_findBestRake 45 = .ok (.iload 4, 2) := by decide +kernel
theorem dX8_findBestRake_47 : decode cX8_findBestRake 47 = .ok (.ifCond .le 27, 3) := by decide +kernel
theorem dX8_findBestRake_50 : decode cX8_findBestRake 50 = .ok (.iload 4, 2) := by decide +kernel
theorem dX8_findBestRake_52 : decode cX8_findBestRake 52 = .ok (.iload_n 2, 1) := by decide +kernel
theorem dX8_findBestRake_53 : decode cX8_findBestRake 53 = .ok (.if_icmp .ne 21, 3) := by decide +kernel
theorem dX8_findBestRake_56 : decode cX8_findBestRake 56 = .ok (.aload_n 0, 1) := by decide +kernel
theorem dX8_findBestRake_57 : decode cX8_findBestRake 57 = .ok (.iload_n 3, 1) := by decide +kernel
theorem dX8_findBestRake_58 : decode cX8_findBestRake 58 = .ok (.invokevirtual 155, 3) := by decide +kernel
theorem dX8_findBestRake_61 : decode cX8_findBestRake 61 = .ok (.aload_n 0, 1) := by decide +kernel
theorem dX8_findBestRake_62 : decode cX8_findBestRake 62 = .ok (.iload_n 1, 1) := by decide +kernel
theorem dX8_findBestRake_63 : decode cX8_findBestRake 63 = .ok (.invokevirtual 155, 3) := by decide +kernel
theorem dX8_findBestRake_66 : decode cX8_findBestRake 66 = .ok (.if_icmp .le 8, 3) := by decide +kernel
theorem dX8_findBestRake_69 : decode cX8_findBestRake 69 = .ok (.iload_n 3, 1) := by decide +kernel
theorem dX8_findBestRake_70 : decode cX8_findBestRake 70 = .ok (.istore_n 1, 1) := by decide +kernel
theorem dX8_findBestRake_71 : decode cX8_findBestRake 71 = .ok (.iload 4, 2) := by decide +kernel
theorem dX8_findBestRake_73 : decode cX8_findBestRake 73 = .ok (.istore_n 2, 1) := by decide +kernel
theorem dX8_findBestRake_74 : decode cX8_findBestRake 74 = .ok (.iinc 3 1, 3) := by decide +kernel
theorem dX8_findBestRake_77 : decode cX8_findBestRake 77 = .ok (.goto (-71), 3) := by decide +kernel
theorem dX8_findBestRake_80 : decode cX8_findBestRake 80 = .ok (.iload_n 1, 1) := by decide +kernel
theorem dX8_findBestRake_81 : decode cX8_findBestRake 81 = .ok (.ireturn, 1) := by decide +kernel
theorem dX8_bestRake_0 : decode cX8_bestRake 0 = .ok (.aload_n 0, 1) := by decide +kernel
theorem dX8_bestRake_1 : decode cX8_bestRake 1 = .ok (.iconst 0, 1) := by decide +kernel
theorem dX8_bestRake_2 : decode cX8_bestRake 2 = .ok (.putfield 33, 3) := by decide +kernel
theorem dX8_bestRake_5 : decode cX8_bestRake 5 = .ok (.aload_n 0, 1) := by decide +kernel
theorem dX8_bestRake_6 : decode cX8_bestRake 6 = .ok (.invokevirtual 228, 3) := by decide +kernel
theorem dX8_bestRake_9 : decode cX8_bestRake 9 = .ok (.ireturn, 1) := by decide +kernel
theorem dX8_freedBy_0 : decode cX8_freedBy 0 = .ok (.aload_n 0, 1) := by decide +kernel
theorem dX8_freedBy_1 : decode cX8_freedBy 1 = .ok (.iload_n 1, 1) := by decide +kernel
theorem dX8_freedBy_2 : decode cX8_freedBy 2 = .ok (.iload_n 2, 1) := by decide +kernel
theorem dX8_freedBy_3 : decode cX8_freedBy 3 = .ok (.iconst 1, 1) := by decide +kernel
theorem dX8_freedBy_4 : decode cX8_freedBy 4 = .ok (.invokevirtual 52, 3) := by decide +kernel
theorem dX8_freedBy_7 : decode cX8_freedBy 7 = .ok (.istore_n 3, 1) := by decide +kernel
theorem dX8_freedBy_8 : decode cX8_freedBy 8 = .ok (.aload_n 0, 1) := by decide +kernel
theorem dX8_freedBy_9 : decode cX8_freedBy 9 = .ok (.iload_n 1, 1) := by decide +kernel
theorem dX8_freedBy_10 : decode cX8_freedBy 10 = .ok (.iload_n 2, 1) := by decide +kernel
theorem dX8_freedBy_11 : decode cX8_freedBy 11 = .ok (.iconst 0, 1) := by decide +kernel
theorem dX8_freedBy_12 : decode cX8_freedBy 12 = .ok (.invokevirtual 52, 3) := by decide +kernel
theorem dX8_freedBy_15 : decode cX8_freedBy 15 = .ok (.iconst 2, 1) := by decide +kernel
theorem dX8_freedBy_16 : decode cX8_freedBy 16 = .ok (.if_icmp .ne 27, 3) := by decide +kernel
theorem dX8_freedBy_19 : decode cX8_freedBy 19 = .ok (.aload_n 0, 1) := by decide +kernel
theorem dX8_freedBy_20 : decode cX8_freedBy 20 = .ok (.iload_n 3, 1) := by decide +kernel
theorem dX8_freedBy_21 : decode cX8_freedBy 21 = .ok (.iconst 1, 1) := by decide +kernel
theorem dX8_freedBy_22 : decode cX8_freedBy 22 = .ok (.invokevirtual 56, 3) := by decide +kernel
theorem dX8_freedBy_25 : decode cX8_freedBy 25 = .ok (.iconst 1, 1) := by decide +kernel
theorem dX8_freedBy_26 : decode cX8_freedBy 26 = .ok (.if_icmp .ne 17, 3) := by decide +kernel
theorem dX8_freedBy_29 : decode cX8_freedBy 29 = .ok (.aload_n 0, 1) := by decide +kernel
theorem dX8_freedBy_30 : decode cX8_freedBy 30 = .ok (.iload_n 3, 1) := by decide +kernel
theorem dX8_freedBy_31 : decode cX8_freedBy 31 = .ok (.iconst 2, 1) := by decide +kernel
theorem dX8_freedBy_32 : decode cX8_freedBy 32 = .ok (.invokevirtual 207, 3) := by decide +kernel
theorem dX8_freedBy_35 : decode cX8_freedBy 35 = .ok (.iconst 1, 1) := by decide +kernel
theorem dX8_freedBy_36 : decode cX8_freedBy 36 = .ok (.if_icmp .ne 7, 3) := by decide +kernel
theorem dX8_freedBy_39 : decode cX8_freedBy 39 = .ok (.iconst 1, 1) := by decide +kernel
theorem dX8_freedBy_40 : decode cX8_freedBy 40 = .ok (.goto 4, 3) := by decide +kernel
theorem dX8_freedBy_43 : decode cX8_freedBy 43 = .ok (.iconst 0, 1) := by decide +kernel
theorem dX8_freedBy_44 : decode cX8_freedBy 44 = .ok (.istore 4, 2) := by decide +kernel
theorem dX8_freedBy_46 : decode cX8_freedBy 46 = .ok (.iload 4, 2) := by decide +kernel
theorem dX8_freedBy_48 : decode cX8_freedBy 48 = .ok (.ifCond .eq 7, 3) := by decide +kernel
theorem dX8_freedBy_51 : decode cX8_freedBy 51 = .ok (.iconst 1, 1) := by decide +kernel
theorem dX8_freedBy_52 : decode cX8_freedBy 52 = .ok (.goto 4, 3) := by decide +kernel
theorem dX8_freedBy_55 : decode cX8_freedBy 55 = .ok (.iconst 0, 1) := by decide +kernel
theorem dX8_freedBy_56 : decode cX8_freedBy 56 = .ok (.ireturn, 1) := by decide +kernel
theorem dX8_ifLoosened_0 : decode cX8_ifLoosened 0 = .ok (.aload_n 0, 1) := by decide +kernel
theorem dX8_ifLoosened_1 : decode cX8_ifLoosened 1 = .ok (.aload_n 0, 1) := by decide +kernel
theorem dX8_ifLoosened_2 : decode cX8_ifLoosened 2 = .ok (.iload_n 1, 1) := by decide +kernel
theorem dX8_ifLoosened_3 : decode cX8_ifLoosened 3 = .ok (.invokevirtual 86, 3) := by decide +kernel
theorem dX8_ifLoosened_6 : decode cX8_ifLoosened 6 = .ok (.ifCond .eq 10, 3) := by decide +kernel
theorem dX8_ifLoosened_9 : decode cX8_ifLoosened 9 = .ok (.iload_n 2, 1) := by decide +kernel
theorem dX8_ifLoosened_10 : decode cX8_ifLoosened 10 = .ok (.invokestatic 134, 3) := by decide +kernel
theorem dX8_ifLoosened_13 : decode cX8_ifLoosened 13 = .ok (.ifCond .ne 7, 3) := by decide +kernel
theorem dX8_ifLoosened_16 : decode cX8_ifLoosened 16 = .ok (.iconst 1, 1) := by decide +kernel
theorem dX8_ifLoosened_17 : decode cX8_ifLoosened 17 = .ok (.goto 4, 3) := by decide +kernel
theorem dX8_ifLoosened_20 : decode cX8_ifLoosened 20 = .ok (.iconst 0, 1) := by decide +kernel
theorem dX8_ifLoosened_21 : decode cX8_ifLoosened 21 = .ok (.putfield 33, 3) := by decide +kernel
theorem dX8_ifLoosened_24 : decode cX8_ifLoosened 24 = .ok (.aload_n 0, 1) := by decide +kernel
theorem dX8_ifLoosened_25 : decode cX8_ifLoosened 25 = .ok (.getfield 33, 3) := by decide +kernel
theorem dX8_ifLoosened_28 : decode cX8_ifLoosened 28 = .ok (.ifCond .le 7, 3) := by decide +kernel
theorem dX8_ifLoosened_31 : decode cX8_ifLoosened 31 = .ok (.iconst 0, 1) := by decide +kernel
theorem dX8_ifLoosened_32 : decode cX8_ifLoosened 32 = .ok (.goto 9, 3) := by decide +kernel
theorem dX8_ifLoosened_35 : decode cX8_ifLoosened 35 = .ok (.aload_n 0, 1) := by decide +kernel
theorem dX8_ifLoosened_36 : decode cX8_ifLoosened 36 = .ok (.iload_n 1, 1) := by decide +kernel
theorem dX8_ifLoosened_37 : decode cX8_ifLoosened 37 = .ok (.iload_n 2, 1) := by decide +kernel
theorem dX8_ifLoosened_38 : decode cX8_ifLoosened 38 = .ok (.invokevirtual 231, 3) := by decide +kernel
theorem dX8_ifLoosened_41 : decode cX8_ifLoosened 41 = .ok (.ireturn, 1) := by decide +kernel
theorem dX8_late_0 : decode cX8_late 0 = .ok (.aload_n 0, 1) := by decide +kernel
theorem dX8_late_1 : decode cX8_late 1 = .ok (.iconst 0, 1) := by decide +kernel
theorem dX8_late_2 : decode cX8_late 2 = .ok (.putfield 33, 3) := by decide +kernel
theorem dX8_late_5 : decode cX8_late 5 = .ok (.aload_n 0, 1) := by decide +kernel
theorem dX8_late_6 : decode cX8_late 6 = .ok (.invokevirtual 116, 3) := by decide +kernel
theorem dX8_late_9 : decode cX8_late 9 = .ok (.ireturn, 1) := by decide +kernel
theorem dX8_burnableWithout_0 : decode cX8_burnableWithout 0 = .ok (.iconst 0, 1) := by decide +kernel
theorem dX8_burnableWithout_1 : decode cX8_burnableWithout 1 = .ok (.istore_n 2, 1) := by decide +kernel
theorem dX8_burnableWithout_2 : decode cX8_burnableWithout 2 = .ok (.iconst 0, 1) := by decide +kernel
theorem dX8_burnableWithout_3 : decode cX8_burnableWithout 3 = .ok (.istore_n 3, 1) := by decide +kernel
theorem dX8_burnableWithout_4 : decode cX8_burnableWithout 4 = .ok (.iload_n 3, 1) := by decide +kernel
theorem dX8_burnableWithout_5 : decode cX8_burnableWithout 5 = .ok (.aload_n 0, 1) := by decide +kernel
theorem dX8_burnableWithout_6 : decode cX8_burnableWithout 6 = .ok (.getfield 7, 3) := by decide +kernel
theorem dX8_burnableWithout_9 : decode cX8_burnableWithout 9 = .ok (.iconst 1, 1) := by decide +kernel
theorem dX8_burnableWithout_10 : decode cX8_burnableWithout 10 = .ok (.iaload, 1) := by decide +kernel
theorem dX8_burnableWithout_11 : decode cX8_burnableWithout 11 = .ok (.if_icmp .ge 67, 3) := by decide +kernel
theorem dX8_burnableWithout_14 : decode cX8_burnableWithout 14 = .ok (.aload_n 0, 1) := by decide +kernel
theorem dX8_burnableWithout_15 : decode cX8_burnableWithout 15 = .ok (.getfield 7, 3) := by decide +kernel
theorem dX8_burnableWithout_18 : decode cX8_burnableWithout 18 = .ok (.bipush 9, 2) := by decide +kernel
theorem dX8_burnableWithout_20 : decode cX8_burnableWithout 20 = .ok (.iaload, 1) := by decide +kernel
theorem dX8_burnableWithout_21 : decode cX8_burnableWithout 21 = .ok (.ifCond .ne 20, 3) := by decide +kernel
theorem dX8_burnableWithout_24 : decode cX8_burnableWithout 24 = .ok (.aload_n 0, 1) := by decide +kernel
theorem dX8_burnableWithout_25 : decode cX8_burnableWithout 25 = .ok (.iload_n 3, 1) := by decide +kernel
theorem dX8_burnableWithout_26 : decode cX8_burnableWithout 26 = .ok (.iload_n 1, 1) := by decide +kernel
theorem dX8_burnableWithout_27 : decode cX8_burnableWithout 27 = .ok (.invokevirtual 66, 3) := by decide +kernel
theorem dX8_burnableWithout_30 : decode cX8_burnableWithout 30 = .ok (.ifCond .ne 7, 3) := by decide +kernel
theorem dX8_burnableWithout_33 : decode cX8_burnableWithout 33 = .ok (.iconst 1, 1) := by decide +kernel
theorem dX8_burnableWithout_34 : decode cX8_burnableWithout 34 = .ok (.goto 13, 3) := by decide +kernel
theorem dX8_burnableWithout_37 : decode cX8_burnableWithout 37 = .ok (.iconst 0, 1) := by decide +kernel
theorem dX8_burnableWithout_38 : decode cX8_burnableWithout 38 = .ok (.goto 9, 3) := by decide +kernel
theorem dX8_burnableWithout_41 : decode cX8_burnableWithout 41 = .ok (.aload_n 0, 1) := by decide +kernel
theorem dX8_burnableWithout_42 : decode cX8_burnableWithout 42 = .ok (.iload_n 3, 1) := by decide +kernel
theorem dX8_burnableWithout_43 : decode cX8_burnableWithout 43 = .ok (.iconst 1, 1) := by decide +kernel
theorem dX8_burnableWithout_44 : decode cX8_burnableWithout 44 = .ok (.invokevirtual 69, 3) := by decide +kernel
theorem dX8_burnableWithout_47 : decode cX8_burnableWithout 47 = .ok (.istore 4, 2) := by decide +kernel
theorem dX8_burnableWithout_49 : decode cX8_burnableWithout 49 = .ok (.iload_n 2, 1) := by decide +kernel
theorem dX8_burnableWithout_50 : decode cX8_burnableWithout 50 = .ok (.aload_n 0, 1) := by decide +kernel
theorem dX8_burnableWithout_51 : decode cX8_burnableWithout 51 = .ok (.iload_n 3, 1) := by decide +kernel
theorem dX8_burnableWithout_52 : decode cX8_burnableWithout 52 = .ok (.iconst 1, 1) := by decide +kernel
theorem dX8_burnableWithout_53 : decode cX8_burnableWithout 53 = .ok (.invokevirtual 56, 3) := by decide +kernel
theorem dX8_burnableWithout_56 : decode cX8_burnableWithout 56 = .ok (.iconst 1, 1) := by decide +kernel
theorem dX8_burnableWithout_57 : decode cX8_burnableWithout 57 = .ok (.if_icmp .ne 12, 3) := by decide +kernel
theorem dX8_burnableWithout_60 : decode cX8_burnableWithout 60 = .ok (.iload 4, 2) := by decide +kernel
theorem dX8_burnableWithout_62 : decode cX8_burnableWithout 62 = .ok (.ifCond .eq 7, 3) := by decide +kernel
theorem dX8_burnableWithout_65 : decode cX8_burnableWithout 65 = .ok (.iconst 1, 1) := by decide +kernel
theorem dX8_burnableWithout_66 : decode cX8_burnableWithout 66 = .ok (.goto 4, 3) := by decide +kernel
theorem dX8_burnableWithout_69 : decode cX8_burnableWithout 69 = .ok (.iconst 0, 1) := by decide +kernel
theorem dX8_burnableWithout_70 : decode cX8_burnableWithout 70 = .ok (.iadd, 1) := by decide +kernel
theorem dX8_burnableWithout_71 : decode cX8_burnableWithout 71 = .ok (.istore_n 2, 1) := by decide +kernel
theorem dX8_burnableWithout_72 : decode cX8_burnableWithout 72 = .ok (.iinc 3 1, 3) := by decide +kernel
theorem dX8_burnableWithout_75 : decode cX8_burnableWithout 75 = .ok (.goto (-71), 3) := by decide +kernel
theorem dX8_burnableWithout_78 : decode cX8_burnableWithout 78 = .ok (.iload_n 2, 1) := by decide +kernel
theorem dX8_burnableWithout_79 : decode cX8_burnableWithout 79 = .ok (.ireturn, 1) := by decide +kernel
theorem dX8_ifRested_0 : decode cX8_ifRested 0 = .ok (.aload_n 0, 1) := by decide +kernel
theorem dX8_ifRested_1 : decode cX8_ifRested 1 = .ok (.aload_n 0, 1) := by decide +kernel
theorem dX8_ifRested_2 : decode cX8_ifRested 2 = .ok (.iload_n 1, 1) := by decide +kernel
theorem dX8_ifRested_3 : decode cX8_ifRested 3 = .ok (.invokevirtual 86, 3) := by decide +kernel
theorem dX8_ifRested_6 : decode cX8_ifRested 6 = .ok (.ifCond .eq 7, 3) := by decide +kernel
theorem dX8_ifRested_9 : decode cX8_ifRested 9 = .ok (.iconst 0, 1) := by decide +kernel
theorem dX8_ifRested_10 : decode cX8_ifRested 10 = .ok (.goto 4, 3) := by decide +kernel
theorem dX8_ifRested_13 : decode cX8_ifRested 13 = .ok (.iconst 1, 1) := by decide +kernel
theorem dX8_ifRested_14 : decode cX8_ifRested 14 = .ok (.putfield 33, 3) := by decide +kernel
theorem dX8_ifRested_17 : decode cX8_ifRested 17 = .ok (.aload_n 0, 1) := by decide +kernel
theorem dX8_ifRested_18 : decode cX8_ifRested 18 = .ok (.getfield 33, 3) := by decide +kernel
theorem dX8_ifRested_21 : decode cX8_ifRested 21 = .ok (.ifCond .le 7, 3) := by decide +kernel
theorem dX8_ifRested_24 : decode cX8_ifRested 24 = .ok (.iconst 0, 1) := by decide +kernel
theorem dX8_ifRested_25 : decode cX8_ifRested 25 = .ok (.goto 8, 3) := by decide +kernel
theorem dX8_ifRested_28 : decode cX8_ifRested 28 = .ok (.aload_n 0, 1) := by decide +kernel
theorem dX8_ifRested_29 : decode cX8_ifRested 29 = .ok (.iload_n 1, 1) := by decide +kernel
theorem dX8_ifRested_30 : decode cX8_ifRested 30 = .ok (.invokevirtual 234, 3) := by decide +kernel
theorem dX8_ifRested_33 : decode cX8_ifRested 33 = .ok (.ireturn, 1) := by decide +kernel
theorem dX8_ifAllRested_0 : decode cX8_ifAllRested 0 = .ok (.aload_n 0, 1) := by decide +kernel
theorem dX8_ifAllRested_1 : decode cX8_ifAllRested 1 = .ok (.iconst 0, 1) := by decide +kernel
theorem dX8_ifAllRested_2 : decode cX8_ifAllRested 2 = .ok (.putfield 33, 3) := by decide +kernel
theorem dX8_ifAllRested_5 : decode cX8_ifAllRested 5 = .ok (.aload_n 0, 1) := by decide +kernel
theorem dX8_ifAllRested_6 : decode cX8_ifAllRested 6 = .ok (.iconst 1, 1) := by decide +kernel
theorem dX8_ifAllRested_7 : decode cX8_ifAllRested 7 = .ok (.invokevirtual 161, 3) := by decide +kernel
theorem dX8_ifAllRested_10 : decode cX8_ifAllRested 10 = .ok (.ireturn, 1) := by decide +kernel
theorem dX8_findMostHeld_0 : decode cX8_findMostHeld 0 = .ok (.iconst (-1), 1) := by decide +kernel
theorem dX8_findMostHeld_1 : decode cX8_findMostHeld 1 = .ok (.istore_n 1, 1) := by decide +kernel
theorem dX8_findMostHeld_2 : decode cX8_findMostHeld 2 = .ok (.iconst 0, 1) := by decide +kernel
theorem dX8_findMostHeld_3 : decode cX8_findMostHeld 3 = .ok (.istore_n 2, 1) := by decide +kernel
theorem dX8_findMostHeld_4 : decode cX8_findMostHeld 4 = .ok (.iconst 0, 1) := by decide +kernel
theorem dX8_findMostHeld_5 : decode cX8_findMostHeld 5 = .ok (.istore_n 3, 1) := by decide +kernel
theorem dX8_findMostHeld_6 : decode cX8_findMostHeld 6 = .ok (.iload_n 3, 1) := by decide +kernel
theorem dX8_findMostHeld_7 : decode cX8_findMostHeld 7 = .ok (.aload_n 0, 1) := by decide +kernel
theorem dX8_findMostHeld_8 : decode cX8_findMostHeld 8 = .ok (.getfield 7, 3) := by decide +kernel
theorem dX8_findMostHeld_11 : decode cX8_findMostHeld 11 = .ok (.iconst 1, 1) := by decide +kernel
theorem dX8_findMostHeld_12 : decode cX8_findMostHeld 12 = .ok (.iaload, 1) := by decide +kernel
theorem dX8_findMostHeld_13 : decode cX8_findMostHeld 13 = .ok (.if_icmp .ge 42, 3) := by decide +kernel
theorem dX8_findMostHeld_16 : decode cX8_findMostHeld 16 = .ok (.aload_n 0, 1) := by decide +kernel
theorem dX8_findMostHeld_17 : decode cX8_findMostHeld 17 = .ok (.iload_n 3, 1) := by decide +kernel
theorem dX8_findMostHeld_18 : decode cX8_findMostHeld 18 = .ok (.iconst 2, 1) := by decide +kernel
theorem dX8_findMostHeld_19 : decode cX8_findMostHeld 19 = .ok (.invokevirtual 207, 3) := by decide +kernel
theorem dX8_findMostHeld_22 : decode cX8_findMostHeld 22 = .ok (.istore 4, 2) := by decide +kernel
theorem dX8_findMostHeld_24 : decode cX8_findMostHeld 24 = .ok (.iload 4, 2) := by decide +kernel
theorem dX8_findMostHeld_26 : decode cX8_findMostHeld 26 = .ok (.iload_n 2, 1) := by decide +kernel
theorem dX8_findMostHeld_27 : decode cX8_findMostHeld 27 = .ok (.if_icmp .le 7, 3) := by decide +kernel
theorem dX8_findMostHeld_30 : decode cX8_findMostHeld 30 = .ok (.iload_n 3, 1) := by decide +kernel
theorem dX8_findMostHeld_31 : decode cX8_findMostHeld 31 = .ok (.goto 4, 3) := by decide +kernel
theorem dX8_findMostHeld_34 : decode cX8_findMostHeld 34 = .ok (.iload_n 1, 1) := by decide +kernel
theorem dX8_findMostHeld_35 : decode cX8_findMostHeld 35 = .ok (.istore_n 1, 1) := by decide +kernel
theorem dX8_findMostHeld_36 : decode cX8_findMostHeld 36 = .ok (.iload 4, 2) := by decide +kernel
theorem dX8_findMostHeld_38 : decode cX8_findMostHeld 38 = .ok (.iload_n 2, 1) := by decide +kernel
theorem dX8_findMostHeld_39 : decode cX8_findMostHeld 39 = .ok (.if_icmp .le 8, 3) := by decide +kernel
theorem dX8_findMostHeld_42 : decode cX8_findMostHeld 42 = .ok (.iload 4, 2) := by decide +kernel
theorem dX8_findMostHeld_44 : decode cX8_findMostHeld 44 = .ok (.goto 4, 3) := by decide +kernel
theorem dX8_findMostHeld_47 : decode cX8_findMostHeld 47 = .ok (.iload_n 2, 1) := by decide +kernel
theorem dX8_findMostHeld_48 : decode cX8_findMostHeld 48 = .ok (.istore_n 2, 1) := by decide +kernel
theorem dX8_findMostHeld_49 : decode cX8_findMostHeld 49 = .ok (.iinc 3 1, 3) := by decide +kernel
theorem dX8_findMostHeld_52 : decode cX8_findMostHeld 52 = .ok (.goto (-46), 3) := by decide +kernel
theorem dX8_findMostHeld_55 : decode cX8_findMostHeld 55 = .ok (.iload_n 1, 1) := by decide +kernel
theorem dX8_findMostHeld_56 : decode cX8_findMostHeld 56 = .ok (.ireturn, 1) := by decide +kernel
theorem dX8_mostHeld_0 : decode cX8_mostHeld 0 = .ok (.aload_n 0, 1) := by decide +kernel
theorem dX8_mostHeld_1 : decode cX8_mostHeld 1 = .ok (.iconst 0, 1) := by decide +kernel
theorem dX8_mostHeld_2 : decode cX8_mostHeld 2 = .ok (.putfield 33, 3) := by decide +kernel
theorem dX8_mostHeld_5 : decode cX8_mostHeld 5 = .ok (.aload_n 0, 1) := by decide +kernel
theorem dX8_mostHeld_6 : decode cX8_mostHeld 6 = .ok (.invokevirtual 237, 3) := by decide +kernel
theorem dX8_mostHeld_9 : decode cX8_mostHeld 9 = .ok (.ireturn, 1) := by decide +kernel
theorem dX8_shareOfBurnt_0 : decode cX8_shareOfBurnt 0 = .ok (.aload_n 0, 1) := by decide +kernel
theorem dX8_shareOfBurnt_1 : decode cX8_shareOfBurnt 1 = .ok (.iconst 2, 1) := by decide +kernel
theorem dX8_shareOfBurnt_2 : decode cX8_shareOfBurnt 2 = .ok (.invokevirtual 161, 3) := by decide +kernel
theorem dX8_shareOfBurnt_5 : decode cX8_shareOfBurnt 5 = .ok (.istore_n 1, 1) := by decide +kernel
theorem dX8_shareOfBurnt_6 : decode cX8_shareOfBurnt 6 = .ok (.iload_n 1, 1) := by decide +kernel
theorem dX8_shareOfBurnt_7 : decode cX8_shareOfBurnt 7 = .ok (.aload_n 0, 1) := by decide +kernel
theorem dX8_shareOfBurnt_8 : decode cX8_shareOfBurnt 8 = .ok (.iconst 1, 1) := by decide +kernel
theorem dX8_shareOfBurnt_9 : decode cX8_shareOfBurnt 9 = .ok (.invokevirtual 161, 3) := by decide +kernel
theorem dX8_shareOfBurnt_12 : decode cX8_shareOfBurnt 12 = .ok (.iadd, 1) := by decide +kernel
theorem dX8_shareOfBurnt_13 : decode cX8_shareOfBurnt 13 = .ok (.istore_n 2, 1) := by decide +kernel
theorem dX8_shareOfBurnt_14 : decode cX8_shareOfBurnt 14 = .ok (.iload_n 2, 1) := by decide +kernel
theorem dX8_shareOfBurnt_15 : decode cX8_shareOfBurnt 15 = .ok (.ifCond .ne 7, 3) := by decide +kernel
theorem dX8_shareOfBurnt_18 : decode cX8_shareOfBurnt 18 = .ok (.dconst 1, 1) := by decide +kernel
theorem dX8_shareOfBurnt_19 : decode cX8_shareOfBurnt 19 = .ok (.goto 8, 3) := by decide +kernel
theorem dX8_shareOfBurnt_22 : decode cX8_shareOfBurnt 22 = .ok (.iload_n 1, 1) := by decide +kernel
theorem dX8_shareOfBurnt_23 : decode cX8_shareOfBurnt 23 = .ok (.i2d, 1) := by decide +kernel
theorem dX8_shareOfBurnt_24 : decode cX8_shareOfBurnt 24 = .ok (.iload_n 2, 1) := by decide +kernel
theorem dX8_shareOfBurnt_25 : decode cX8_shareOfBurnt 25 = .ok (.i2d, 1) := by decide +kernel
theorem dX8_shareOfBurnt_26 : decode cX8_shareOfBurnt 26 = .ok (.ddiv, 1) := by decide +kernel
theorem dX8_shareOfBurnt_27 : decode cX8_shareOfBurnt 27 = .ok (.dreturn, 1) := by decide +kernel
theorem dX8_burntShare_0 : decode cX8_burntShare 0 = .ok (.aload_n 0, 1) := by decide +kernel
theorem dX8_burntShare_1 : decode cX8_burntShare 1 = .ok (.iconst 0, 1) := by decide +kernel
theorem dX8_burntShare_2 : decode cX8_burntShare 2 = .ok (.putfield 33, 3) := by decide +kernel
theorem dX8_burntShare_5 : decode cX8_burntShare 5 = .ok (.aload_n 0, 1) := by decide +kernel
theorem dX8_burntShare_6 : decode cX8_burntShare 6 = .ok (.invokevirtual 240, 3) := by decide +kernel
theorem dX8_burntShare_9 : decode cX8_burntShare 9 = .ok (.dreturn, 1) := by decide +kernel
theorem dX8_fullnessNow_0 : decode cX8_fullnessNow 0 = .ok (.aload_n 0, 1) := by decide +kernel
theorem dX8_fullnessNow_1 : decode cX8_fullnessNow 1 = .ok (.iconst 1, 1) := by decide +kernel
theorem dX8_fullnessNow_2 : decode cX8_fullnessNow 2 = .ok (.invokevirtual 161, 3) := by decide +kernel
theorem dX8_fullnessNow_5 : decode cX8_fullnessNow 5 = .ok (.i2f, 1) := by decide +kernel
theorem dX8_fullnessNow_6 : decode cX8_fullnessNow 6 = .ok (.aload_n 0, 1) := by decide +kernel
theorem dX8_fullnessNow_7 : decode cX8_fullnessNow 7 = .ok (.getfield 7, 3) := by decide +kernel
theorem dX8_fullnessNow_10 : decode cX8_fullnessNow 10 = .ok (.bipush 8, 2) := by decide +kernel
theorem dX8_fullnessNow_12 : decode cX8_fullnessNow 12 = .ok (.iaload, 1) := by decide +kernel
theorem dX8_fullnessNow_13 : decode cX8_fullnessNow 13 = .ok (.aload_n 0, 1) := by decide +kernel
theorem dX8_fullnessNow_14 : decode cX8_fullnessNow 14 = .ok (.invokevirtual 82, 3) := by decide +kernel
theorem dX8_fullnessNow_17 : decode cX8_fullnessNow 17 = .ok (.imul, 1) := by decide +kernel
theorem dX8_fullnessNow_18 : decode cX8_fullnessNow 18 = .ok (.i2f, 1) := by decide +kernel
theorem dX8_fullnessNow_19 : decode cX8_fullnessNow 19 = .ok (.fdiv, 1) := by decide +kernel
theorem dX8_fullnessNow_20 : decode cX8_fullnessNow 20 = .ok (.freturn, 1) := by decide +kernel
theorem dX8_fullness_0 : decode cX8_fullness 0 = .ok (.aload_n 0, 1) := by decide +kernel
theorem dX8_fullness_1 : decode cX8_fullness 1 = .ok (.iconst 0, 1) := by decide +kernel
theorem dX8_fullness_2 : decode cX8_fullness 2 = .ok (.putfield 33, 3) := by decide +kernel
theorem dX8_fullness_5 : decode cX8_fullness 5 = .ok (.aload_n 0, 1) := by decide +kernel
theorem dX8_fullness_6 : decode cX8_fullness 6 = .ok (.invokevirtual 244, 3) := by decide +kernel
theorem dX8_fullness_9 : decode cX8_fullness 9 = .ok (.freturn, 1) := by decide +kernel
theorem dX8_digest_0 : decode cX8_digest 0 = .ok (.aload_n 0, 1) := by decide +kernel
theorem dX8_digest_1 : decode cX8_digest 1 = .ok (.iconst 0, 1) := by decide +kernel
theorem dX8_digest_2 : decode cX8_digest 2 = .ok (.putfield 33, 3) := by decide +kernel
theorem dX8_digest_5 : decode cX8_digest 5 = .ok (.ldc2_w 248, 3) := by decide +kernel
theorem dX8_digest_8 : decode cX8_digest 8 = .ok (.lstore_n 1, 1) := by decide +kernel
theorem dX8_digest_9 : decode cX8_digest 9 = .ok (.iconst 0, 1) := by decide +kernel
theorem dX8_digest_10 : decode cX8_digest 10 = .ok (.istore_n 3, 1) := by decide +kernel
theorem dX8_digest_11 : decode cX8_digest 11 = .ok (.iload_n 3, 1) := by decide +kernel
theorem dX8_digest_12 : decode cX8_digest 12 = .ok (.bipush 16, 2) := by decide +kernel
theorem dX8_digest_14 : decode cX8_digest 14 = .ok (.if_icmp .ge 22, 3) := by decide +kernel
theorem dX8_digest_17 : decode cX8_digest 17 = .ok (.ldc2_w 250, 3) := by decide +kernel
theorem dX8_digest_20 : decode cX8_digest 20 = .ok (.lload_n 1, 1) := by decide +kernel
theorem dX8_digest_21 : decode cX8_digest 21 = .ok (.lmul, 1) := by decide +kernel
theorem dX8_digest_22 : decode cX8_digest 22 = .ok (.aload_n 0, 1) := by decide +kernel
theorem dX8_digest_23 : decode cX8_digest 23 = .ok (.iload_n 3, 1) := by decide +kernel
theorem dX8_digest_24 : decode cX8_digest 24 = .ok (.invokevirtual 219, 3) := by decide +kernel
theorem dX8_digest_27 : decode cX8_digest 27 = .ok (.i2l, 1) := by decide +kernel
theorem dX8_digest_28 : decode cX8_digest 28 = .ok (.ladd, 1) := by decide +kernel
theorem dX8_digest_29 : decode cX8_digest 29 = .ok (.lstore_n 1, 1) := by decide +kernel
theorem dX8_digest_30 : decode cX8_digest 30 = .ok (.iinc 3 1, 3) := by decide +kernel
theorem dX8_digest_33 : decode cX8_digest 33 = .ok (.goto (-22), 3) := by decide +kernel
theorem dX8_digest_36 : decode cX8_digest 36 = .ok (.ldc2_w 250, 3) := by decide +kernel
theorem dX8_digest_39 : decode cX8_digest 39 = .ok (.ldc2_w 250, 3) := by decide +kernel
theorem dX8_digest_42 : decode cX8_digest 42 = .ok (.lload_n 1, 1) := by decide +kernel
theorem dX8_digest_43 : decode cX8_digest 43 = .ok (.lmul, 1) := by decide +kernel
theorem dX8_digest_44 : decode cX8_digest 44 = .ok (.aload_n 0, 1) := by decide +kernel
theorem dX8_digest_45 : decode cX8_digest 45 = .ok (.getfield 7, 3) := by decide +kernel
theorem dX8_digest_48 : decode cX8_digest 48 = .ok (.bipush 8, 2) := by decide +kernel
theorem dX8_digest_50 : decode cX8_digest 50 = .ok (.iaload, 1) := by decide +kernel
theorem dX8_digest_51 : decode cX8_digest 51 = .ok (.i2l, 1) := by decide +kernel
theorem dX8_digest_52 : decode cX8_digest 52 = .ok (.ladd, 1) := by decide +kernel
theorem dX8_digest_53 : decode cX8_digest 53 = .ok (.lmul, 1) := by decide +kernel
theorem dX8_digest_54 : decode cX8_digest 54 = .ok (.aload_n 0, 1) := by decide +kernel
theorem dX8_digest_55 : decode cX8_digest 55 = .ok (.getfield 7, 3) := by decide +kernel
theorem dX8_digest_58 : decode cX8_digest 58 = .ok (.bipush 9, 2) := by decide +kernel
theorem dX8_digest_60 : decode cX8_digest 60 = .ok (.iaload, 1) := by decide +kernel
theorem dX8_digest_61 : decode cX8_digest 61 = .ok (.i2l, 1) := by decide +kernel
theorem dX8_digest_62 : decode cX8_digest 62 = .ok (.ladd, 1) := by decide +kernel
theorem dX8_digest_63 : decode cX8_digest 63 = .ok (.lstore_n 1, 1) := by decide +kernel
theorem dX8_digest_64 : decode cX8_digest 64 = .ok (.iconst 0, 1) := by decide +kernel
theorem dX8_digest_65 : decode cX8_digest 65 = .ok (.istore_n 3, 1) := by decide +kernel
theorem dX8_digest_66 : decode cX8_digest 66 = .ok (.iload_n 3, 1) := by decide +kernel
theorem dX8_digest_67 : decode cX8_digest 67 = .ok (.bipush 12, 2) := by decide +kernel
theorem dX8_digest_69 : decode cX8_digest 69 = .ok (.if_icmp .ge 26, 3) := by decide +kernel
theorem dX8_digest_72 : decode cX8_digest 72 = .ok (.ldc2_w 250, 3) := by decide +kernel
theorem dX8_digest_75 : decode cX8_digest 75 = .ok (.lload_n 1, 1) := by decide +kernel
theorem dX8_digest_76 : decode cX8_digest 76 = .ok (.lmul, 1) := by decide +kernel
theorem dX8_digest_77 : decode cX8_digest 77 = .ok (.aload_n 0, 1) := by decide +kernel
theorem dX8_digest_78 : decode cX8_digest 78 = .ok (.getfield 7, 3) := by decide +kernel
theorem dX8_digest_81 : decode cX8_digest 81 = .ok (.bipush 10, 2) := by decide +kernel
theorem dX8_digest_83 : decode cX8_digest 83 = .ok (.iload_n 3, 1) := by decide +kernel
theorem dX8_digest_84 : decode cX8_digest 84 = .ok (.iadd, 1) := by decide +kernel
theorem dX8_digest_85 : decode cX8_digest 85 = .ok (.iaload, 1) := by decide +kernel
theorem dX8_digest_86 : decode cX8_digest 86 = .ok (.i2l, 1) := by decide +kernel
theorem dX8_digest_87 : decode cX8_digest 87 = .ok (.ladd, 1) := by decide +kernel
theorem dX8_digest_88 : decode cX8_digest 88 = .ok (.lstore_n 1, 1) := by decide +kernel
theorem dX8_digest_89 : decode cX8_digest 89 = .ok (.iinc 3 1, 3) := by decide +kernel
theorem dX8_digest_92 : decode cX8_digest 92 = .ok (.goto (-26), 3) := by decide +kernel
theorem dX8_digest_95 : decode cX8_digest 95 = .ok (.iconst 0, 1) := by decide +kernel
theorem dX8_digest_96 : decode cX8_digest 96 = .ok (.istore_n 3, 1) := by decide +kernel
theorem dX8_digest_97 : decode cX8_digest 97 = .ok (.iload_n 3, 1) := by decide +kernel
theorem dX8_digest_98 : decode cX8_digest 98 = .ok (.aload_n 0, 1) := by decide +kernel
theorem dX8_digest_99 : decode cX8_digest 99 = .ok (.getfield 7, 3) := by decide +kernel
theorem dX8_digest_102 : decode cX8_digest 102 = .ok (.iconst 1, 1) := by decide +kernel
theorem dX8_digest_103 : decode cX8_digest 103 = .ok (.iaload, 1) := by decide +kernel
theorem dX8_digest_104 : decode cX8_digest 104 = .ok (.if_icmp .ge 53, 3) := by decide +kernel
theorem dX8_digest_107 : decode cX8_digest 107 = .ok (.iconst 0, 1) := by decide +kernel
theorem dX8_digest_108 : decode cX8_digest 108 = .ok (.istore 4, 2) := by decide +kernel
theorem dX8_digest_110 : decode cX8_digest 110 = .ok (.iload 4, 2) := by decide +kernel
theorem dX8_digest_112 : decode cX8_digest 112 = .ok (.bipush 8, 2) := by decide +kernel
theorem dX8_digest_114 : decode cX8_digest 114 = .ok (.if_icmp .ge 24, 3) := by decide +kernel
theorem dX8_digest_117 : decode cX8_digest 117 = .ok (.ldc2_w 250, 3) := by decide +kernel
theorem dX8_digest_120 : decode cX8_digest 120 = .ok (.lload_n 1, 1) := by decide +kernel
theorem dX8_digest_121 : decode cX8_digest 121 = .ok (.lmul, 1) := by decide +kernel
theorem dX8_digest_122 : decode cX8_digest 122 = .ok (.aload_n 0, 1) := by decide +kernel
theorem dX8_digest_123 : decode cX8_digest 123 = .ok (.iload_n 3, 1) := by decide +kernel
theorem dX8_digest_124 : decode cX8_digest 124 = .ok (.iload 4, 2) := by decide +kernel
theorem dX8_digest_126 : decode cX8_digest 126 = .ok (.invokevirtual 213, 3) := by decide +kernel
theorem dX8_digest_129 : decode cX8_digest 129 = .ok (.i2l, 1) := by decide +kernel
theorem dX8_digest_130 : decode cX8_digest 130 = .ok (.ladd, 1) := by decide +kernel
theorem dX8_digest_131 : decode cX8_digest 131 = .ok (.lstore_n 1, 1) := by decide +kernel
theorem dX8_digest_132 : decode cX8_digest 132 = .ok (.iinc 4 1, 3) := by decide +kernel
theorem dX8_digest_135 : decode cX8_digest 135 = .ok (.goto (-25), 3) := by decide +kernel
theorem dX8_digest_138 : decode cX8_digest 138 = .ok (.ldc2_w 250, 3) := by decide +kernel
theorem dX8_digest_141 : decode cX8_digest 141 = .ok (.lload_n 1, 1) := by decide +kernel
theorem dX8_digest_142 : decode cX8_digest 142 = .ok (.lmul, 1) := by decide +kernel
theorem dX8_digest_143 : decode cX8_digest 143 = .ok (.aload_n 0, 1) := by decide +kernel
theorem dX8_digest_144 : decode cX8_digest 144 = .ok (.iload_n 3, 1) := by decide +kernel
theorem dX8_digest_145 : decode cX8_digest 145 = .ok (.invokevirtual 222, 3) := by decide +kernel
theorem dX8_digest_148 : decode cX8_digest 148 = .ok (.i2l, 1) := by decide +kernel
theorem dX8_digest_149 : decode cX8_digest 149 = .ok (.ladd, 1) := by decide +kernel
theorem dX8_digest_150 : decode cX8_digest 150 = .ok (.lstore_n 1, 1) := by decide +kernel
theorem dX8_digest_151 : decode cX8_digest 151 = .ok (.iinc 3 1, 3) := by decide +kernel
theorem dX8_digest_154 : decode cX8_digest 154 = .ok (.goto (-57), 3) := by decide +kernel
theorem dX8_digest_157 : decode cX8_digest 157 = .ok (.iconst 0, 1) := by decide +kernel
theorem dX8_digest_158 : decode cX8_digest 158 = .ok (.istore_n 3, 1) := by decide +kernel
theorem dX8_digest_159 : decode cX8_digest 159 = .ok (.iload_n 3, 1) := by decide +kernel
theorem dX8_digest_160 : decode cX8_digest 160 = .ok (.iconst 5, 1) := by decide +kernel
theorem dX8_digest_161 : decode cX8_digest 161 = .ok (.if_icmp .ge 30, 3) := by decide +kernel
theorem dX8_digest_164 : decode cX8_digest 164 = .ok (.aload_n 0, 1) := by decide +kernel
theorem dX8_digest_165 : decode cX8_digest 165 = .ok (.iload_n 3, 1) := by decide +kernel
theorem dX8_digest_166 : decode cX8_digest 166 = .ok (.iconst 0, 1) := by decide +kernel
theorem dX8_digest_167 : decode cX8_digest 167 = .ok (.invokevirtual 37, 3) := by decide +kernel
theorem dX8_digest_170 : decode cX8_digest 170 = .ok (.iconst 1, 1) := by decide +kernel
theorem dX8_digest_171 : decode cX8_digest 171 = .ok (.if_icmp .ne 12, 3) := by decide +kernel
theorem dX8_digest_174 : decode cX8_digest 174 = .ok (.aload_n 0, 1) := by decide +kernel
theorem dX8_digest_175 : decode cX8_digest 175 = .ok (.iload_n 3, 1) := by decide +kernel
theorem dX8_digest_176 : decode cX8_digest 176 = .ok (.lload_n 1, 1) := by decide +kernel
theorem dX8_digest_177 : decode cX8_digest 177 = .ok (.invokevirtual 252, 3) := by decide +kernel
theorem dX8_digest_180 : decode cX8_digest 180 = .ok (.goto 4, 3) := by decide +kernel
theorem dX8_digest_183 : decode cX8_digest 183 = .ok (.lload_n 1, 1) := by decide +kernel
theorem dX8_digest_184 : decode cX8_digest 184 = .ok (.lstore_n 1, 1) := by decide +kernel
theorem dX8_digest_185 : decode cX8_digest 185 = .ok (.iinc 3 1, 3) := by decide +kernel
theorem dX8_digest_188 : decode cX8_digest 188 = .ok (.goto (-29), 3) := by decide +kernel
theorem dX8_digest_191 : decode cX8_digest 191 = .ok (.ldc2_w 250, 3) := by decide +kernel
theorem dX8_digest_194 : decode cX8_digest 194 = .ok (.lload_n 1, 1) := by decide +kernel
theorem dX8_digest_195 : decode cX8_digest 195 = .ok (.lmul, 1) := by decide +kernel
theorem dX8_digest_196 : decode cX8_digest 196 = .ok (.aload_n 0, 1) := by decide +kernel
theorem dX8_digest_197 : decode cX8_digest 197 = .ok (.invokevirtual 228, 3) := by decide +kernel
theorem dX8_digest_200 : decode cX8_digest 200 = .ok (.i2l, 1) := by decide +kernel
theorem dX8_digest_201 : decode cX8_digest 201 = .ok (.ladd, 1) := by decide +kernel
theorem dX8_digest_202 : decode cX8_digest 202 = .ok (.lstore_n 1, 1) := by decide +kernel
theorem dX8_digest_203 : decode cX8_digest 203 = .ok (.ldc2_w 250, 3) := by decide +kernel
theorem dX8_digest_206 : decode cX8_digest 206 = .ok (.lload_n 1, 1) := by decide +kernel
theorem dX8_digest_207 : decode cX8_digest 207 = .ok (.lmul, 1) := by decide +kernel
theorem dX8_digest_208 : decode cX8_digest 208 = .ok (.aload_n 0, 1) := by decide +kernel
theorem dX8_digest_209 : decode cX8_digest 209 = .ok (.invokevirtual 116, 3) := by decide +kernel
theorem dX8_digest_212 : decode cX8_digest 212 = .ok (.i2l, 1) := by decide +kernel
theorem dX8_digest_213 : decode cX8_digest 213 = .ok (.ladd, 1) := by decide +kernel
theorem dX8_digest_214 : decode cX8_digest 214 = .ok (.lstore_n 1, 1) := by decide +kernel
theorem dX8_digest_215 : decode cX8_digest 215 = .ok (.ldc2_w 250, 3) := by decide +kernel
theorem dX8_digest_218 : decode cX8_digest 218 = .ok (.lload_n 1, 1) := by decide +kernel
theorem dX8_digest_219 : decode cX8_digest 219 = .ok (.lmul, 1) := by decide +kernel
theorem dX8_digest_220 : decode cX8_digest 220 = .ok (.aload_n 0, 1) := by decide +kernel
theorem dX8_digest_221 : decode cX8_digest 221 = .ok (.iconst 1, 1) := by decide +kernel
theorem dX8_digest_222 : decode cX8_digest 222 = .ok (.invokevirtual 161, 3) := by decide +kernel
theorem dX8_digest_225 : decode cX8_digest 225 = .ok (.i2l, 1) := by decide +kernel
theorem dX8_digest_226 : decode cX8_digest 226 = .ok (.ladd, 1) := by decide +kernel
theorem dX8_digest_227 : decode cX8_digest 227 = .ok (.lstore_n 1, 1) := by decide +kernel
theorem dX8_digest_228 : decode cX8_digest 228 = .ok (.ldc2_w 250, 3) := by decide +kernel
theorem dX8_digest_231 : decode cX8_digest 231 = .ok (.lload_n 1, 1) := by decide +kernel
theorem dX8_digest_232 : decode cX8_digest 232 = .ok (.lmul, 1) := by decide +kernel
theorem dX8_digest_233 : decode cX8_digest 233 = .ok (.aload_n 0, 1) := by decide +kernel
theorem dX8_digest_234 : decode cX8_digest 234 = .ok (.invokevirtual 237, 3) := by decide +kernel
theorem dX8_digest_237 : decode cX8_digest 237 = .ok (.i2l, 1) := by decide +kernel
theorem dX8_digest_238 : decode cX8_digest 238 = .ok (.ladd, 1) := by decide +kernel
theorem dX8_digest_239 : decode cX8_digest 239 = .ok (.lstore_n 1, 1) := by decide +kernel
theorem dX8_digest_240 : decode cX8_digest 240 = .ok (.ldc2_w 250, 3) := by decide +kernel
theorem dX8_digest_243 : decode cX8_digest 243 = .ok (.lload_n 1, 1) := by decide +kernel
theorem dX8_digest_244 : decode cX8_digest 244 = .ok (.lmul, 1) := by decide +kernel
theorem dX8_digest_245 : decode cX8_digest 245 = .ok (.aload_n 0, 1) := by decide +kernel
theorem dX8_digest_246 : decode cX8_digest 246 = .ok (.invokevirtual 240, 3) := by decide +kernel
theorem dX8_digest_249 : decode cX8_digest 249 = .ok (.invokestatic 256, 3) := by decide +kernel
theorem dX8_digest_252 : decode cX8_digest 252 = .ok (.ladd, 1) := by decide +kernel
theorem dX8_digest_253 : decode cX8_digest 253 = .ok (.lstore_n 1, 1) := by decide +kernel
theorem dX8_digest_254 : decode cX8_digest 254 = .ok (.ldc2_w 250, 3) := by decide +kernel
theorem dX8_digest_257 : decode cX8_digest 257 = .ok (.lload_n 1, 1) := by decide +kernel
theorem dX8_digest_258 : decode cX8_digest 258 = .ok (.lmul, 1) := by decide +kernel
theorem dX8_digest_259 : decode cX8_digest 259 = .ok (.aload_n 0, 1) := by decide +kernel
theorem dX8_digest_260 : decode cX8_digest 260 = .ok (.invokevirtual 244, 3) := by decide +kernel
theorem dX8_digest_263 : decode cX8_digest 263 = .ok (.invokestatic 262, 3) := by decide +kernel
theorem dX8_digest_266 : decode cX8_digest 266 = .ok (.i2l, 1) := by decide +kernel
theorem dX8_digest_267 : decode cX8_digest 267 = .ok (.ladd, 1) := by decide +kernel
theorem dX8_digest_268 : decode cX8_digest 268 = .ok (.lstore_n 1, 1) := by decide +kernel
theorem dX8_digest_269 : decode cX8_digest 269 = .ok (.ldc2_w 250, 3) := by decide +kernel
theorem dX8_digest_272 : decode cX8_digest 272 = .ok (.lload_n 1, 1) := by decide +kernel
theorem dX8_digest_273 : decode cX8_digest 273 = .ok (.lmul, 1) := by decide +kernel
theorem dX8_digest_274 : decode cX8_digest 274 = .ok (.aload_n 0, 1) := by decide +kernel
theorem dX8_digest_275 : decode cX8_digest 275 = .ok (.getfield 75, 3) := by decide +kernel
theorem dX8_digest_278 : decode cX8_digest 278 = .ok (.ifCond .eq 7, 3) := by decide +kernel
theorem dX8_digest_281 : decode cX8_digest 281 = .ok (.iconst 1, 1) := by decide +kernel
theorem dX8_digest_282 : decode cX8_digest 282 = .ok (.goto 4, 3) := by decide +kernel
theorem dX8_digest_285 : decode cX8_digest 285 = .ok (.iconst 0, 1) := by decide +kernel
theorem dX8_digest_286 : decode cX8_digest 286 = .ok (.i2l, 1) := by decide +kernel
theorem dX8_digest_287 : decode cX8_digest 287 = .ok (.ladd, 1) := by decide +kernel
theorem dX8_digest_288 : decode cX8_digest 288 = .ok (.lstore_n 1, 1) := by decide +kernel
theorem dX8_digest_289 : decode cX8_digest 289 = .ok (.ldc2_w 250, 3) := by decide +kernel
theorem dX8_digest_292 : decode cX8_digest 292 = .ok (.lload_n 1, 1) := by decide +kernel
theorem dX8_digest_293 : decode cX8_digest 293 = .ok (.lmul, 1) := by decide +kernel
theorem dX8_digest_294 : decode cX8_digest 294 = .ok (.aload_n 0, 1) := by decide +kernel
theorem dX8_digest_295 : decode cX8_digest 295 = .ok (.getfield 179, 3) := by decide +kernel
theorem dX8_digest_298 : decode cX8_digest 298 = .ok (.i2l, 1) := by decide +kernel
theorem dX8_digest_299 : decode cX8_digest 299 = .ok (.ladd, 1) := by decide +kernel
theorem dX8_digest_300 : decode cX8_digest 300 = .ok (.lstore_n 1, 1) := by decide +kernel
theorem dX8_digest_301 : decode cX8_digest 301 = .ok (.iconst 0, 1) := by decide +kernel
theorem dX8_digest_302 : decode cX8_digest 302 = .ok (.istore_n 3, 1) := by decide +kernel
theorem dX8_digest_303 : decode cX8_digest 303 = .ok (.iload_n 3, 1) := by decide +kernel
theorem dX8_digest_304 : decode cX8_digest 304 = .ok (.aload_n 0, 1) := by decide +kernel
theorem dX8_digest_305 : decode cX8_digest 305 = .ok (.getfield 179, 3) := by decide +kernel
theorem dX8_digest_308 : decode cX8_digest 308 = .ok (.if_icmp .ge 23, 3) := by decide +kernel
theorem dX8_digest_311 : decode cX8_digest 311 = .ok (.ldc2_w 250, 3) := by decide +kernel
theorem dX8_digest_314 : decode cX8_digest 314 = .ok (.lload_n 1, 1) := by decide +kernel
theorem dX8_digest_315 : decode cX8_digest 315 = .ok (.lmul, 1) := by decide +kernel
theorem dX8_digest_316 : decode cX8_digest 316 = .ok (.aload_n 0, 1) := by decide +kernel
theorem dX8_digest_317 : decode cX8_digest 317 = .ok (.getfield 19, 3) := by decide +kernel
theorem dX8_digest_320 : decode cX8_digest 320 = .ok (.iload_n 3, 1) := by decide +kernel
theorem dX8_digest_321 : decode cX8_digest 321 = .ok (.iaload, 1) := by decide +kernel
theorem dX8_digest_322 : decode cX8_digest 322 = .ok (.i2l, 1) := by decide +kernel
theorem dX8_digest_323 : decode cX8_digest 323 = .ok (.ladd, 1) := by decide +kernel
theorem dX8_digest_324 : decode cX8_digest 324 = .ok (.lstore_n 1, 1) := by decide +kernel
theorem dX8_digest_325 : decode cX8_digest 325 = .ok (.iinc 3 1, 3) := by decide +kernel
theorem dX8_digest_328 : decode cX8_digest 328 = .ok (.goto (-25), 3) := by decide +kernel
theorem dX8_digest_331 : decode cX8_digest 331 = .ok (.lload_n 1, 1) := by decide +kernel
theorem dX8_digest_332 : decode cX8_digest 332 = .ok (.lreturn, 1) := by decide +kernel
theorem dX8_digestOf_0 : decode cX8_digestOf 0 = .ok (.lload_n 2, 1) := by decide +kernel
theorem dX8_digestOf_1 : decode cX8_digestOf 1 = .ok (.lstore 4, 2) := by decide +kernel
theorem dX8_digestOf_3 : decode cX8_digestOf 3 = .ok (.iconst 0, 1) := by decide +kernel
theorem dX8_digestOf_4 : decode cX8_digestOf 4 = .ok (.istore 6, 2) := by decide +kernel
theorem dX8_digestOf_6 : decode cX8_digestOf 6 = .ok (.iload 6, 2) := by decide +kernel
theorem dX8_digestOf_8 : decode cX8_digestOf 8 = .ok (.bipush 8, 2) := by decide +kernel
theorem dX8_digestOf_10 : decode cX8_digestOf 10 = .ok (.if_icmp .ge 26, 3) := by decide +kernel
theorem dX8_digestOf_13 : decode cX8_digestOf 13 = .ok (.ldc2_w 250, 3) := by decide +kernel
theorem dX8_digestOf_16 : decode cX8_digestOf 16 = .ok (.lload 4, 2) := by decide +kernel
theorem dX8_digestOf_18 : decode cX8_digestOf 18 = .ok (.lmul, 1) := by decide +kernel
theorem dX8_digestOf_19 : decode cX8_digestOf 19 = .ok (.aload_n 0, 1) := by decide +kernel
theorem dX8_digestOf_20 : decode cX8_digestOf 20 = .ok (.iload_n 1, 1) := by decide +kernel
theorem dX8_digestOf_21 : decode cX8_digestOf 21 = .ok (.iload 6, 2) := by decide +kernel
theorem dX8_digestOf_23 : decode cX8_digestOf 23 = .ok (.invokevirtual 216, 3) := by decide +kernel
theorem dX8_digestOf_26 : decode cX8_digestOf 26 = .ok (.i2l, 1) := by decide +kernel
theorem dX8_digestOf_27 : decode cX8_digestOf 27 = .ok (.ladd, 1) := by decide +kernel
theorem dX8_digestOf_28 : decode cX8_digestOf 28 = .ok (.lstore 4, 2) := by decide +kernel
theorem dX8_digestOf_30 : decode cX8_digestOf 30 = .ok (.iinc 6 1, 3) := by decide +kernel
theorem dX8_digestOf_33 : decode cX8_digestOf 33 = .ok (.goto (-27), 3) := by decide +kernel
theorem dX8_digestOf_36 : decode cX8_digestOf 36 = .ok (.iconst 0, 1) := by decide +kernel
theorem dX8_digestOf_37 : decode cX8_digestOf 37 = .ok (.istore 6, 2) := by decide +kernel
theorem dX8_digestOf_39 : decode cX8_digestOf 39 = .ok (.iload 6, 2) := by decide +kernel
theorem dX8_digestOf_41 : decode cX8_digestOf 41 = .ok (.iconst 3, 1) := by decide +kernel
theorem dX8_digestOf_42 : decode cX8_digestOf 42 = .ok (.if_icmp .ge 60, 3) := by decide +kernel
theorem dX8_digestOf_45 : decode cX8_digestOf 45 = .ok (.iconst 0, 1) := by decide +kernel
theorem dX8_digestOf_46 : decode cX8_digestOf 46 = .ok (.istore 7, 2) := by decide +kernel
theorem dX8_digestOf_48 : decode cX8_digestOf 48 = .ok (.iload 7, 2) := by decide +kernel
theorem dX8_digestOf_50 : decode cX8_digestOf 50 = .ok (.iconst 3, 1) := by decide +kernel
theorem dX8_digestOf_51 : decode cX8_digestOf 51 = .ok (.if_icmp .ge 28, 3) := by decide +kernel
theorem dX8_digestOf_54 : decode cX8_digestOf 54 = .ok (.ldc2_w 250, 3) := by decide +kernel
theorem dX8_digestOf_57 : decode cX8_digestOf 57 = .ok (.lload 4, 2) := by decide +kernel
theorem dX8_digestOf_59 : decode cX8_digestOf 59 = .ok (.lmul, 1) := by decide +kernel
theorem dX8_digestOf_60 : decode cX8_digestOf 60 = .ok (.aload_n 0, 1) := by decide +kernel
theorem dX8_digestOf_61 : decode cX8_digestOf 61 = .ok (.iload_n 1, 1) := by decide +kernel
theorem dX8_digestOf_62 : decode cX8_digestOf 62 = .ok (.iload 6, 2) := by decide +kernel
theorem dX8_digestOf_64 : decode cX8_digestOf 64 = .ok (.iload 7, 2) := by decide +kernel
theorem dX8_digestOf_66 : decode cX8_digestOf 66 = .ok (.invokevirtual 52, 3) := by decide +kernel
theorem dX8_digestOf_69 : decode cX8_digestOf 69 = .ok (.i2l, 1) := by decide +kernel
theorem dX8_digestOf_70 : decode cX8_digestOf 70 = .ok (.ladd, 1) := by decide +kernel
theorem dX8_digestOf_71 : decode cX8_digestOf 71 = .ok (.lstore 4, 2) := by decide +kernel
theorem dX8_digestOf_73 : decode cX8_digestOf 73 = .ok (.iinc 7 1, 3) := by decide +kernel
theorem dX8_digestOf_76 : decode cX8_digestOf 76 = .ok (.goto (-28), 3) := by decide +kernel
theorem dX8_digestOf_79 : decode cX8_digestOf 79 = .ok (.ldc2_w 250, 3) := by decide +kernel
theorem dX8_digestOf_82 : decode cX8_digestOf 82 = .ok (.lload 4, 2) := by decide +kernel
theorem dX8_digestOf_84 : decode cX8_digestOf 84 = .ok (.lmul, 1) := by decide +kernel
theorem dX8_digestOf_85 : decode cX8_digestOf 85 = .ok (.aload_n 0, 1) := by decide +kernel
theorem dX8_digestOf_86 : decode cX8_digestOf 86 = .ok (.iload_n 1, 1) := by decide +kernel
theorem dX8_digestOf_87 : decode cX8_digestOf 87 = .ok (.iload 6, 2) := by decide +kernel
theorem dX8_digestOf_89 : decode cX8_digestOf 89 = .ok (.invokevirtual 231, 3) := by decide +kernel
theorem dX8_digestOf_92 : decode cX8_digestOf 92 = .ok (.i2l, 1) := by decide +kernel
theorem dX8_digestOf_93 : decode cX8_digestOf 93 = .ok (.ladd, 1) := by decide +kernel
theorem dX8_digestOf_94 : decode cX8_digestOf 94 = .ok (.lstore 4, 2) := by decide +kernel
theorem dX8_digestOf_96 : decode cX8_digestOf 96 = .ok (.iinc 6 1, 3) := by decide +kernel
theorem dX8_digestOf_99 : decode cX8_digestOf 99 = .ok (.goto (-60), 3) := by decide +kernel
theorem dX8_digestOf_102 : decode cX8_digestOf 102 = .ok (.aload_n 0, 1) := by decide +kernel
theorem dX8_digestOf_103 : decode cX8_digestOf 103 = .ok (.iload_n 1, 1) := by decide +kernel
theorem dX8_digestOf_104 : decode cX8_digestOf 104 = .ok (.invokevirtual 155, 3) := by decide +kernel
theorem dX8_digestOf_107 : decode cX8_digestOf 107 = .ok (.istore 6, 2) := by decide +kernel
theorem dX8_digestOf_109 : decode cX8_digestOf 109 = .ok (.iconst 0, 1) := by decide +kernel
theorem dX8_digestOf_110 : decode cX8_digestOf 110 = .ok (.istore 7, 2) := by decide +kernel
theorem dX8_digestOf_112 : decode cX8_digestOf 112 = .ok (.iload 7, 2) := by decide +kernel
theorem dX8_digestOf_114 : decode cX8_digestOf 114 = .ok (.iload 6, 2) := by decide +kernel
theorem dX8_digestOf_116 : decode cX8_digestOf 116 = .ok (.if_icmp .ge 26, 3) := by decide +kernel
theorem dX8_digestOf_119 : decode cX8_digestOf 119 = .ok (.ldc2_w 250, 3) := by decide +kernel
theorem dX8_digestOf_122 : decode cX8_digestOf 122 = .ok (.lload 4, 2) := by decide +kernel
theorem dX8_digestOf_124 : decode cX8_digestOf 124 = .ok (.lmul, 1) := by decide +kernel
theorem dX8_digestOf_125 : decode cX8_digestOf 125 = .ok (.aload_n 0, 1) := by decide +kernel
theorem dX8_digestOf_126 : decode cX8_digestOf 126 = .ok (.iload_n 1, 1) := by decide +kernel
theorem dX8_digestOf_127 : decode cX8_digestOf 127 = .ok (.iload 7, 2) := by decide +kernel
theorem dX8_digestOf_129 : decode cX8_digestOf 129 = .ok (.invokevirtual 90, 3) := by decide +kernel
theorem dX8_digestOf_132 : decode cX8_digestOf 132 = .ok (.i2l, 1) := by decide +kernel
theorem dX8_digestOf_133 : decode cX8_digestOf 133 = .ok (.ladd, 1) := by decide +kernel
theorem dX8_digestOf_134 : decode cX8_digestOf 134 = .ok (.lstore 4, 2) := by decide +kernel
theorem dX8_digestOf_136 : decode cX8_digestOf 136 = .ok (.iinc 7 1, 3) := by decide +kernel
theorem dX8_digestOf_139 : decode cX8_digestOf 139 = .ok (.goto (-27), 3) := by decide +kernel
theorem dX8_digestOf_142 : decode cX8_digestOf 142 = .ok (.ldc2_w 250, 3) := by decide +kernel
theorem dX8_digestOf_145 : decode cX8_digestOf 145 = .ok (.lload 4, 2) := by decide +kernel
theorem dX8_digestOf_147 : decode cX8_digestOf 147 = .ok (.lmul, 1) := by decide +kernel
theorem dX8_digestOf_148 : decode cX8_digestOf 148 = .ok (.aload_n 0, 1) := by decide +kernel
theorem dX8_digestOf_149 : decode cX8_digestOf 149 = .ok (.iload_n 1, 1) := by decide +kernel
theorem dX8_digestOf_150 : decode cX8_digestOf 150 = .ok (.iconst 0, 1) := by decide +kernel
theorem dX8_digestOf_151 : decode cX8_digestOf 151 = .ok (.invokevirtual 225, 3) := by decide +kernel
theorem dX8_digestOf_154 : decode cX8_digestOf 154 = .ok (.i2l, 1) := by decide +kernel
theorem dX8_digestOf_155 : decode cX8_digestOf 155 = .ok (.ladd, 1) := by decide +kernel
theorem dX8_digestOf_156 : decode cX8_digestOf 156 = .ok (.lstore 4, 2) := by decide +kernel
theorem dX8_digestOf_158 : decode cX8_digestOf 158 = .ok (.ldc2_w 250, 3) := by decide +kernel
theorem dX8_digestOf_161 : decode cX8_digestOf 161 = .ok (.lload 4, 2) := by decide +kernel
theorem dX8_digestOf_163 : decode cX8_digestOf 163 = .ok (.lmul, 1) := by decide +kernel
theorem dX8_digestOf_164 : decode cX8_digestOf 164 = .ok (.aload_n 0, 1) := by decide +kernel
theorem dX8_digestOf_165 : decode cX8_digestOf 165 = .ok (.iload_n 1, 1) := by decide +kernel
theorem dX8_digestOf_166 : decode cX8_digestOf 166 = .ok (.iconst 1, 1) := by decide +kernel
theorem dX8_digestOf_167 : decode cX8_digestOf 167 = .ok (.invokevirtual 225, 3) := by decide +kernel
theorem dX8_digestOf_170 : decode cX8_digestOf 170 = .ok (.i2l, 1) := by decide +kernel
theorem dX8_digestOf_171 : decode cX8_digestOf 171 = .ok (.ladd, 1) := by decide +kernel
theorem dX8_digestOf_172 : decode cX8_digestOf 172 = .ok (.lstore 4, 2) := by decide +kernel
theorem dX8_digestOf_174 : decode cX8_digestOf 174 = .ok (.ldc2_w 250, 3) := by decide +kernel
theorem dX8_digestOf_177 : decode cX8_digestOf 177 = .ok (.lload 4, 2) := by decide +kernel
theorem dX8_digestOf_179 : decode cX8_digestOf 179 = .ok (.lmul, 1) := by decide +kernel
theorem dX8_digestOf_180 : decode cX8_digestOf 180 = .ok (.aload_n 0, 1) := by decide +kernel
theorem dX8_digestOf_181 : decode cX8_digestOf 181 = .ok (.iload_n 1, 1) := by decide +kernel
theorem dX8_digestOf_182 : decode cX8_digestOf 182 = .ok (.invokevirtual 234, 3) := by decide +kernel
theorem dX8_digestOf_185 : decode cX8_digestOf 185 = .ok (.i2l, 1) := by decide +kernel
theorem dX8_digestOf_186 : decode cX8_digestOf 186 = .ok (.ladd, 1) := by decide +kernel
theorem dX8_digestOf_187 : decode cX8_digestOf 187 = .ok (.lreturn, 1) := by decide +kernel
