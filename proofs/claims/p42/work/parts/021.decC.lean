theorem dX0_init_0 : decode cX0_init 0 = .ok (.aload_n 0, 1) := by decide +kernel
theorem dX0_init_1 : decode cX0_init 1 = .ok (.invokespecial 3, 3) := by decide +kernel
theorem dX0_init_4 : decode cX0_init 4 = .ok (.aload_n 0, 1) := by decide +kernel
theorem dX0_init_5 : decode cX0_init 5 = .ok (.new 9, 3) := by decide +kernel
theorem dX0_init_8 : decode cX0_init 8 = .ok (.dup, 1) := by decide +kernel
theorem dX0_init_9 : decode cX0_init 9 = .ok (.iconst 5, 1) := by decide +kernel
theorem dX0_init_10 : decode cX0_init 10 = .ok (.invokespecial 11, 3) := by decide +kernel
theorem dX0_init_13 : decode cX0_init 13 = .ok (.putfield 14, 3) := by decide +kernel
theorem dX0_init_16 : decode cX0_init 16 = .ok (.aload_n 0, 1) := by decide +kernel
theorem dX0_init_17 : decode cX0_init 17 = .ok (.new 9, 3) := by decide +kernel
theorem dX0_init_20 : decode cX0_init 20 = .ok (.dup, 1) := by decide +kernel
theorem dX0_init_21 : decode cX0_init 21 = .ok (.iconst 5, 1) := by decide +kernel
theorem dX0_init_22 : decode cX0_init 22 = .ok (.invokespecial 11, 3) := by decide +kernel
theorem dX0_init_25 : decode cX0_init 25 = .ok (.putfield 20, 3) := by decide +kernel
theorem dX0_init_28 : decode cX0_init 28 = .ok (.aload_n 0, 1) := by decide +kernel
theorem dX0_init_29 : decode cX0_init 29 = .ok (.new 9, 3) := by decide +kernel
theorem dX0_init_32 : decode cX0_init 32 = .ok (.dup, 1) := by decide +kernel
theorem dX0_init_33 : decode cX0_init 33 = .ok (.iconst 5, 1) := by decide +kernel
theorem dX0_init_34 : decode cX0_init 34 = .ok (.invokespecial 11, 3) := by decide +kernel
theorem dX0_init_37 : decode cX0_init 37 = .ok (.putfield 23, 3) := by decide +kernel
theorem dX0_init_40 : decode cX0_init 40 = .ok (.aload_n 0, 1) := by decide +kernel
theorem dX0_init_41 : decode cX0_init 41 = .ok (.new 9, 3) := by decide +kernel
theorem dX0_init_44 : decode cX0_init 44 = .ok (.dup, 1) := by decide +kernel
theorem dX0_init_45 : decode cX0_init 45 = .ok (.iconst 5, 1) := by decide +kernel
theorem dX0_init_46 : decode cX0_init 46 = .ok (.invokespecial 11, 3) := by decide +kernel
theorem dX0_init_49 : decode cX0_init 49 = .ok (.putfield 26, 3) := by decide +kernel
theorem dX0_init_52 : decode cX0_init 52 = .ok (.aload_n 0, 1) := by decide +kernel
theorem dX0_init_53 : decode cX0_init 53 = .ok (.new 9, 3) := by decide +kernel
theorem dX0_init_56 : decode cX0_init 56 = .ok (.dup, 1) := by decide +kernel
theorem dX0_init_57 : decode cX0_init 57 = .ok (.iconst 5, 1) := by decide +kernel
theorem dX0_init_58 : decode cX0_init 58 = .ok (.invokespecial 11, 3) := by decide +kernel
theorem dX0_init_61 : decode cX0_init 61 = .ok (.putfield 29, 3) := by decide +kernel
theorem dX0_init_64 : decode cX0_init 64 = .ok (.aload_n 0, 1) := by decide +kernel
theorem dX0_init_65 : decode cX0_init 65 = .ok (.new 9, 3) := by decide +kernel
theorem dX0_init_68 : decode cX0_init 68 = .ok (.dup, 1) := by decide +kernel
theorem dX0_init_69 : decode cX0_init 69 = .ok (.iconst 5, 1) := by decide +kernel
theorem dX0_init_70 : decode cX0_init 70 = .ok (.invokespecial 11, 3) := by decide +kernel
theorem dX0_init_73 : decode cX0_init 73 = .ok (.putfield 32, 3) := by decide +kernel
theorem dX0_init_76 : decode cX0_init 76 = .ok (.aload_n 0, 1) := by decide +kernel
theorem dX0_init_77 : decode cX0_init 77 = .ok (.new 9, 3) := by decide +kernel
theorem dX0_init_80 : decode cX0_init 80 = .ok (.dup, 1) := by decide +kernel
theorem dX0_init_81 : decode cX0_init 81 = .ok (.sipush 600, 3) := by decide +kernel
theorem dX0_init_84 : decode cX0_init 84 = .ok (.invokespecial 11, 3) := by decide +kernel
theorem dX0_init_87 : decode cX0_init 87 = .ok (.putfield 35, 3) := by decide +kernel
theorem dX0_init_90 : decode cX0_init 90 = .ok (.aload_n 0, 1) := by decide +kernel
theorem dX0_init_91 : decode cX0_init 91 = .ok (.getfield 20, 3) := by decide +kernel
theorem dX0_init_94 : decode cX0_init 94 = .ok (.iconst (-1), 1) := by decide +kernel
theorem dX0_init_95 : decode cX0_init 95 = .ok (.invokevirtual 38, 3) := by decide +kernel
theorem dX0_init_98 : decode cX0_init 98 = .ok (.aload_n 0, 1) := by decide +kernel
theorem dX0_init_99 : decode cX0_init 99 = .ok (.getfield 14, 3) := by decide +kernel
theorem dX0_init_102 : decode cX0_init 102 = .ok (.iconst 0, 1) := by decide +kernel
theorem dX0_init_103 : decode cX0_init 103 = .ok (.iconst 1, 1) := by decide +kernel
theorem dX0_init_104 : decode cX0_init 104 = .ok (.invokevirtual 41, 3) := by decide +kernel
theorem dX0_init_107 : decode cX0_init 107 = .ok (.aload_n 0, 1) := by decide +kernel
theorem dX0_init_108 : decode cX0_init 108 = .ok (.getfield 14, 3) := by decide +kernel
theorem dX0_init_111 : decode cX0_init 111 = .ok (.iconst 1, 1) := by decide +kernel
theorem dX0_init_112 : decode cX0_init 112 = .ok (.iconst 1, 1) := by decide +kernel
theorem dX0_init_113 : decode cX0_init 113 = .ok (.invokevirtual 41, 3) := by decide +kernel
theorem dX0_init_116 : decode cX0_init 116 = .ok (.return_, 1) := by decide +kernel
theorem dX0_isHere_0 : decode cX0_isHere 0 = .ok (.aload_n 0, 1) := by decide +kernel
theorem dX0_isHere_1 : decode cX0_isHere 1 = .ok (.getfield 14, 3) := by decide +kernel
theorem dX0_isHere_4 : decode cX0_isHere 4 = .ok (.iload_n 1, 1) := by decide +kernel
theorem dX0_isHere_5 : decode cX0_isHere 5 = .ok (.invokevirtual 45, 3) := by decide +kernel
theorem dX0_isHere_8 : decode cX0_isHere 8 = .ok (.iconst 1, 1) := by decide +kernel
theorem dX0_isHere_9 : decode cX0_isHere 9 = .ok (.if_icmp .ne 7, 3) := by decide +kernel
theorem dX0_isHere_12 : decode cX0_isHere 12 = .ok (.iconst 1, 1) := by decide +kernel
theorem dX0_isHere_13 : decode cX0_isHere 13 = .ok (.goto 4, 3) := by decide +kernel
theorem dX0_isHere_16 : decode cX0_isHere 16 = .ok (.iconst 0, 1) := by decide +kernel
theorem dX0_isHere_17 : decode cX0_isHere 17 = .ok (.ireturn, 1) := by decide +kernel
theorem dX0_isInYard_0 : decode cX0_isInYard 0 = .ok (.aload_n 0, 1) := by decide +kernel
theorem dX0_isInYard_1 : decode cX0_isInYard 1 = .ok (.getfield 20, 3) := by decide +kernel
theorem dX0_isInYard_4 : decode cX0_isInYard 4 = .ok (.iload_n 1, 1) := by decide +kernel
theorem dX0_isInYard_5 : decode cX0_isInYard 5 = .ok (.invokevirtual 45, 3) := by decide +kernel
theorem dX0_isInYard_8 : decode cX0_isInYard 8 = .ok (.iconst (-1), 1) := by decide +kernel
theorem dX0_isInYard_9 : decode cX0_isInYard 9 = .ok (.if_icmp .eq 7, 3) := by decide +kernel
theorem dX0_isInYard_12 : decode cX0_isInYard 12 = .ok (.iconst 1, 1) := by decide +kernel
theorem dX0_isInYard_13 : decode cX0_isInYard 13 = .ok (.goto 4, 3) := by decide +kernel
theorem dX0_isInYard_16 : decode cX0_isInYard 16 = .ok (.iconst 0, 1) := by decide +kernel
theorem dX0_isInYard_17 : decode cX0_isInYard 17 = .ok (.ireturn, 1) := by decide +kernel
theorem dX0_number_0 : decode cX0_number 0 = .ok (.aload_n 0, 1) := by decide +kernel
theorem dX0_number_1 : decode cX0_number 1 = .ok (.getfield 14, 3) := by decide +kernel
theorem dX0_number_4 : decode cX0_number 4 = .ok (.iconst 1, 1) := by decide +kernel
theorem dX0_number_5 : decode cX0_number 5 = .ok (.iconst 0, 1) := by decide +kernel
theorem dX0_number_6 : decode cX0_number 6 = .ok (.iconst 5, 1) := by decide +kernel
theorem dX0_number_7 : decode cX0_number 7 = .ok (.invokevirtual 49, 3) := by decide +kernel
theorem dX0_number_10 : decode cX0_number 10 = .ok (.ireturn, 1) := by decide +kernel
theorem dX0_numberInYard_0 : decode cX0_numberInYard 0 = .ok (.iconst 5, 1) := by decide +kernel
theorem dX0_numberInYard_1 : decode cX0_numberInYard 1 = .ok (.aload_n 0, 1) := by decide +kernel
theorem dX0_numberInYard_2 : decode cX0_numberInYard 2 = .ok (.getfield 20, 3) := by decide +kernel
theorem dX0_numberInYard_5 : decode cX0_numberInYard 5 = .ok (.iconst (-1), 1) := by decide +kernel
theorem dX0_numberInYard_6 : decode cX0_numberInYard 6 = .ok (.iconst 0, 1) := by decide +kernel
theorem dX0_numberInYard_7 : decode cX0_numberInYard 7 = .ok (.iconst 5, 1) := by decide +kernel
theorem dX0_numberInYard_8 : decode cX0_numberInYard 8 = .ok (.invokevirtual 49, 3) := by decide +kernel
theorem dX0_numberInYard_11 : decode cX0_numberInYard 11 = .ok (.isub, 1) := by decide +kernel
theorem dX0_numberInYard_12 : decode cX0_numberInYard 12 = .ok (.ireturn, 1) := by decide +kernel
theorem dX0_mask_0 : decode cX0_mask 0 = .ok (.iconst 0, 1) := by decide +kernel
theorem dX0_mask_1 : decode cX0_mask 1 = .ok (.istore_n 1, 1) := by decide +kernel
theorem dX0_mask_2 : decode cX0_mask 2 = .ok (.iconst 0, 1) := by decide +kernel
theorem dX0_mask_3 : decode cX0_mask 3 = .ok (.istore_n 2, 1) := by decide +kernel
theorem dX0_mask_4 : decode cX0_mask 4 = .ok (.iload_n 2, 1) := by decide +kernel
theorem dX0_mask_5 : decode cX0_mask 5 = .ok (.iconst 5, 1) := by decide +kernel
theorem dX0_mask_6 : decode cX0_mask 6 = .ok (.if_icmp .ge 27, 3) := by decide +kernel
theorem dX0_mask_9 : decode cX0_mask 9 = .ok (.iload_n 1, 1) := by decide +kernel
theorem dX0_mask_10 : decode cX0_mask 10 = .ok (.aload_n 0, 1) := by decide +kernel
theorem dX0_mask_11 : decode cX0_mask 11 = .ok (.iload_n 2, 1) := by decide +kernel
theorem dX0_mask_12 : decode cX0_mask 12 = .ok (.invokevirtual 53, 3) := by decide +kernel
theorem dX0_mask_15 : decode cX0_mask 15 = .ok (.ifCond .eq 9, 3) := by decide +kernel
theorem dX0_mask_18 : decode cX0_mask 18 = .ok (.iconst 1, 1) := by decide +kernel
theorem dX0_mask_19 : decode cX0_mask 19 = .ok (.iload_n 2, 1) := by decide +kernel
theorem dX0_mask_20 : decode cX0_mask 20 = .ok (.ishl, 1) := by decide +kernel
theorem dX0_mask_21 : decode cX0_mask 21 = .ok (.goto 4, 3) := by decide +kernel
theorem dX0_mask_24 : decode cX0_mask 24 = .ok (.iconst 0, 1) := by decide +kernel
theorem dX0_mask_25 : decode cX0_mask 25 = .ok (.ior, 1) := by decide +kernel
theorem dX0_mask_26 : decode cX0_mask 26 = .ok (.istore_n 1, 1) := by decide +kernel
theorem dX0_mask_27 : decode cX0_mask 27 = .ok (.iinc 2 1, 3) := by decide +kernel
theorem dX0_mask_30 : decode cX0_mask 30 = .ok (.goto (-26), 3) := by decide +kernel
theorem dX0_mask_33 : decode cX0_mask 33 = .ok (.iload_n 1, 1) := by decide +kernel
theorem dX0_mask_34 : decode cX0_mask 34 = .ok (.ireturn, 1) := by decide +kernel
theorem dX0_maskOfLate_0 : decode cX0_maskOfLate 0 = .ok (.iconst 0, 1) := by decide +kernel
theorem dX0_maskOfLate_1 : decode cX0_maskOfLate 1 = .ok (.istore_n 2, 1) := by decide +kernel
theorem dX0_maskOfLate_2 : decode cX0_maskOfLate 2 = .ok (.iconst 0, 1) := by decide +kernel
theorem dX0_maskOfLate_3 : decode cX0_maskOfLate 3 = .ok (.istore_n 3, 1) := by decide +kernel
theorem dX0_maskOfLate_4 : decode cX0_maskOfLate 4 = .ok (.iload_n 3, 1) := by decide +kernel
theorem dX0_maskOfLate_5 : decode cX0_maskOfLate 5 = .ok (.iconst 5, 1) := by decide +kernel
theorem dX0_maskOfLate_6 : decode cX0_maskOfLate 6 = .ok (.if_icmp .ge 39, 3) := by decide +kernel
theorem dX0_maskOfLate_9 : decode cX0_maskOfLate 9 = .ok (.iload_n 2, 1) := by decide +kernel
theorem dX0_maskOfLate_10 : decode cX0_maskOfLate 10 = .ok (.aload_n 0, 1) := by decide +kernel
theorem dX0_maskOfLate_11 : decode cX0_maskOfLate 11 = .ok (.iload_n 3, 1) := by decide +kernel
theorem dX0_maskOfLate_12 : decode cX0_maskOfLate 12 = .ok (.invokevirtual 57, 3) := by decide +kernel
theorem dX0_maskOfLate_15 : decode cX0_maskOfLate 15 = .ok (.ifCond .eq 21, 3) := by decide +kernel
theorem dX0_maskOfLate_18 : decode cX0_maskOfLate 18 = .ok (.aload_n 0, 1) := by decide +kernel
theorem dX0_maskOfLate_19 : decode cX0_maskOfLate 19 = .ok (.getfield 20, 3) := by decide +kernel
theorem dX0_maskOfLate_22 : decode cX0_maskOfLate 22 = .ok (.iload_n 3, 1) := by decide +kernel
theorem dX0_maskOfLate_23 : decode cX0_maskOfLate 23 = .ok (.invokevirtual 45, 3) := by decide +kernel
theorem dX0_maskOfLate_26 : decode cX0_maskOfLate 26 = .ok (.iload_n 1, 1) := by decide +kernel
theorem dX0_maskOfLate_27 : decode cX0_maskOfLate 27 = .ok (.if_icmp .eq 9, 3) := by decide +kernel
theorem dX0_maskOfLate_30 : decode cX0_maskOfLate 30 = .ok (.iconst 1, 1) := by decide +kernel
theorem dX0_maskOfLate_31 : decode cX0_maskOfLate 31 = .ok (.iload_n 3, 1) := by decide +kernel
theorem dX0_maskOfLate_32 : decode cX0_maskOfLate 32 = .ok (.ishl, 1) := by decide +kernel
theorem dX0_maskOfLate_33 : decode cX0_maskOfLate 33 = .ok (.goto 4, 3) := by decide +kernel
theorem dX0_maskOfLate_36 : decode cX0_maskOfLate 36 = .ok (.iconst 0, 1) := by decide +kernel
theorem dX0_maskOfLate_37 : decode cX0_maskOfLate 37 = .ok (.ior, 1) := by decide +kernel
theorem dX0_maskOfLate_38 : decode cX0_maskOfLate 38 = .ok (.istore_n 2, 1) := by decide +kernel
theorem dX0_maskOfLate_39 : decode cX0_maskOfLate 39 = .ok (.iinc 3 1, 3) := by decide +kernel
theorem dX0_maskOfLate_42 : decode cX0_maskOfLate 42 = .ok (.goto (-38), 3) := by decide +kernel
theorem dX0_maskOfLate_45 : decode cX0_maskOfLate 45 = .ok (.iload_n 2, 1) := by decide +kernel
theorem dX0_maskOfLate_46 : decode cX0_maskOfLate 46 = .ok (.ireturn, 1) := by decide +kernel
theorem dX0_lowestFree_0 : decode cX0_lowestFree 0 = .ok (.iconst 0, 1) := by decide +kernel
theorem dX0_lowestFree_1 : decode cX0_lowestFree 1 = .ok (.istore_n 1, 1) := by decide +kernel
theorem dX0_lowestFree_2 : decode cX0_lowestFree 2 = .ok (.iload_n 1, 1) := by decide +kernel
theorem dX0_lowestFree_3 : decode cX0_lowestFree 3 = .ok (.iconst 5, 1) := by decide +kernel
theorem dX0_lowestFree_4 : decode cX0_lowestFree 4 = .ok (.if_icmp .ge 19, 3) := by decide +kernel
theorem dX0_lowestFree_7 : decode cX0_lowestFree 7 = .ok (.aload_n 0, 1) := by decide +kernel
theorem dX0_lowestFree_8 : decode cX0_lowestFree 8 = .ok (.iload_n 1, 1) := by decide +kernel
theorem dX0_lowestFree_9 : decode cX0_lowestFree 9 = .ok (.invokevirtual 53, 3) := by decide +kernel
theorem dX0_lowestFree_12 : decode cX0_lowestFree 12 = .ok (.ifCond .ne 5, 3) := by decide +kernel
theorem dX0_lowestFree_15 : decode cX0_lowestFree 15 = .ok (.iload_n 1, 1) := by decide +kernel
theorem dX0_lowestFree_16 : decode cX0_lowestFree 16 = .ok (.ireturn, 1) := by decide +kernel
theorem dX0_lowestFree_17 : decode cX0_lowestFree 17 = .ok (.iinc 1 1, 3) := by decide +kernel
theorem dX0_lowestFree_20 : decode cX0_lowestFree 20 = .ok (.goto (-18), 3) := by decide +kernel
theorem dX0_lowestFree_23 : decode cX0_lowestFree 23 = .ok (.iconst (-1), 1) := by decide +kernel
theorem dX0_lowestFree_24 : decode cX0_lowestFree 24 = .ok (.ireturn, 1) := by decide +kernel
theorem dX0_lowestBesides_0 : decode cX0_lowestBesides 0 = .ok (.iconst 0, 1) := by decide +kernel
theorem dX0_lowestBesides_1 : decode cX0_lowestBesides 1 = .ok (.istore_n 2, 1) := by decide +kernel
theorem dX0_lowestBesides_2 : decode cX0_lowestBesides 2 = .ok (.iload_n 2, 1) := by decide +kernel
theorem dX0_lowestBesides_3 : decode cX0_lowestBesides 3 = .ok (.iconst 5, 1) := by decide +kernel
theorem dX0_lowestBesides_4 : decode cX0_lowestBesides 4 = .ok (.if_icmp .ge 24, 3) := by decide +kernel
theorem dX0_lowestBesides_7 : decode cX0_lowestBesides 7 = .ok (.iload_n 2, 1) := by decide +kernel
theorem dX0_lowestBesides_8 : decode cX0_lowestBesides 8 = .ok (.iload_n 1, 1) := by decide +kernel
theorem dX0_lowestBesides_9 : decode cX0_lowestBesides 9 = .ok (.if_icmp .eq 13, 3) := by decide +kernel
theorem dX0_lowestBesides_12 : decode cX0_lowestBesides 12 = .ok (.aload_n 0, 1) := by decide +kernel
theorem dX0_lowestBesides_13 : decode cX0_lowestBesides 13 = .ok (.iload_n 2, 1) := by decide +kernel
theorem dX0_lowestBesides_14 : decode cX0_lowestBesides 14 = .ok (.invokevirtual 53, 3) := by decide +kernel
theorem dX0_lowestBesides_17 : decode cX0_lowestBesides 17 = .ok (.ifCond .eq 5, 3) := by decide +kernel
theorem dX0_lowestBesides_20 : decode cX0_lowestBesides 20 = .ok (.iload_n 2, 1) := by decide +kernel
theorem dX0_lowestBesides_21 : decode cX0_lowestBesides 21 = .ok (.ireturn, 1) := by decide +kernel
theorem dX0_lowestBesides_22 : decode cX0_lowestBesides 22 = .ok (.iinc 2 1, 3) := by decide +kernel
theorem dX0_lowestBesides_25 : decode cX0_lowestBesides 25 = .ok (.goto (-23), 3) := by decide +kernel
theorem dX0_lowestBesides_28 : decode cX0_lowestBesides 28 = .ok (.iconst (-1), 1) := by decide +kernel
theorem dX0_lowestBesides_29 : decode cX0_lowestBesides 29 = .ok (.ireturn, 1) := by decide +kernel
theorem dX0_fillPlace_0 : decode cX0_fillPlace 0 = .ok (.aload_n 0, 1) := by decide +kernel
theorem dX0_fillPlace_1 : decode cX0_fillPlace 1 = .ok (.getfield 14, 3) := by decide +kernel
theorem dX0_fillPlace_4 : decode cX0_fillPlace 4 = .ok (.iload_n 1, 1) := by decide +kernel
theorem dX0_fillPlace_5 : decode cX0_fillPlace 5 = .ok (.iconst 1, 1) := by decide +kernel
theorem dX0_fillPlace_6 : decode cX0_fillPlace 6 = .ok (.invokevirtual 41, 3) := by decide +kernel
theorem dX0_fillPlace_9 : decode cX0_fillPlace 9 = .ok (.aload_n 0, 1) := by decide +kernel
theorem dX0_fillPlace_10 : decode cX0_fillPlace 10 = .ok (.getfield 23, 3) := by decide +kernel
theorem dX0_fillPlace_13 : decode cX0_fillPlace 13 = .ok (.iload_n 1, 1) := by decide +kernel
theorem dX0_fillPlace_14 : decode cX0_fillPlace 14 = .ok (.iconst 0, 1) := by decide +kernel
theorem dX0_fillPlace_15 : decode cX0_fillPlace 15 = .ok (.invokevirtual 41, 3) := by decide +kernel
theorem dX0_fillPlace_18 : decode cX0_fillPlace 18 = .ok (.aload_n 0, 1) := by decide +kernel
theorem dX0_fillPlace_19 : decode cX0_fillPlace 19 = .ok (.getfield 26, 3) := by decide +kernel
theorem dX0_fillPlace_22 : decode cX0_fillPlace 22 = .ok (.iload_n 1, 1) := by decide +kernel
theorem dX0_fillPlace_23 : decode cX0_fillPlace 23 = .ok (.iconst 0, 1) := by decide +kernel
theorem dX0_fillPlace_24 : decode cX0_fillPlace 24 = .ok (.invokevirtual 41, 3) := by decide +kernel
theorem dX0_fillPlace_27 : decode cX0_fillPlace 27 = .ok (.aload_n 0, 1) := by decide +kernel
theorem dX0_fillPlace_28 : decode cX0_fillPlace 28 = .ok (.getfield 29, 3) := by decide +kernel
theorem dX0_fillPlace_31 : decode cX0_fillPlace 31 = .ok (.iload_n 1, 1) := by decide +kernel
theorem dX0_fillPlace_32 : decode cX0_fillPlace 32 = .ok (.iconst 0, 1) := by decide +kernel
theorem dX0_fillPlace_33 : decode cX0_fillPlace 33 = .ok (.invokevirtual 41, 3) := by decide +kernel
theorem dX0_fillPlace_36 : decode cX0_fillPlace 36 = .ok (.return_, 1) := by decide +kernel
theorem dX0_emptyPlace_0 : decode cX0_emptyPlace 0 = .ok (.aload_n 0, 1) := by decide +kernel
theorem dX0_emptyPlace_1 : decode cX0_emptyPlace 1 = .ok (.getfield 14, 3) := by decide +kernel
theorem dX0_emptyPlace_4 : decode cX0_emptyPlace 4 = .ok (.iload_n 1, 1) := by decide +kernel
theorem dX0_emptyPlace_5 : decode cX0_emptyPlace 5 = .ok (.iconst 0, 1) := by decide +kernel
theorem dX0_emptyPlace_6 : decode cX0_emptyPlace 6 = .ok (.invokevirtual 41, 3) := by decide +kernel
theorem dX0_emptyPlace_9 : decode cX0_emptyPlace 9 = .ok (.aload_n 0, 1) := by decide +kernel
theorem dX0_emptyPlace_10 : decode cX0_emptyPlace 10 = .ok (.getfield 20, 3) := by decide +kernel
theorem dX0_emptyPlace_13 : decode cX0_emptyPlace 13 = .ok (.iload_n 1, 1) := by decide +kernel
theorem dX0_emptyPlace_14 : decode cX0_emptyPlace 14 = .ok (.iconst (-1), 1) := by decide +kernel
theorem dX0_emptyPlace_15 : decode cX0_emptyPlace 15 = .ok (.invokevirtual 41, 3) := by decide +kernel
theorem dX0_emptyPlace_18 : decode cX0_emptyPlace 18 = .ok (.aload_n 0, 1) := by decide +kernel
theorem dX0_emptyPlace_19 : decode cX0_emptyPlace 19 = .ok (.getfield 32, 3) := by decide +kernel
theorem dX0_emptyPlace_22 : decode cX0_emptyPlace 22 = .ok (.iload_n 1, 1) := by decide +kernel
theorem dX0_emptyPlace_23 : decode cX0_emptyPlace 23 = .ok (.iconst 0, 1) := by decide +kernel
theorem dX0_emptyPlace_24 : decode cX0_emptyPlace 24 = .ok (.invokevirtual 41, 3) := by decide +kernel
theorem dX0_emptyPlace_27 : decode cX0_emptyPlace 27 = .ok (.return_, 1) := by decide +kernel
theorem dX0_leafOnHeap_0 : decode cX0_leafOnHeap 0 = .ok (.iload_n 2, 1) := by decide +kernel
theorem dX0_leafOnHeap_1 : decode cX0_leafOnHeap 1 = .ok (.ifCond .lt 19, 3) := by decide +kernel
theorem dX0_leafOnHeap_4 : decode cX0_leafOnHeap 4 = .ok (.iload_n 2, 1) := by decide +kernel
theorem dX0_leafOnHeap_5 : decode cX0_leafOnHeap 5 = .ok (.aload_n 0, 1) := by decide +kernel
theorem dX0_leafOnHeap_6 : decode cX0_leafOnHeap 6 = .ok (.getfield 32, 3) := by decide +kernel
theorem dX0_leafOnHeap_9 : decode cX0_leafOnHeap 9 = .ok (.iload_n 1, 1) := by decide +kernel
theorem dX0_leafOnHeap_10 : decode cX0_leafOnHeap 10 = .ok (.invokevirtual 45, 3) := by decide +kernel
theorem dX0_leafOnHeap_13 : decode cX0_leafOnHeap 13 = .ok (.if_icmp .ge 7, 3) := by decide +kernel
theorem dX0_leafOnHeap_16 : decode cX0_leafOnHeap 16 = .ok (.iconst 1, 1) := by decide +kernel
theorem dX0_leafOnHeap_17 : decode cX0_leafOnHeap 17 = .ok (.goto 4, 3) := by decide +kernel
theorem dX0_leafOnHeap_20 : decode cX0_leafOnHeap 20 = .ok (.iconst 0, 1) := by decide +kernel
theorem dX0_leafOnHeap_21 : decode cX0_leafOnHeap 21 = .ok (.istore_n 3, 1) := by decide +kernel
theorem dX0_leafOnHeap_22 : decode cX0_leafOnHeap 22 = .ok (.iload_n 3, 1) := by decide +kernel
theorem dX0_leafOnHeap_23 : decode cX0_leafOnHeap 23 = .ok (.ifCond .eq 19, 3) := by decide +kernel
theorem dX0_leafOnHeap_26 : decode cX0_leafOnHeap 26 = .ok (.aload_n 0, 1) := by decide +kernel
theorem dX0_leafOnHeap_27 : decode cX0_leafOnHeap 27 = .ok (.getfield 35, 3) := by decide +kernel
theorem dX0_leafOnHeap_30 : decode cX0_leafOnHeap 30 = .ok (.iload_n 1, 1) := by decide +kernel
theorem dX0_leafOnHeap_31 : decode cX0_leafOnHeap 31 = .ok (.bipush 120, 2) := by decide +kernel
theorem dX0_leafOnHeap_33 : decode cX0_leafOnHeap 33 = .ok (.imul, 1) := by decide +kernel
theorem dX0_leafOnHeap_34 : decode cX0_leafOnHeap 34 = .ok (.iload_n 2, 1) := by decide +kernel
theorem dX0_leafOnHeap_35 : decode cX0_leafOnHeap 35 = .ok (.iadd, 1) := by decide +kernel
theorem dX0_leafOnHeap_36 : decode cX0_leafOnHeap 36 = .ok (.invokevirtual 45, 3) := by decide +kernel
theorem dX0_leafOnHeap_39 : decode cX0_leafOnHeap 39 = .ok (.goto 4, 3) := by decide +kernel
theorem dX0_leafOnHeap_42 : decode cX0_leafOnHeap 42 = .ok (.iconst (-1), 1) := by decide +kernel
theorem dX0_leafOnHeap_43 : decode cX0_leafOnHeap 43 = .ok (.ireturn, 1) := by decide +kernel
theorem dX0_putOnHeap_0 : decode cX0_putOnHeap 0 = .ok (.aload_n 0, 1) := by decide +kernel
theorem dX0_putOnHeap_1 : decode cX0_putOnHeap 1 = .ok (.getfield 35, 3) := by decide +kernel
theorem dX0_putOnHeap_4 : decode cX0_putOnHeap 4 = .ok (.iload_n 1, 1) := by decide +kernel
theorem dX0_putOnHeap_5 : decode cX0_putOnHeap 5 = .ok (.bipush 120, 2) := by decide +kernel
theorem dX0_putOnHeap_7 : decode cX0_putOnHeap 7 = .ok (.imul, 1) := by decide +kernel
theorem dX0_putOnHeap_8 : decode cX0_putOnHeap 8 = .ok (.aload_n 0, 1) := by decide +kernel
theorem dX0_putOnHeap_9 : decode cX0_putOnHeap 9 = .ok (.getfield 32, 3) := by decide +kernel
theorem dX0_putOnHeap_12 : decode cX0_putOnHeap 12 = .ok (.iload_n 1, 1) := by decide +kernel
theorem dX0_putOnHeap_13 : decode cX0_putOnHeap 13 = .ok (.invokevirtual 45, 3) := by decide +kernel
theorem dX0_putOnHeap_16 : decode cX0_putOnHeap 16 = .ok (.iadd, 1) := by decide +kernel
theorem dX0_putOnHeap_17 : decode cX0_putOnHeap 17 = .ok (.iload_n 2, 1) := by decide +kernel
theorem dX0_putOnHeap_18 : decode cX0_putOnHeap 18 = .ok (.invokevirtual 41, 3) := by decide +kernel
theorem dX0_putOnHeap_21 : decode cX0_putOnHeap 21 = .ok (.aload_n 0, 1) := by decide +kernel
theorem dX0_putOnHeap_22 : decode cX0_putOnHeap 22 = .ok (.getfield 32, 3) := by decide +kernel
theorem dX0_putOnHeap_25 : decode cX0_putOnHeap 25 = .ok (.iload_n 1, 1) := by decide +kernel
theorem dX0_putOnHeap_26 : decode cX0_putOnHeap 26 = .ok (.iconst 1, 1) := by decide +kernel
theorem dX0_putOnHeap_27 : decode cX0_putOnHeap 27 = .ok (.invokevirtual 60, 3) := by decide +kernel
theorem dX0_putOnHeap_30 : decode cX0_putOnHeap 30 = .ok (.return_, 1) := by decide +kernel
theorem dX0_copyFrom_0 : decode cX0_copyFrom 0 = .ok (.aload_n 0, 1) := by decide +kernel
theorem dX0_copyFrom_1 : decode cX0_copyFrom 1 = .ok (.getfield 14, 3) := by decide +kernel
theorem dX0_copyFrom_4 : decode cX0_copyFrom 4 = .ok (.aload_n 1, 1) := by decide +kernel
theorem dX0_copyFrom_5 : decode cX0_copyFrom 5 = .ok (.getfield 14, 3) := by decide +kernel
theorem dX0_copyFrom_8 : decode cX0_copyFrom 8 = .ok (.invokevirtual 63, 3) := by decide +kernel
theorem dX0_copyFrom_11 : decode cX0_copyFrom 11 = .ok (.aload_n 0, 1) := by decide +kernel
theorem dX0_copyFrom_12 : decode cX0_copyFrom 12 = .ok (.getfield 20, 3) := by decide +kernel
theorem dX0_copyFrom_15 : decode cX0_copyFrom 15 = .ok (.aload_n 1, 1) := by decide +kernel
theorem dX0_copyFrom_16 : decode cX0_copyFrom 16 = .ok (.getfield 20, 3) := by decide +kernel
theorem dX0_copyFrom_19 : decode cX0_copyFrom 19 = .ok (.invokevirtual 63, 3) := by decide +kernel
theorem dX0_copyFrom_22 : decode cX0_copyFrom 22 = .ok (.aload_n 0, 1) := by decide +kernel
theorem dX0_copyFrom_23 : decode cX0_copyFrom 23 = .ok (.getfield 23, 3) := by decide +kernel
theorem dX0_copyFrom_26 : decode cX0_copyFrom 26 = .ok (.aload_n 1, 1) := by decide +kernel
theorem dX0_copyFrom_27 : decode cX0_copyFrom 27 = .ok (.getfield 23, 3) := by decide +kernel
theorem dX0_copyFrom_30 : decode cX0_copyFrom 30 = .ok (.invokevirtual 63, 3) := by decide +kernel
theorem dX0_copyFrom_33 : decode cX0_copyFrom 33 = .ok (.aload_n 0, 1) := by decide +kernel
theorem dX0_copyFrom_34 : decode cX0_copyFrom 34 = .ok (.getfield 26, 3) := by decide +kernel
theorem dX0_copyFrom_37 : decode cX0_copyFrom 37 = .ok (.aload_n 1, 1) := by decide +kernel
theorem dX0_copyFrom_38 : decode cX0_copyFrom 38 = .ok (.getfield 26, 3) := by decide +kernel
theorem dX0_copyFrom_41 : decode cX0_copyFrom 41 = .ok (.invokevirtual 63, 3) := by decide +kernel
theorem dX0_copyFrom_44 : decode cX0_copyFrom 44 = .ok (.aload_n 0, 1) := by decide +kernel
theorem dX0_copyFrom_45 : decode cX0_copyFrom 45 = .ok (.getfield 29, 3) := by decide +kernel
theorem dX0_copyFrom_48 : decode cX0_copyFrom 48 = .ok (.aload_n 1, 1) := by decide +kernel
theorem dX0_copyFrom_49 : decode cX0_copyFrom 49 = .ok (.getfield 29, 3) := by decide +kernel
theorem dX0_copyFrom_52 : decode cX0_copyFrom 52 = .ok (.invokevirtual 63, 3) := by decide +kernel
theorem dX0_copyFrom_55 : decode cX0_copyFrom 55 = .ok (.aload_n 0, 1) := by decide +kernel
theorem dX0_copyFrom_56 : decode cX0_copyFrom 56 = .ok (.getfield 32, 3) := by decide +kernel
theorem dX0_copyFrom_59 : decode cX0_copyFrom 59 = .ok (.aload_n 1, 1) := by decide +kernel
theorem dX0_copyFrom_60 : decode cX0_copyFrom 60 = .ok (.getfield 32, 3) := by decide +kernel
theorem dX0_copyFrom_63 : decode cX0_copyFrom 63 = .ok (.invokevirtual 63, 3) := by decide +kernel
theorem dX0_copyFrom_66 : decode cX0_copyFrom 66 = .ok (.aload_n 0, 1) := by decide +kernel
theorem dX0_copyFrom_67 : decode cX0_copyFrom 67 = .ok (.getfield 35, 3) := by decide +kernel
theorem dX0_copyFrom_70 : decode cX0_copyFrom 70 = .ok (.aload_n 1, 1) := by decide +kernel
theorem dX0_copyFrom_71 : decode cX0_copyFrom 71 = .ok (.getfield 35, 3) := by decide +kernel
theorem dX0_copyFrom_74 : decode cX0_copyFrom 74 = .ok (.invokevirtual 63, 3) := by decide +kernel
theorem dX0_copyFrom_77 : decode cX0_copyFrom 77 = .ok (.return_, 1) := by decide +kernel
theorem dX1_init_0 : decode cX1_init 0 = .ok (.aload_n 0, 1) := by decide +kernel
theorem dX1_init_1 : decode cX1_init 1 = .ok (.invokespecial 3, 3) := by decide +kernel
theorem dX1_init_4 : decode cX1_init 4 = .ok (.aload_n 0, 1) := by decide +kernel
theorem dX1_init_5 : decode cX1_init 5 = .ok (.new 9, 3) := by decide +kernel
theorem dX1_init_8 : decode cX1_init 8 = .ok (.dup, 1) := by decide +kernel
theorem dX1_init_9 : decode cX1_init 9 = .ok (.bipush 15, 2) := by decide +kernel
theorem dX1_init_11 : decode cX1_init 11 = .ok (.invokespecial 13, 3) := by decide +kernel
theorem dX1_init_14 : decode cX1_init 14 = .ok (.putfield 16, 3) := by decide +kernel
theorem dX1_init_17 : decode cX1_init 17 = .ok (.aload_n 0, 1) := by decide +kernel
theorem dX1_init_18 : decode cX1_init 18 = .ok (.new 9, 3) := by decide +kernel
theorem dX1_init_21 : decode cX1_init 21 = .ok (.dup, 1) := by decide +kernel
theorem dX1_init_22 : decode cX1_init 22 = .ok (.bipush 15, 2) := by decide +kernel
theorem dX1_init_24 : decode cX1_init 24 = .ok (.invokespecial 13, 3) := by decide +kernel
theorem dX1_init_27 : decode cX1_init 27 = .ok (.putfield 20, 3) := by decide +kernel
theorem dX1_init_30 : decode cX1_init 30 = .ok (.aload_n 0, 1) := by decide +kernel
theorem dX1_init_31 : decode cX1_init 31 = .ok (.new 9, 3) := by decide +kernel
theorem dX1_init_34 : decode cX1_init 34 = .ok (.dup, 1) := by decide +kernel
theorem dX1_init_35 : decode cX1_init 35 = .ok (.bipush 15, 2) := by decide +kernel
theorem dX1_init_37 : decode cX1_init 37 = .ok (.invokespecial 13, 3) := by decide +kernel
theorem dX1_init_40 : decode cX1_init 40 = .ok (.putfield 23, 3) := by decide +kernel
theorem dX1_init_43 : decode cX1_init 43 = .ok (.aload_n 0, 1) := by decide +kernel
theorem dX1_init_44 : decode cX1_init 44 = .ok (.getfield 16, 3) := by decide +kernel
theorem dX1_init_47 : decode cX1_init 47 = .ok (.iconst (-1), 1) := by decide +kernel
theorem dX1_init_48 : decode cX1_init 48 = .ok (.invokevirtual 26, 3) := by decide +kernel
theorem dX1_init_51 : decode cX1_init 51 = .ok (.aload_n 0, 1) := by decide +kernel
theorem dX1_init_52 : decode cX1_init 52 = .ok (.getfield 20, 3) := by decide +kernel
theorem dX1_init_55 : decode cX1_init 55 = .ok (.iconst (-1), 1) := by decide +kernel
theorem dX1_init_56 : decode cX1_init 56 = .ok (.invokevirtual 26, 3) := by decide +kernel
theorem dX1_init_59 : decode cX1_init 59 = .ok (.aload_n 0, 1) := by decide +kernel
theorem dX1_init_60 : decode cX1_init 60 = .ok (.getfield 23, 3) := by decide +kernel
theorem dX1_init_63 : decode cX1_init 63 = .ok (.iconst (-1), 1) := by decide +kernel
theorem dX1_init_64 : decode cX1_init 64 = .ok (.invokevirtual 26, 3) := by decide +kernel
theorem dX1_init_67 : decode cX1_init 67 = .ok (.return_, 1) := by decide +kernel
theorem dX1_firstOf_0 : decode cX1_firstOf 0 = .ok (.iload_n 0, 1) := by decide +kernel
theorem dX1_firstOf_1 : decode cX1_firstOf 1 = .ok (.iconst 3, 1) := by decide +kernel
theorem dX1_firstOf_2 : decode cX1_firstOf 2 = .ok (.imul, 1) := by decide +kernel
theorem dX1_firstOf_3 : decode cX1_firstOf 3 = .ok (.ireturn, 1) := by decide +kernel
theorem dX1_kindOf_0 : decode cX1_kindOf 0 = .ok (.iload_n 1, 1) := by decide +kernel
theorem dX1_kindOf_1 : decode cX1_kindOf 1 = .ok (.invokestatic 29, 3) := by decide +kernel
theorem dX1_kindOf_4 : decode cX1_kindOf 4 = .ok (.iload_n 2, 1) := by decide +kernel
theorem dX1_kindOf_5 : decode cX1_kindOf 5 = .ok (.iadd, 1) := by decide +kernel
theorem dX1_kindOf_6 : decode cX1_kindOf 6 = .ok (.istore_n 3, 1) := by decide +kernel
theorem dX1_kindOf_7 : decode cX1_kindOf 7 = .ok (.aload_n 0, 1) := by decide +kernel
theorem dX1_kindOf_8 : decode cX1_kindOf 8 = .ok (.getfield 16, 3) := by decide +kernel
theorem dX1_kindOf_11 : decode cX1_kindOf 11 = .ok (.iload_n 3, 1) := by decide +kernel
theorem dX1_kindOf_12 : decode cX1_kindOf 12 = .ok (.invokevirtual 33, 3) := by decide +kernel
theorem dX1_kindOf_15 : decode cX1_kindOf 15 = .ok (.iconst (-1), 1) := by decide +kernel
theorem dX1_kindOf_16 : decode cX1_kindOf 16 = .ok (.if_icmp .eq 5, 3) := by decide +kernel
theorem dX1_kindOf_19 : decode cX1_kindOf 19 = .ok (.iconst 2, 1) := by decide +kernel
theorem dX1_kindOf_20 : decode cX1_kindOf 20 = .ok (.ireturn, 1) := by decide +kernel
theorem dX1_kindOf_21 : decode cX1_kindOf 21 = .ok (.aload_n 0, 1) := by decide +kernel
theorem dX1_kindOf_22 : decode cX1_kindOf 22 = .ok (.getfield 20, 3) := by decide +kernel
theorem dX1_kindOf_25 : decode cX1_kindOf 25 = .ok (.iload_n 3, 1) := by decide +kernel
theorem dX1_kindOf_26 : decode cX1_kindOf 26 = .ok (.invokevirtual 33, 3) := by decide +kernel
theorem dX1_kindOf_29 : decode cX1_kindOf 29 = .ok (.iconst (-1), 1) := by decide +kernel
theorem dX1_kindOf_30 : decode cX1_kindOf 30 = .ok (.if_icmp .eq 7, 3) := by decide +kernel
theorem dX1_kindOf_33 : decode cX1_kindOf 33 = .ok (.iconst 1, 1) := by decide +kernel
theorem dX1_kindOf_34 : decode cX1_kindOf 34 = .ok (.goto 4, 3) := by decide +kernel
theorem dX1_kindOf_37 : decode cX1_kindOf 37 = .ok (.iconst 0, 1) := by decide +kernel
theorem dX1_kindOf_38 : decode cX1_kindOf 38 = .ok (.ireturn, 1) := by decide +kernel
theorem dX1_leafOf_0 : decode cX1_leafOf 0 = .ok (.iload_n 1, 1) := by decide +kernel
theorem dX1_leafOf_1 : decode cX1_leafOf 1 = .ok (.invokestatic 29, 3) := by decide +kernel
theorem dX1_leafOf_4 : decode cX1_leafOf 4 = .ok (.iload_n 2, 1) := by decide +kernel
theorem dX1_leafOf_5 : decode cX1_leafOf 5 = .ok (.iadd, 1) := by decide +kernel
theorem dX1_leafOf_6 : decode cX1_leafOf 6 = .ok (.istore_n 3, 1) := by decide +kernel
theorem dX1_leafOf_7 : decode cX1_leafOf 7 = .ok (.aload_n 0, 1) := by decide +kernel
theorem dX1_leafOf_8 : decode cX1_leafOf 8 = .ok (.getfield 16, 3) := by decide +kernel
theorem dX1_leafOf_11 : decode cX1_leafOf 11 = .ok (.iload_n 3, 1) := by decide +kernel
theorem dX1_leafOf_12 : decode cX1_leafOf 12 = .ok (.invokevirtual 33, 3) := by decide +kernel
theorem dX1_leafOf_15 : decode cX1_leafOf 15 = .ok (.iconst (-1), 1) := by decide +kernel
theorem dX1_leafOf_16 : decode cX1_leafOf 16 = .ok (.if_icmp .eq 14, 3) := by decide +kernel
theorem dX1_leafOf_19 : decode cX1_leafOf 19 = .ok (.aload_n 0, 1) := by decide +kernel
theorem dX1_leafOf_20 : decode cX1_leafOf 20 = .ok (.getfield 16, 3) := by decide +kernel
theorem dX1_leafOf_23 : decode cX1_leafOf 23 = .ok (.iload_n 3, 1) := by decide +kernel
theorem dX1_leafOf_24 : decode cX1_leafOf 24 = .ok (.invokevirtual 33, 3) := by decide +kernel
theorem dX1_leafOf_27 : decode cX1_leafOf 27 = .ok (.goto 11, 3) := by decide +kernel
theorem dX1_leafOf_30 : decode cX1_leafOf 30 = .ok (.aload_n 0, 1) := by decide +kernel
theorem dX1_leafOf_31 : decode cX1_leafOf 31 = .ok (.getfield 20, 3) := by decide +kernel
theorem dX1_leafOf_34 : decode cX1_leafOf 34 = .ok (.iload_n 3, 1) := by decide +kernel
theorem dX1_leafOf_35 : decode cX1_leafOf 35 = .ok (.invokevirtual 33, 3) := by decide +kernel
theorem dX1_leafOf_38 : decode cX1_leafOf 38 = .ok (.ireturn, 1) := by decide +kernel
theorem dX1_branchOf_0 : decode cX1_branchOf 0 = .ok (.aload_n 0, 1) := by decide +kernel
theorem dX1_branchOf_1 : decode cX1_branchOf 1 = .ok (.getfield 23, 3) := by decide +kernel
theorem dX1_branchOf_4 : decode cX1_branchOf 4 = .ok (.iload_n 1, 1) := by decide +kernel
theorem dX1_branchOf_5 : decode cX1_branchOf 5 = .ok (.invokestatic 29, 3) := by decide +kernel
theorem dX1_branchOf_8 : decode cX1_branchOf 8 = .ok (.iload_n 2, 1) := by decide +kernel
theorem dX1_branchOf_9 : decode cX1_branchOf 9 = .ok (.iadd, 1) := by decide +kernel
theorem dX1_branchOf_10 : decode cX1_branchOf 10 = .ok (.invokevirtual 33, 3) := by decide +kernel
theorem dX1_branchOf_13 : decode cX1_branchOf 13 = .ok (.ireturn, 1) := by decide +kernel
theorem dX1_write_0 : decode cX1_write 0 = .ok (.iload_n 1, 1) := by decide +kernel
theorem dX1_write_1 : decode cX1_write 1 = .ok (.invokestatic 29, 3) := by decide +kernel
theorem dX1_write_4 : decode cX1_write 4 = .ok (.iload_n 2, 1) := by decide +kernel
theorem dX1_write_5 : decode cX1_write 5 = .ok (.iadd, 1) := by decide +kernel
theorem dX1_write_6 : decode cX1_write 6 = .ok (.istore 5, 2) := by decide +kernel
theorem dX1_write_8 : decode cX1_write 8 = .ok (.aload_n 0, 1) := by decide +kernel
theorem dX1_write_9 : decode cX1_write 9 = .ok (.getfield 20, 3) := by decide +kernel
theorem dX1_write_12 : decode cX1_write 12 = .ok (.iload 5, 2) := by decide +kernel
theorem dX1_write_14 : decode cX1_write 14 = .ok (.iload_n 3, 1) := by decide +kernel
theorem dX1_write_15 : decode cX1_write 15 = .ok (.invokevirtual 36, 3) := by decide +kernel
theorem dX1_write_18 : decode cX1_write 18 = .ok (.aload_n 0, 1) := by decide +kernel
theorem dX1_write_19 : decode cX1_write 19 = .ok (.getfield 23, 3) := by decide +kernel
theorem dX1_write_22 : decode cX1_write 22 = .ok (.iload 5, 2) := by decide +kernel
theorem dX1_write_24 : decode cX1_write 24 = .ok (.iload 4, 2) := by decide +kernel
theorem dX1_write_26 : decode cX1_write 26 = .ok (.invokevirtual 36, 3) := by decide +kernel
theorem dX1_write_29 : decode cX1_write 29 = .ok (.return_, 1) := by decide +kernel
theorem dX1_fasten_0 : decode cX1_fasten 0 = .ok (.iload_n 1, 1) := by decide +kernel
theorem dX1_fasten_1 : decode cX1_fasten 1 = .ok (.invokestatic 29, 3) := by decide +kernel
theorem dX1_fasten_4 : decode cX1_fasten 4 = .ok (.iload_n 2, 1) := by decide +kernel
theorem dX1_fasten_5 : decode cX1_fasten 5 = .ok (.iadd, 1) := by decide +kernel
theorem dX1_fasten_6 : decode cX1_fasten 6 = .ok (.istore_n 3, 1) := by decide +kernel
theorem dX1_fasten_7 : decode cX1_fasten 7 = .ok (.aload_n 0, 1) := by decide +kernel
theorem dX1_fasten_8 : decode cX1_fasten 8 = .ok (.getfield 16, 3) := by decide +kernel
theorem dX1_fasten_11 : decode cX1_fasten 11 = .ok (.iload_n 3, 1) := by decide +kernel
theorem dX1_fasten_12 : decode cX1_fasten 12 = .ok (.aload_n 0, 1) := by decide +kernel
theorem dX1_fasten_13 : decode cX1_fasten 13 = .ok (.getfield 20, 3) := by decide +kernel
theorem dX1_fasten_16 : decode cX1_fasten 16 = .ok (.iload_n 3, 1) := by decide +kernel
theorem dX1_fasten_17 : decode cX1_fasten 17 = .ok (.invokevirtual 33, 3) := by decide +kernel
theorem dX1_fasten_20 : decode cX1_fasten 20 = .ok (.invokevirtual 36, 3) := by decide +kernel
theorem dX1_fasten_23 : decode cX1_fasten 23 = .ok (.aload_n 0, 1) := by decide +kernel
theorem dX1_fasten_24 : decode cX1_fasten 24 = .ok (.getfield 20, 3) := by decide +kernel
theorem dX1_fasten_27 : decode cX1_fasten 27 = .ok (.iload_n 3, 1) := by decide +kernel
theorem dX1_fasten_28 : decode cX1_fasten 28 = .ok (.iconst (-1), 1) := by decide +kernel
theorem dX1_fasten_29 : decode cX1_fasten 29 = .ok (.invokevirtual 36, 3) := by decide +kernel
theorem dX1_fasten_32 : decode cX1_fasten 32 = .ok (.aload_n 0, 1) := by decide +kernel
theorem dX1_fasten_33 : decode cX1_fasten 33 = .ok (.getfield 23, 3) := by decide +kernel
theorem dX1_fasten_36 : decode cX1_fasten 36 = .ok (.iload_n 3, 1) := by decide +kernel
theorem dX1_fasten_37 : decode cX1_fasten 37 = .ok (.iconst (-1), 1) := by decide +kernel
theorem dX1_fasten_38 : decode cX1_fasten 38 = .ok (.invokevirtual 36, 3) := by decide +kernel
theorem dX1_fasten_41 : decode cX1_fasten 41 = .ok (.return_, 1) := by decide +kernel
theorem dX1_release_0 : decode cX1_release 0 = .ok (.iload_n 1, 1) := by decide +kernel
theorem dX1_release_1 : decode cX1_release 1 = .ok (.invokestatic 29, 3) := by decide +kernel
theorem dX1_release_4 : decode cX1_release 4 = .ok (.iload_n 2, 1) := by decide +kernel
theorem dX1_release_5 : decode cX1_release 5 = .ok (.iadd, 1) := by decide +kernel
theorem dX1_release_6 : decode cX1_release 6 = .ok (.istore_n 3, 1) := by decide +kernel
theorem dX1_release_7 : decode cX1_release 7 = .ok (.aload_n 0, 1) := by decide +kernel
theorem dX1_release_8 : decode cX1_release 8 = .ok (.getfield 16, 3) := by decide +kernel
theorem dX1_release_11 : decode cX1_release 11 = .ok (.iload_n 3, 1) := by decide +kernel
theorem dX1_release_12 : decode cX1_release 12 = .ok (.iconst (-1), 1) := by decide +kernel
theorem dX1_release_13 : decode cX1_release 13 = .ok (.invokevirtual 36, 3) := by decide +kernel
theorem dX1_release_16 : decode cX1_release 16 = .ok (.aload_n 0, 1) := by decide +kernel
theorem dX1_release_17 : decode cX1_release 17 = .ok (.getfield 20, 3) := by decide +kernel
theorem dX1_release_20 : decode cX1_release 20 = .ok (.iload_n 3, 1) := by decide +kernel
theorem dX1_release_21 : decode cX1_release 21 = .ok (.iconst (-1), 1) := by decide +kernel
theorem dX1_release_22 : decode cX1_release 22 = .ok (.invokevirtual 36, 3) := by decide +kernel
theorem dX1_release_25 : decode cX1_release 25 = .ok (.aload_n 0, 1) := by decide +kernel
theorem dX1_release_26 : decode cX1_release 26 = .ok (.getfield 23, 3) := by decide +kernel
theorem dX1_release_29 : decode cX1_release 29 = .ok (.iload_n 3, 1) := by decide +kernel
theorem dX1_release_30 : decode cX1_release 30 = .ok (.iconst (-1), 1) := by decide +kernel
theorem dX1_release_31 : decode cX1_release 31 = .ok (.invokevirtual 36, 3) := by decide +kernel
theorem dX1_release_34 : decode cX1_release 34 = .ok (.return_, 1) := by decide +kernel
theorem dX1_releaseAll_0 : decode cX1_releaseAll 0 = .ok (.iconst 0, 1) := by decide +kernel
theorem dX1_releaseAll_1 : decode cX1_releaseAll 1 = .ok (.istore_n 2, 1) := by decide +kernel
theorem dX1_releaseAll_2 : decode cX1_releaseAll 2 = .ok (.iload_n 2, 1) := by decide +kernel
theorem dX1_releaseAll_3 : decode cX1_releaseAll 3 = .ok (.iconst 3, 1) := by decide +kernel
theorem dX1_releaseAll_4 : decode cX1_releaseAll 4 = .ok (.if_icmp .ge 15, 3) := by decide +kernel
theorem dX1_releaseAll_7 : decode cX1_releaseAll 7 = .ok (.aload_n 0, 1) := by decide +kernel
theorem dX1_releaseAll_8 : decode cX1_releaseAll 8 = .ok (.iload_n 1, 1) := by decide +kernel
theorem dX1_releaseAll_9 : decode cX1_releaseAll 9 = .ok (.iload_n 2, 1) := by decide +kernel
theorem dX1_releaseAll_10 : decode cX1_releaseAll 10 = .ok (.invokevirtual 40, 3) := by decide +kernel
theorem dX1_releaseAll_13 : decode cX1_releaseAll 13 = .ok (.iinc 2 1, 3) := by decide +kernel
theorem dX1_releaseAll_16 : decode cX1_releaseAll 16 = .ok (.goto (-14), 3) := by decide +kernel
theorem dX1_releaseAll_19 : decode cX1_releaseAll 19 = .ok (.return_, 1) := by decide +kernel
theorem dX1_pins_0 : decode cX1_pins 0 = .ok (.bipush 15, 2) := by decide +kernel
theorem dX1_pins_2 : decode cX1_pins 2 = .ok (.aload_n 0, 1) := by decide +kernel
theorem dX1_pins_3 : decode cX1_pins 3 = .ok (.getfield 16, 3) := by decide +kernel
theorem dX1_pins_6 : decode cX1_pins 6 = .ok (.iconst (-1), 1) := by decide +kernel
theorem dX1_pins_7 : decode cX1_pins 7 = .ok (.iconst 0, 1) := by decide +kernel
theorem dX1_pins_8 : decode cX1_pins 8 = .ok (.bipush 15, 2) := by decide +kernel
theorem dX1_pins_10 : decode cX1_pins 10 = .ok (.invokevirtual 43, 3) := by decide +kernel
theorem dX1_pins_13 : decode cX1_pins 13 = .ok (.isub, 1) := by decide +kernel
theorem dX1_pins_14 : decode cX1_pins 14 = .ok (.ireturn, 1) := by decide +kernel
theorem dX1_notes_0 : decode cX1_notes 0 = .ok (.bipush 15, 2) := by decide +kernel
theorem dX1_notes_2 : decode cX1_notes 2 = .ok (.aload_n 0, 1) := by decide +kernel
theorem dX1_notes_3 : decode cX1_notes 3 = .ok (.getfield 20, 3) := by decide +kernel
theorem dX1_notes_6 : decode cX1_notes 6 = .ok (.iconst (-1), 1) := by decide +kernel
theorem dX1_notes_7 : decode cX1_notes 7 = .ok (.iconst 0, 1) := by decide +kernel
theorem dX1_notes_8 : decode cX1_notes 8 = .ok (.bipush 15, 2) := by decide +kernel
theorem dX1_notes_10 : decode cX1_notes 10 = .ok (.invokevirtual 43, 3) := by decide +kernel
theorem dX1_notes_13 : decode cX1_notes 13 = .ok (.isub, 1) := by decide +kernel
theorem dX1_notes_14 : decode cX1_notes 14 = .ok (.ireturn, 1) := by decide +kernel
theorem dX1_pinsOfChild_0 : decode cX1_pinsOfChild 0 = .ok (.iconst 3, 1) := by decide +kernel
theorem dX1_pinsOfChild_1 : decode cX1_pinsOfChild 1 = .ok (.aload_n 0, 1) := by decide +kernel
theorem dX1_pinsOfChild_2 : decode cX1_pinsOfChild 2 = .ok (.getfield 16, 3) := by decide +kernel
theorem dX1_pinsOfChild_5 : decode cX1_pinsOfChild 5 = .ok (.iconst (-1), 1) := by decide +kernel
theorem dX1_pinsOfChild_6 : decode cX1_pinsOfChild 6 = .ok (.iload_n 1, 1) := by decide +kernel
theorem dX1_pinsOfChild_7 : decode cX1_pinsOfChild 7 = .ok (.invokestatic 29, 3) := by decide +kernel
theorem dX1_pinsOfChild_10 : decode cX1_pinsOfChild 10 = .ok (.iload_n 1, 1) := by decide +kernel
theorem dX1_pinsOfChild_11 : decode cX1_pinsOfChild 11 = .ok (.invokestatic 29, 3) := by decide +kernel
theorem dX1_pinsOfChild_14 : decode cX1_pinsOfChild 14 = .ok (.iconst 3, 1) := by decide +kernel
theorem dX1_pinsOfChild_15 : decode cX1_pinsOfChild 15 = .ok (.iadd, 1) := by decide +kernel
theorem dX1_pinsOfChild_16 : decode cX1_pinsOfChild 16 = .ok (.invokevirtual 43, 3) := by decide +kernel
theorem dX1_pinsOfChild_19 : decode cX1_pinsOfChild 19 = .ok (.isub, 1) := by decide +kernel
theorem dX1_pinsOfChild_20 : decode cX1_pinsOfChild 20 = .ok (.ireturn, 1) := by decide +kernel
theorem dX1_notesOfChild_0 : decode cX1_notesOfChild 0 = .ok (.iconst 3, 1) := by decide +kernel
theorem dX1_notesOfChild_1 : decode cX1_notesOfChild 1 = .ok (.aload_n 0, 1) := by decide +kernel
theorem dX1_notesOfChild_2 : decode cX1_notesOfChild 2 = .ok (.getfield 20, 3) := by decide +kernel
theorem dX1_notesOfChild_5 : decode cX1_notesOfChild 5 = .ok (.iconst (-1), 1) := by decide +kernel
theorem dX1_notesOfChild_6 : decode cX1_notesOfChild 6 = .ok (.iload_n 1, 1) := by decide +kernel
theorem dX1_notesOfChild_7 : decode cX1_notesOfChild 7 = .ok (.invokestatic 29, 3) := by decide +kernel
theorem dX1_notesOfChild_10 : decode cX1_notesOfChild 10 = .ok (.iload_n 1, 1) := by decide +kernel
theorem dX1_notesOfChild_11 : decode cX1_notesOfChild 11 = .ok (.invokestatic 29, 3) := by decide +kernel
theorem dX1_notesOfChild_14 : decode cX1_notesOfChild 14 = .ok (.iconst 3, 1) := by decide +kernel
theorem dX1_notesOfChild_15 : decode cX1_notesOfChild 15 = .ok (.iadd, 1) := by decide +kernel
theorem dX1_notesOfChild_16 : decode cX1_notesOfChild 16 = .ok (.invokevirtual 43, 3) := by decide +kernel
theorem dX1_notesOfChild_19 : decode cX1_notesOfChild 19 = .ok (.isub, 1) := by decide +kernel
theorem dX1_notesOfChild_20 : decode cX1_notesOfChild 20 = .ok (.ireturn, 1) := by decide +kernel
theorem dX1_pinsOn_0 : decode cX1_pinsOn 0 = .ok (.aload_n 0, 1) := by decide +kernel
theorem dX1_pinsOn_1 : decode cX1_pinsOn 1 = .ok (.getfield 16, 3) := by decide +kernel
theorem dX1_pinsOn_4 : decode cX1_pinsOn 4 = .ok (.iload_n 1, 1) := by decide +kernel
theorem dX1_pinsOn_5 : decode cX1_pinsOn 5 = .ok (.iconst 0, 1) := by decide +kernel
theorem dX1_pinsOn_6 : decode cX1_pinsOn 6 = .ok (.bipush 15, 2) := by decide +kernel
theorem dX1_pinsOn_8 : decode cX1_pinsOn 8 = .ok (.invokevirtual 43, 3) := by decide +kernel
theorem dX1_pinsOn_11 : decode cX1_pinsOn 11 = .ok (.ireturn, 1) := by decide +kernel
theorem dX1_notesOn_0 : decode cX1_notesOn 0 = .ok (.aload_n 0, 1) := by decide +kernel
theorem dX1_notesOn_1 : decode cX1_notesOn 1 = .ok (.getfield 20, 3) := by decide +kernel
theorem dX1_notesOn_4 : decode cX1_notesOn 4 = .ok (.iload_n 1, 1) := by decide +kernel
theorem dX1_notesOn_5 : decode cX1_notesOn 5 = .ok (.iconst 0, 1) := by decide +kernel
theorem dX1_notesOn_6 : decode cX1_notesOn 6 = .ok (.bipush 15, 2) := by decide +kernel
theorem dX1_notesOn_8 : decode cX1_notesOn 8 = .ok (.invokevirtual 43, 3) := by decide +kernel
theorem dX1_notesOn_11 : decode cX1_notesOn 11 = .ok (.ireturn, 1) := by decide +kernel
theorem dX1_pinsOnBy_0 : decode cX1_pinsOnBy 0 = .ok (.aload_n 0, 1) := by decide +kernel
theorem dX1_pinsOnBy_1 : decode cX1_pinsOnBy 1 = .ok (.getfield 16, 3) := by decide +kernel
theorem dX1_pinsOnBy_4 : decode cX1_pinsOnBy 4 = .ok (.iload_n 2, 1) := by decide +kernel
theorem dX1_pinsOnBy_5 : decode cX1_pinsOnBy 5 = .ok (.iload_n 1, 1) := by decide +kernel
theorem dX1_pinsOnBy_6 : decode cX1_pinsOnBy 6 = .ok (.invokestatic 29, 3) := by decide +kernel
theorem dX1_pinsOnBy_9 : decode cX1_pinsOnBy 9 = .ok (.iload_n 1, 1) := by decide +kernel
theorem dX1_pinsOnBy_10 : decode cX1_pinsOnBy 10 = .ok (.invokestatic 29, 3) := by decide +kernel
theorem dX1_pinsOnBy_13 : decode cX1_pinsOnBy 13 = .ok (.iconst 3, 1) := by decide +kernel
theorem dX1_pinsOnBy_14 : decode cX1_pinsOnBy 14 = .ok (.iadd, 1) := by decide +kernel
theorem dX1_pinsOnBy_15 : decode cX1_pinsOnBy 15 = .ok (.invokevirtual 43, 3) := by decide +kernel
theorem dX1_pinsOnBy_18 : decode cX1_pinsOnBy 18 = .ok (.ireturn, 1) := by decide +kernel
theorem dX1_maskOfHolders_0 : decode cX1_maskOfHolders 0 = .ok (.iconst 0, 1) := by decide +kernel
theorem dX1_maskOfHolders_1 : decode cX1_maskOfHolders 1 = .ok (.istore_n 2, 1) := by decide +kernel
theorem dX1_maskOfHolders_2 : decode cX1_maskOfHolders 2 = .ok (.iconst 0, 1) := by decide +kernel
theorem dX1_maskOfHolders_3 : decode cX1_maskOfHolders 3 = .ok (.istore_n 3, 1) := by decide +kernel
theorem dX1_maskOfHolders_4 : decode cX1_maskOfHolders 4 = .ok (.iload_n 3, 1) := by decide +kernel
theorem dX1_maskOfHolders_5 : decode cX1_maskOfHolders 5 = .ok (.iconst 5, 1) := by decide +kernel
theorem dX1_maskOfHolders_6 : decode cX1_maskOfHolders 6 = .ok (.if_icmp .ge 28, 3) := by decide +kernel
theorem dX1_maskOfHolders_9 : decode cX1_maskOfHolders 9 = .ok (.iload_n 2, 1) := by decide +kernel
theorem dX1_maskOfHolders_10 : decode cX1_maskOfHolders 10 = .ok (.aload_n 0, 1) := by decide +kernel
theorem dX1_maskOfHolders_11 : decode cX1_maskOfHolders 11 = .ok (.iload_n 3, 1) := by decide +kernel
theorem dX1_maskOfHolders_12 : decode cX1_maskOfHolders 12 = .ok (.iload_n 1, 1) := by decide +kernel
theorem dX1_maskOfHolders_13 : decode cX1_maskOfHolders 13 = .ok (.invokevirtual 47, 3) := by decide +kernel
theorem dX1_maskOfHolders_16 : decode cX1_maskOfHolders 16 = .ok (.ifCond .le 9, 3) := by decide +kernel
theorem dX1_maskOfHolders_19 : decode cX1_maskOfHolders 19 = .ok (.iconst 1, 1) := by decide +kernel
theorem dX1_maskOfHolders_20 : decode cX1_maskOfHolders 20 = .ok (.iload_n 3, 1) := by decide +kernel
theorem dX1_maskOfHolders_21 : decode cX1_maskOfHolders 21 = .ok (.ishl, 1) := by decide +kernel
theorem dX1_maskOfHolders_22 : decode cX1_maskOfHolders 22 = .ok (.goto 4, 3) := by decide +kernel
theorem dX1_maskOfHolders_25 : decode cX1_maskOfHolders 25 = .ok (.iconst 0, 1) := by decide +kernel
theorem dX1_maskOfHolders_26 : decode cX1_maskOfHolders 26 = .ok (.ior, 1) := by decide +kernel
theorem dX1_maskOfHolders_27 : decode cX1_maskOfHolders 27 = .ok (.istore_n 2, 1) := by decide +kernel
theorem dX1_maskOfHolders_28 : decode cX1_maskOfHolders 28 = .ok (.iinc 3 1, 3) := by decide +kernel
theorem dX1_maskOfHolders_31 : decode cX1_maskOfHolders 31 = .ok (.goto (-27), 3) := by decide +kernel
theorem dX1_maskOfHolders_34 : decode cX1_maskOfHolders 34 = .ok (.iload_n 2, 1) := by decide +kernel
theorem dX1_maskOfHolders_35 : decode cX1_maskOfHolders 35 = .ok (.ireturn, 1) := by decide +kernel
theorem dX1_numberOfHook_0 : decode cX1_numberOfHook 0 = .ok (.iload_n 3, 1) := by decide +kernel
theorem dX1_numberOfHook_1 : decode cX1_numberOfHook 1 = .ok (.lookupswitch 41 #[(0, 27), (1, 34)], 27) := by decide +kernel
theorem dX1_numberOfHook_28 : decode cX1_numberOfHook 28 = .ok (.aload_n 0, 1) := by decide +kernel
theorem dX1_numberOfHook_29 : decode cX1_numberOfHook 29 = .ok (.iload_n 1, 1) := by decide +kernel
theorem dX1_numberOfHook_30 : decode cX1_numberOfHook 30 = .ok (.iload_n 2, 1) := by decide +kernel
theorem dX1_numberOfHook_31 : decode cX1_numberOfHook 31 = .ok (.invokevirtual 51, 3) := by decide +kernel
theorem dX1_numberOfHook_34 : decode cX1_numberOfHook 34 = .ok (.ireturn, 1) := by decide +kernel
theorem dX1_numberOfHook_35 : decode cX1_numberOfHook 35 = .ok (.aload_n 0, 1) := by decide +kernel
theorem dX1_numberOfHook_36 : decode cX1_numberOfHook 36 = .ok (.iload_n 1, 1) := by decide +kernel
theorem dX1_numberOfHook_37 : decode cX1_numberOfHook 37 = .ok (.iload_n 2, 1) := by decide +kernel
theorem dX1_numberOfHook_38 : decode cX1_numberOfHook 38 = .ok (.invokevirtual 54, 3) := by decide +kernel
theorem dX1_numberOfHook_41 : decode cX1_numberOfHook 41 = .ok (.ireturn, 1) := by decide +kernel
theorem dX1_numberOfHook_42 : decode cX1_numberOfHook 42 = .ok (.aload_n 0, 1) := by decide +kernel
theorem dX1_numberOfHook_43 : decode cX1_numberOfHook 43 = .ok (.iload_n 1, 1) := by decide +kernel
theorem dX1_numberOfHook_44 : decode cX1_numberOfHook 44 = .ok (.iload_n 2, 1) := by decide +kernel
theorem dX1_numberOfHook_45 : decode cX1_numberOfHook 45 = .ok (.invokevirtual 57, 3) := by decide +kernel
theorem dX1_numberOfHook_48 : decode cX1_numberOfHook 48 = .ok (.ireturn, 1) := by decide +kernel
theorem dX1_copyFrom_0 : decode cX1_copyFrom 0 = .ok (.aload_n 0, 1) := by decide +kernel
theorem dX1_copyFrom_1 : decode cX1_copyFrom 1 = .ok (.getfield 16, 3) := by decide +kernel
theorem dX1_copyFrom_4 : decode cX1_copyFrom 4 = .ok (.aload_n 1, 1) := by decide +kernel
theorem dX1_copyFrom_5 : decode cX1_copyFrom 5 = .ok (.getfield 16, 3) := by decide +kernel
theorem dX1_copyFrom_8 : decode cX1_copyFrom 8 = .ok (.invokevirtual 60, 3) := by decide +kernel
theorem dX1_copyFrom_11 : decode cX1_copyFrom 11 = .ok (.aload_n 0, 1) := by decide +kernel
theorem dX1_copyFrom_12 : decode cX1_copyFrom 12 = .ok (.getfield 20, 3) := by decide +kernel
theorem dX1_copyFrom_15 : decode cX1_copyFrom 15 = .ok (.aload_n 1, 1) := by decide +kernel
theorem dX1_copyFrom_16 : decode cX1_copyFrom 16 = .ok (.getfield 20, 3) := by decide +kernel
theorem dX1_copyFrom_19 : decode cX1_copyFrom 19 = .ok (.invokevirtual 60, 3) := by decide +kernel
theorem dX1_copyFrom_22 : decode cX1_copyFrom 22 = .ok (.aload_n 0, 1) := by decide +kernel
theorem dX1_copyFrom_23 : decode cX1_copyFrom 23 = .ok (.getfield 23, 3) := by decide +kernel
theorem dX1_copyFrom_26 : decode cX1_copyFrom 26 = .ok (.aload_n 1, 1) := by decide +kernel
theorem dX1_copyFrom_27 : decode cX1_copyFrom 27 = .ok (.getfield 23, 3) := by decide +kernel
theorem dX1_copyFrom_30 : decode cX1_copyFrom 30 = .ok (.invokevirtual 60, 3) := by decide +kernel
theorem dX1_copyFrom_33 : decode cX1_copyFrom 33 = .ok (.return_, 1) := by decide +kernel
theorem dX2_init_0 : decode cX2_init 0 = .ok (.aload_n 0, 1) := by decide +kernel
theorem dX2_init_1 : decode cX2_init 1 = .ok (.invokespecial 3, 3) := by decide +kernel
theorem dX2_init_4 : decode cX2_init 4 = .ok (.aload_n 0, 1) := by decide +kernel
theorem dX2_init_5 : decode cX2_init 5 = .ok (.new 9, 3) := by decide +kernel
theorem dX2_init_8 : decode cX2_init 8 = .ok (.dup, 1) := by decide +kernel
theorem dX2_init_9 : decode cX2_init 9 = .ok (.bipush 12, 2) := by decide +kernel
theorem dX2_init_11 : decode cX2_init 11 = .ok (.invokespecial 11, 3) := by decide +kernel
theorem dX2_init_14 : decode cX2_init 14 = .ok (.putfield 14, 3) := by decide +kernel
theorem dX2_init_17 : decode cX2_init 17 = .ok (.aload_n 0, 1) := by decide +kernel
theorem dX2_init_18 : decode cX2_init 18 = .ok (.new 9, 3) := by decide +kernel
theorem dX2_init_21 : decode cX2_init 21 = .ok (.dup, 1) := by decide +kernel
theorem dX2_init_22 : decode cX2_init 22 = .ok (.bipush 120, 2) := by decide +kernel
theorem dX2_init_24 : decode cX2_init 24 = .ok (.invokespecial 11, 3) := by decide +kernel
theorem dX2_init_27 : decode cX2_init 27 = .ok (.putfield 20, 3) := by decide +kernel
theorem dX2_init_30 : decode cX2_init 30 = .ok (.aload_n 0, 1) := by decide +kernel
theorem dX2_init_31 : decode cX2_init 31 = .ok (.new 9, 3) := by decide +kernel
theorem dX2_init_34 : decode cX2_init 34 = .ok (.dup, 1) := by decide +kernel
theorem dX2_init_35 : decode cX2_init 35 = .ok (.bipush 120, 2) := by decide +kernel
theorem dX2_init_37 : decode cX2_init 37 = .ok (.invokespecial 11, 3) := by decide +kernel
theorem dX2_init_40 : decode cX2_init 40 = .ok (.putfield 23, 3) := by decide +kernel
theorem dX2_init_43 : decode cX2_init 43 = .ok (.aload_n 0, 1) := by decide +kernel
theorem dX2_init_44 : decode cX2_init 44 = .ok (.new 9, 3) := by decide +kernel
theorem dX2_init_47 : decode cX2_init 47 = .ok (.dup, 1) := by decide +kernel
theorem dX2_init_48 : decode cX2_init 48 = .ok (.bipush 120, 2) := by decide +kernel
theorem dX2_init_50 : decode cX2_init 50 = .ok (.invokespecial 11, 3) := by decide +kernel
theorem dX2_init_53 : decode cX2_init 53 = .ok (.putfield 26, 3) := by decide +kernel
theorem dX2_init_56 : decode cX2_init 56 = .ok (.aload_n 0, 1) := by decide +kernel
theorem dX2_init_57 : decode cX2_init 57 = .ok (.new 9, 3) := by decide +kernel
theorem dX2_init_60 : decode cX2_init 60 = .ok (.dup, 1) := by decide +kernel
theorem dX2_init_61 : decode cX2_init 61 = .ok (.bipush 120, 2) := by decide +kernel
theorem dX2_init_63 : decode cX2_init 63 = .ok (.invokespecial 11, 3) := by decide +kernel
theorem dX2_init_66 : decode cX2_init 66 = .ok (.putfield 29, 3) := by decide +kernel
theorem dX2_init_69 : decode cX2_init 69 = .ok (.aload_n 0, 1) := by decide +kernel
theorem dX2_init_70 : decode cX2_init 70 = .ok (.new 9, 3) := by decide +kernel
theorem dX2_init_73 : decode cX2_init 73 = .ok (.dup, 1) := by decide +kernel
theorem dX2_init_74 : decode cX2_init 74 = .ok (.bipush 120, 2) := by decide +kernel
theorem dX2_init_76 : decode cX2_init 76 = .ok (.invokespecial 11, 3) := by decide +kernel
theorem dX2_init_79 : decode cX2_init 79 = .ok (.putfield 32, 3) := by decide +kernel
theorem dX2_init_82 : decode cX2_init 82 = .ok (.aload_n 0, 1) := by decide +kernel
theorem dX2_init_83 : decode cX2_init 83 = .ok (.getfield 14, 3) := by decide +kernel
theorem dX2_init_86 : decode cX2_init 86 = .ok (.iconst (-1), 1) := by decide +kernel
theorem dX2_init_87 : decode cX2_init 87 = .ok (.invokevirtual 35, 3) := by decide +kernel
theorem dX2_init_90 : decode cX2_init 90 = .ok (.return_, 1) := by decide +kernel
theorem dX2_sprout_0 : decode cX2_sprout 0 = .ok (.aload_n 0, 1) := by decide +kernel
theorem dX2_sprout_1 : decode cX2_sprout 1 = .ok (.getfield 38, 3) := by decide +kernel
theorem dX2_sprout_4 : decode cX2_sprout 4 = .ok (.istore_n 3, 1) := by decide +kernel
theorem dX2_sprout_5 : decode cX2_sprout 5 = .ok (.aload_n 0, 1) := by decide +kernel
theorem dX2_sprout_6 : decode cX2_sprout 6 = .ok (.dup, 1) := by decide +kernel
theorem dX2_sprout_7 : decode cX2_sprout 7 = .ok (.getfield 38, 3) := by decide +kernel
theorem dX2_sprout_10 : decode cX2_sprout 10 = .ok (.iconst 1, 1) := by decide +kernel
theorem dX2_sprout_11 : decode cX2_sprout 11 = .ok (.iadd, 1) := by decide +kernel
theorem dX2_sprout_12 : decode cX2_sprout 12 = .ok (.putfield 38, 3) := by decide +kernel
theorem dX2_sprout_15 : decode cX2_sprout 15 = .ok (.aload_n 0, 1) := by decide +kernel
theorem dX2_sprout_16 : decode cX2_sprout 16 = .ok (.getfield 14, 3) := by decide +kernel
theorem dX2_sprout_19 : decode cX2_sprout 19 = .ok (.iload_n 1, 1) := by decide +kernel
theorem dX2_sprout_20 : decode cX2_sprout 20 = .ok (.iload_n 3, 1) := by decide +kernel
theorem dX2_sprout_21 : decode cX2_sprout 21 = .ok (.invokevirtual 42, 3) := by decide +kernel
theorem dX2_sprout_24 : decode cX2_sprout 24 = .ok (.aload_n 0, 1) := by decide +kernel
theorem dX2_sprout_25 : decode cX2_sprout 25 = .ok (.getfield 20, 3) := by decide +kernel
theorem dX2_sprout_28 : decode cX2_sprout 28 = .ok (.iload_n 3, 1) := by decide +kernel
theorem dX2_sprout_29 : decode cX2_sprout 29 = .ok (.iload_n 2, 1) := by decide +kernel
theorem dX2_sprout_30 : decode cX2_sprout 30 = .ok (.invokevirtual 42, 3) := by decide +kernel
theorem dX2_sprout_33 : decode cX2_sprout 33 = .ok (.aload_n 0, 1) := by decide +kernel
theorem dX2_sprout_34 : decode cX2_sprout 34 = .ok (.getfield 23, 3) := by decide +kernel
theorem dX2_sprout_37 : decode cX2_sprout 37 = .ok (.iload_n 3, 1) := by decide +kernel
theorem dX2_sprout_38 : decode cX2_sprout 38 = .ok (.iconst 0, 1) := by decide +kernel
theorem dX2_sprout_39 : decode cX2_sprout 39 = .ok (.invokevirtual 42, 3) := by decide +kernel
theorem dX2_sprout_42 : decode cX2_sprout 42 = .ok (.aload_n 0, 1) := by decide +kernel
theorem dX2_sprout_43 : decode cX2_sprout 43 = .ok (.getfield 26, 3) := by decide +kernel
theorem dX2_sprout_46 : decode cX2_sprout 46 = .ok (.iload_n 3, 1) := by decide +kernel
theorem dX2_sprout_47 : decode cX2_sprout 47 = .ok (.iload_n 1, 1) := by decide +kernel
theorem dX2_sprout_48 : decode cX2_sprout 48 = .ok (.invokevirtual 42, 3) := by decide +kernel
theorem dX2_sprout_51 : decode cX2_sprout 51 = .ok (.aload_n 0, 1) := by decide +kernel
theorem dX2_sprout_52 : decode cX2_sprout 52 = .ok (.getfield 29, 3) := by decide +kernel
theorem dX2_sprout_55 : decode cX2_sprout 55 = .ok (.iload_n 3, 1) := by decide +kernel
theorem dX2_sprout_56 : decode cX2_sprout 56 = .ok (.iconst (-1), 1) := by decide +kernel
theorem dX2_sprout_57 : decode cX2_sprout 57 = .ok (.invokevirtual 42, 3) := by decide +kernel
theorem dX2_sprout_60 : decode cX2_sprout 60 = .ok (.aload_n 0, 1) := by decide +kernel
theorem dX2_sprout_61 : decode cX2_sprout 61 = .ok (.getfield 32, 3) := by decide +kernel
theorem dX2_sprout_64 : decode cX2_sprout 64 = .ok (.iload_n 3, 1) := by decide +kernel
theorem dX2_sprout_65 : decode cX2_sprout 65 = .ok (.iconst (-1), 1) := by decide +kernel
theorem dX2_sprout_66 : decode cX2_sprout 66 = .ok (.invokevirtual 42, 3) := by decide +kernel
theorem dX2_sprout_69 : decode cX2_sprout 69 = .ok (.iload_n 3, 1) := by decide +kernel
theorem dX2_sprout_70 : decode cX2_sprout 70 = .ok (.ireturn, 1) := by decide +kernel
theorem dX2_putAside_0 : decode cX2_putAside 0 = .ok (.aload_n 0, 1) := by decide +kernel
theorem dX2_putAside_1 : decode cX2_putAside 1 = .ok (.getfield 14, 3) := by decide +kernel
theorem dX2_putAside_4 : decode cX2_putAside 4 = .ok (.aload_n 0, 1) := by decide +kernel
theorem dX2_putAside_5 : decode cX2_putAside 5 = .ok (.getfield 26, 3) := by decide +kernel
theorem dX2_putAside_8 : decode cX2_putAside 8 = .ok (.iload_n 1, 1) := by decide +kernel
theorem dX2_putAside_9 : decode cX2_putAside 9 = .ok (.invokevirtual 46, 3) := by decide +kernel
theorem dX2_putAside_12 : decode cX2_putAside 12 = .ok (.iconst (-1), 1) := by decide +kernel
theorem dX2_putAside_13 : decode cX2_putAside 13 = .ok (.invokevirtual 42, 3) := by decide +kernel
theorem dX2_putAside_16 : decode cX2_putAside 16 = .ok (.aload_n 0, 1) := by decide +kernel
theorem dX2_putAside_17 : decode cX2_putAside 17 = .ok (.getfield 23, 3) := by decide +kernel
theorem dX2_putAside_20 : decode cX2_putAside 20 = .ok (.iload_n 1, 1) := by decide +kernel
theorem dX2_putAside_21 : decode cX2_putAside 21 = .ok (.iconst 1, 1) := by decide +kernel
theorem dX2_putAside_22 : decode cX2_putAside 22 = .ok (.invokevirtual 42, 3) := by decide +kernel
theorem dX2_putAside_25 : decode cX2_putAside 25 = .ok (.aload_n 0, 1) := by decide +kernel
theorem dX2_putAside_26 : decode cX2_putAside 26 = .ok (.getfield 29, 3) := by decide +kernel
theorem dX2_putAside_29 : decode cX2_putAside 29 = .ok (.iload_n 1, 1) := by decide +kernel
theorem dX2_putAside_30 : decode cX2_putAside 30 = .ok (.iload_n 3, 1) := by decide +kernel
theorem dX2_putAside_31 : decode cX2_putAside 31 = .ok (.invokevirtual 42, 3) := by decide +kernel
theorem dX2_putAside_34 : decode cX2_putAside 34 = .ok (.aload_n 0, 1) := by decide +kernel
theorem dX2_putAside_35 : decode cX2_putAside 35 = .ok (.getfield 32, 3) := by decide +kernel
theorem dX2_putAside_38 : decode cX2_putAside 38 = .ok (.iload_n 1, 1) := by decide +kernel
theorem dX2_putAside_39 : decode cX2_putAside 39 = .ok (.iload_n 2, 1) := by decide +kernel
theorem dX2_putAside_40 : decode cX2_putAside 40 = .ok (.invokevirtual 42, 3) := by decide +kernel
theorem dX2_putAside_43 : decode cX2_putAside 43 = .ok (.return_, 1) := by decide +kernel
theorem dX2_burn_0 : decode cX2_burn 0 = .ok (.aload_n 0, 1) := by decide +kernel
theorem dX2_burn_1 : decode cX2_burn 1 = .ok (.getfield 23, 3) := by decide +kernel
theorem dX2_burn_4 : decode cX2_burn 4 = .ok (.iload_n 1, 1) := by decide +kernel
theorem dX2_burn_5 : decode cX2_burn 5 = .ok (.iconst 2, 1) := by decide +kernel
theorem dX2_burn_6 : decode cX2_burn 6 = .ok (.invokevirtual 42, 3) := by decide +kernel
theorem dX2_burn_9 : decode cX2_burn 9 = .ok (.aload_n 0, 1) := by decide +kernel
theorem dX2_burn_10 : decode cX2_burn 10 = .ok (.getfield 32, 3) := by decide +kernel
theorem dX2_burn_13 : decode cX2_burn 13 = .ok (.iload_n 1, 1) := by decide +kernel
theorem dX2_burn_14 : decode cX2_burn 14 = .ok (.iconst (-1), 1) := by decide +kernel
theorem dX2_burn_15 : decode cX2_burn 15 = .ok (.invokevirtual 42, 3) := by decide +kernel
theorem dX2_burn_18 : decode cX2_burn 18 = .ok (.return_, 1) := by decide +kernel
theorem dX2_numberWhere_0 : decode cX2_numberWhere 0 = .ok (.aload_n 0, 1) := by decide +kernel
theorem dX2_numberWhere_1 : decode cX2_numberWhere 1 = .ok (.getfield 23, 3) := by decide +kernel
theorem dX2_numberWhere_4 : decode cX2_numberWhere 4 = .ok (.iload_n 1, 1) := by decide +kernel
theorem dX2_numberWhere_5 : decode cX2_numberWhere 5 = .ok (.iconst 0, 1) := by decide +kernel
theorem dX2_numberWhere_6 : decode cX2_numberWhere 6 = .ok (.aload_n 0, 1) := by decide +kernel
theorem dX2_numberWhere_7 : decode cX2_numberWhere 7 = .ok (.getfield 38, 3) := by decide +kernel
theorem dX2_numberWhere_10 : decode cX2_numberWhere 10 = .ok (.invokevirtual 50, 3) := by decide +kernel
theorem dX2_numberWhere_13 : decode cX2_numberWhere 13 = .ok (.ireturn, 1) := by decide +kernel
theorem dX2_copyFrom_0 : decode cX2_copyFrom 0 = .ok (.aload_n 0, 1) := by decide +kernel
theorem dX2_copyFrom_1 : decode cX2_copyFrom 1 = .ok (.aload_n 1, 1) := by decide +kernel
theorem dX2_copyFrom_2 : decode cX2_copyFrom 2 = .ok (.getfield 38, 3) := by decide +kernel
theorem dX2_copyFrom_5 : decode cX2_copyFrom 5 = .ok (.putfield 38, 3) := by decide +kernel
theorem dX2_copyFrom_8 : decode cX2_copyFrom 8 = .ok (.aload_n 0, 1) := by decide +kernel
theorem dX2_copyFrom_9 : decode cX2_copyFrom 9 = .ok (.getfield 14, 3) := by decide +kernel
theorem dX2_copyFrom_12 : decode cX2_copyFrom 12 = .ok (.aload_n 1, 1) := by decide +kernel
theorem dX2_copyFrom_13 : decode cX2_copyFrom 13 = .ok (.getfield 14, 3) := by decide +kernel
theorem dX2_copyFrom_16 : decode cX2_copyFrom 16 = .ok (.invokevirtual 54, 3) := by decide +kernel
theorem dX2_copyFrom_19 : decode cX2_copyFrom 19 = .ok (.aload_n 0, 1) := by decide +kernel
theorem dX2_copyFrom_20 : decode cX2_copyFrom 20 = .ok (.getfield 20, 3) := by decide +kernel
theorem dX2_copyFrom_23 : decode cX2_copyFrom 23 = .ok (.aload_n 1, 1) := by decide +kernel
theorem dX2_copyFrom_24 : decode cX2_copyFrom 24 = .ok (.getfield 20, 3) := by decide +kernel
theorem dX2_copyFrom_27 : decode cX2_copyFrom 27 = .ok (.invokevirtual 54, 3) := by decide +kernel
theorem dX2_copyFrom_30 : decode cX2_copyFrom 30 = .ok (.aload_n 0, 1) := by decide +kernel
theorem dX2_copyFrom_31 : decode cX2_copyFrom 31 = .ok (.getfield 23, 3) := by decide +kernel
theorem dX2_copyFrom_34 : decode cX2_copyFrom 34 = .ok (.aload_n 1, 1) := by decide +kernel
theorem dX2_copyFrom_35 : decode cX2_copyFrom 35 = .ok (.getfield 23, 3) := by decide +kernel
theorem dX2_copyFrom_38 : decode cX2_copyFrom 38 = .ok (.invokevirtual 54, 3) := by decide +kernel
theorem dX2_copyFrom_41 : decode cX2_copyFrom 41 = .ok (.aload_n 0, 1) := by decide +kernel
theorem dX2_copyFrom_42 : decode cX2_copyFrom 42 = .ok (.getfield 26, 3) := by decide +kernel
theorem dX2_copyFrom_45 : decode cX2_copyFrom 45 = .ok (.aload_n 1, 1) := by decide +kernel
theorem dX2_copyFrom_46 : decode cX2_copyFrom 46 = .ok (.getfield 26, 3) := by decide +kernel
theorem dX2_copyFrom_49 : decode cX2_copyFrom 49 = .ok (.invokevirtual 54, 3) := by decide +kernel
theorem dX2_copyFrom_52 : decode cX2_copyFrom 52 = .ok (.aload_n 0, 1) := by decide +kernel
theorem dX2_copyFrom_53 : decode cX2_copyFrom 53 = .ok (.getfield 29, 3) := by decide +kernel
theorem dX2_copyFrom_56 : decode cX2_copyFrom 56 = .ok (.aload_n 1, 1) := by decide +kernel
theorem dX2_copyFrom_57 : decode cX2_copyFrom 57 = .ok (.getfield 29, 3) := by decide +kernel
theorem dX2_copyFrom_60 : decode cX2_copyFrom 60 = .ok (.invokevirtual 54, 3) := by decide +kernel
theorem dX2_copyFrom_63 : decode cX2_copyFrom 63 = .ok (.aload_n 0, 1) := by decide +kernel
theorem dX2_copyFrom_64 : decode cX2_copyFrom 64 = .ok (.getfield 32, 3) := by decide +kernel
theorem dX2_copyFrom_67 : decode cX2_copyFrom 67 = .ok (.aload_n 1, 1) := by decide +kernel
theorem dX2_copyFrom_68 : decode cX2_copyFrom 68 = .ok (.getfield 32, 3) := by decide +kernel
theorem dX2_copyFrom_71 : decode cX2_copyFrom 71 = .ok (.invokevirtual 54, 3) := by decide +kernel
theorem dX2_copyFrom_74 : decode cX2_copyFrom 74 = .ok (.return_, 1) := by decide +kernel
theorem dX3_init_0 : decode cX3_init 0 = .ok (.aload_n 0, 1) := by decide +kernel
theorem dX3_init_1 : decode cX3_init 1 = .ok (.invokespecial 3, 3) := by decide +kernel
theorem dX3_init_4 : decode cX3_init 4 = .ok (.aload_n 0, 1) := by decide +kernel
theorem dX3_init_5 : decode cX3_init 5 = .ok (.new 9, 3) := by decide +kernel
theorem dX3_init_8 : decode cX3_init 8 = .ok (.dup, 1) := by decide +kernel
theorem dX3_init_9 : decode cX3_init 9 = .ok (.bipush 60, 2) := by decide +kernel
theorem dX3_init_11 : decode cX3_init 11 = .ok (.invokespecial 11, 3) := by decide +kernel
theorem dX3_init_14 : decode cX3_init 14 = .ok (.putfield 14, 3) := by decide +kernel
theorem dX3_init_17 : decode cX3_init 17 = .ok (.return_, 1) := by decide +kernel
theorem dX4_init_0 : decode cX4_init 0 = .ok (.aload_n 0, 1) := by decide +kernel
theorem dX4_init_1 : decode cX4_init 1 = .ok (.invokespecial 3, 3) := by decide +kernel
theorem dX4_init_4 : decode cX4_init 4 = .ok (.aload_n 0, 1) := by decide +kernel
theorem dX4_init_5 : decode cX4_init 5 = .ok (.iload_n 1, 1) := by decide +kernel
theorem dX4_init_6 : decode cX4_init 6 = .ok (.ifCond .ge 7, 3) := by decide +kernel
theorem dX4_init_9 : decode cX4_init 9 = .ok (.iconst 0, 1) := by decide +kernel
theorem dX4_init_10 : decode cX4_init 10 = .ok (.goto 4, 3) := by decide +kernel
theorem dX4_init_13 : decode cX4_init 13 = .ok (.iload_n 1, 1) := by decide +kernel
theorem dX4_init_14 : decode cX4_init 14 = .ok (.newarray .int, 2) := by decide +kernel
theorem dX4_init_16 : decode cX4_init 16 = .ok (.putfield 9, 3) := by decide +kernel
theorem dX4_init_19 : decode cX4_init 19 = .ok (.return_, 1) := by decide +kernel
theorem dX4_get_0 : decode cX4_get 0 = .ok (.iload_n 1, 1) := by decide +kernel
theorem dX4_get_1 : decode cX4_get 1 = .ok (.ifCond .lt 21, 3) := by decide +kernel
theorem dX4_get_4 : decode cX4_get 4 = .ok (.iload_n 1, 1) := by decide +kernel
theorem dX4_get_5 : decode cX4_get 5 = .ok (.aload_n 0, 1) := by decide +kernel
theorem dX4_get_6 : decode cX4_get 6 = .ok (.getfield 9, 3) := by decide +kernel
theorem dX4_get_9 : decode cX4_get 9 = .ok (.arraylength, 1) := by decide +kernel
theorem dX4_get_10 : decode cX4_get 10 = .ok (.if_icmp .ge 12, 3) := by decide +kernel
theorem dX4_get_13 : decode cX4_get 13 = .ok (.aload_n 0, 1) := by decide +kernel
theorem dX4_get_14 : decode cX4_get 14 = .ok (.getfield 9, 3) := by decide +kernel
theorem dX4_get_17 : decode cX4_get 17 = .ok (.iload_n 1, 1) := by decide +kernel
theorem dX4_get_18 : decode cX4_get 18 = .ok (.iaload, 1) := by decide +kernel
theorem dX4_get_19 : decode cX4_get 19 = .ok (.goto 4, 3) := by decide +kernel
theorem dX4_get_22 : decode cX4_get 22 = .ok (.iconst (-1), 1) := by decide +kernel
theorem dX4_get_23 : decode cX4_get 23 = .ok (.ireturn, 1) := by decide +kernel
theorem dX4_put_0 : decode cX4_put 0 = .ok (.iload_n 1, 1) := by decide +kernel
theorem dX4_put_1 : decode cX4_put 1 = .ok (.ifCond .lt 19, 3) := by decide +kernel
theorem dX4_put_4 : decode cX4_put 4 = .ok (.iload_n 1, 1) := by decide +kernel
theorem dX4_put_5 : decode cX4_put 5 = .ok (.aload_n 0, 1) := by decide +kernel
theorem dX4_put_6 : decode cX4_put 6 = .ok (.getfield 9, 3) := by decide +kernel
theorem dX4_put_9 : decode cX4_put 9 = .ok (.arraylength, 1) := by decide +kernel
theorem dX4_put_10 : decode cX4_put 10 = .ok (.if_icmp .ge 10, 3) := by decide +kernel
theorem dX4_put_13 : decode cX4_put 13 = .ok (.aload_n 0, 1) := by decide +kernel
theorem dX4_put_14 : decode cX4_put 14 = .ok (.getfield 9, 3) := by decide +kernel
theorem dX4_put_17 : decode cX4_put 17 = .ok (.iload_n 1, 1) := by decide +kernel
theorem dX4_put_18 : decode cX4_put 18 = .ok (.iload_n 2, 1) := by decide +kernel
theorem dX4_put_19 : decode cX4_put 19 = .ok (.iastore, 1) := by decide +kernel
theorem dX4_put_20 : decode cX4_put 20 = .ok (.return_, 1) := by decide +kernel
theorem dX4_add_0 : decode cX4_add 0 = .ok (.aload_n 0, 1) := by decide +kernel
theorem dX4_add_1 : decode cX4_add 1 = .ok (.iload_n 1, 1) := by decide +kernel
theorem dX4_add_2 : decode cX4_add 2 = .ok (.aload_n 0, 1) := by decide +kernel
theorem dX4_add_3 : decode cX4_add 3 = .ok (.iload_n 1, 1) := by decide +kernel
theorem dX4_add_4 : decode cX4_add 4 = .ok (.invokevirtual 15, 3) := by decide +kernel
theorem dX4_add_7 : decode cX4_add 7 = .ok (.iload_n 2, 1) := by decide +kernel
theorem dX4_add_8 : decode cX4_add 8 = .ok (.iadd, 1) := by decide +kernel
theorem dX4_add_9 : decode cX4_add 9 = .ok (.invokevirtual 19, 3) := by decide +kernel
theorem dX4_add_12 : decode cX4_add 12 = .ok (.return_, 1) := by decide +kernel
theorem dX4_fill_0 : decode cX4_fill 0 = .ok (.iconst 0, 1) := by decide +kernel
theorem dX4_fill_1 : decode cX4_fill 1 = .ok (.istore_n 2, 1) := by decide +kernel
theorem dX4_fill_2 : decode cX4_fill 2 = .ok (.iload_n 2, 1) := by decide +kernel
theorem dX4_fill_3 : decode cX4_fill 3 = .ok (.aload_n 0, 1) := by decide +kernel
theorem dX4_fill_4 : decode cX4_fill 4 = .ok (.getfield 9, 3) := by decide +kernel
theorem dX4_fill_7 : decode cX4_fill 7 = .ok (.arraylength, 1) := by decide +kernel
theorem dX4_fill_8 : decode cX4_fill 8 = .ok (.if_icmp .ge 16, 3) := by decide +kernel
theorem dX4_fill_11 : decode cX4_fill 11 = .ok (.aload_n 0, 1) := by decide +kernel
theorem dX4_fill_12 : decode cX4_fill 12 = .ok (.getfield 9, 3) := by decide +kernel
theorem dX4_fill_15 : decode cX4_fill 15 = .ok (.iload_n 2, 1) := by decide +kernel
theorem dX4_fill_16 : decode cX4_fill 16 = .ok (.iload_n 1, 1) := by decide +kernel
theorem dX4_fill_17 : decode cX4_fill 17 = .ok (.iastore, 1) := by decide +kernel
theorem dX4_fill_18 : decode cX4_fill 18 = .ok (.iinc 2 1, 3) := by decide +kernel
theorem dX4_fill_21 : decode cX4_fill 21 = .ok (.goto (-19), 3) := by decide +kernel
theorem dX4_fill_24 : decode cX4_fill 24 = .ok (.return_, 1) := by decide +kernel
theorem dX4_number_0 : decode cX4_number 0 = .ok (.iconst 0, 1) := by decide +kernel
theorem dX4_number_1 : decode cX4_number 1 = .ok (.istore 4, 2) := by decide +kernel
theorem dX4_number_3 : decode cX4_number 3 = .ok (.iload_n 2, 1) := by decide +kernel
theorem dX4_number_4 : decode cX4_number 4 = .ok (.ifCond .ge 7, 3) := by decide +kernel
theorem dX4_number_7 : decode cX4_number 7 = .ok (.iconst 0, 1) := by decide +kernel
theorem dX4_number_8 : decode cX4_number 8 = .ok (.goto 4, 3) := by decide +kernel
theorem dX4_number_11 : decode cX4_number 11 = .ok (.iload_n 2, 1) := by decide +kernel
theorem dX4_number_12 : decode cX4_number 12 = .ok (.istore 5, 2) := by decide +kernel
theorem dX4_number_14 : decode cX4_number 14 = .ok (.iload 5, 2) := by decide +kernel
theorem dX4_number_16 : decode cX4_number 16 = .ok (.iload_n 3, 1) := by decide +kernel
theorem dX4_number_17 : decode cX4_number 17 = .ok (.if_icmp .ge 40, 3) := by decide +kernel
theorem dX4_number_20 : decode cX4_number 20 = .ok (.iload 5, 2) := by decide +kernel
theorem dX4_number_22 : decode cX4_number 22 = .ok (.aload_n 0, 1) := by decide +kernel
theorem dX4_number_23 : decode cX4_number 23 = .ok (.getfield 9, 3) := by decide +kernel
theorem dX4_number_26 : decode cX4_number 26 = .ok (.arraylength, 1) := by decide +kernel
theorem dX4_number_27 : decode cX4_number 27 = .ok (.if_icmp .ge 30, 3) := by decide +kernel
theorem dX4_number_30 : decode cX4_number 30 = .ok (.iload 4, 2) := by decide +kernel
theorem dX4_number_32 : decode cX4_number 32 = .ok (.aload_n 0, 1) := by decide +kernel
theorem dX4_number_33 : decode cX4_number 33 = .ok (.getfield 9, 3) := by decide +kernel
theorem dX4_number_36 : decode cX4_number 36 = .ok (.iload 5, 2) := by decide +kernel
theorem dX4_number_38 : decode cX4_number 38 = .ok (.iaload, 1) := by decide +kernel
theorem dX4_number_39 : decode cX4_number 39 = .ok (.iload_n 1, 1) := by decide +kernel
theorem dX4_number_40 : decode cX4_number 40 = .ok (.if_icmp .ne 7, 3) := by decide +kernel
theorem dX4_number_43 : decode cX4_number 43 = .ok (.iconst 1, 1) := by decide +kernel
theorem dX4_number_44 : decode cX4_number 44 = .ok (.goto 4, 3) := by decide +kernel
theorem dX4_number_47 : decode cX4_number 47 = .ok (.iconst 0, 1) := by decide +kernel
theorem dX4_number_48 : decode cX4_number 48 = .ok (.iadd, 1) := by decide +kernel
theorem dX4_number_49 : decode cX4_number 49 = .ok (.istore 4, 2) := by decide +kernel
theorem dX4_number_51 : decode cX4_number 51 = .ok (.iinc 5 1, 3) := by decide +kernel
theorem dX4_number_54 : decode cX4_number 54 = .ok (.goto (-40), 3) := by decide +kernel
theorem dX4_number_57 : decode cX4_number 57 = .ok (.iload 4, 2) := by decide +kernel
theorem dX4_number_59 : decode cX4_number 59 = .ok (.ireturn, 1) := by decide +kernel
theorem dX4_copyFrom_0 : decode cX4_copyFrom 0 = .ok (.aload_n 1, 1) := by decide +kernel
theorem dX4_copyFrom_1 : decode cX4_copyFrom 1 = .ok (.getfield 9, 3) := by decide +kernel
theorem dX4_copyFrom_4 : decode cX4_copyFrom 4 = .ok (.iconst 0, 1) := by decide +kernel
theorem dX4_copyFrom_5 : decode cX4_copyFrom 5 = .ok (.aload_n 0, 1) := by decide +kernel
theorem dX4_copyFrom_6 : decode cX4_copyFrom 6 = .ok (.getfield 9, 3) := by decide +kernel
theorem dX4_copyFrom_9 : decode cX4_copyFrom 9 = .ok (.iconst 0, 1) := by decide +kernel
theorem dX4_copyFrom_10 : decode cX4_copyFrom 10 = .ok (.aload_n 0, 1) := by decide +kernel
theorem dX4_copyFrom_11 : decode cX4_copyFrom 11 = .ok (.getfield 9, 3) := by decide +kernel
theorem dX4_copyFrom_14 : decode cX4_copyFrom 14 = .ok (.arraylength, 1) := by decide +kernel
theorem dX4_copyFrom_15 : decode cX4_copyFrom 15 = .ok (.aload_n 1, 1) := by decide +kernel
theorem dX4_copyFrom_16 : decode cX4_copyFrom 16 = .ok (.getfield 9, 3) := by decide +kernel
theorem dX4_copyFrom_19 : decode cX4_copyFrom 19 = .ok (.arraylength, 1) := by decide +kernel
theorem dX4_copyFrom_20 : decode cX4_copyFrom 20 = .ok (.invokestatic 23, 3) := by decide +kernel
theorem dX4_copyFrom_23 : decode cX4_copyFrom 23 = .ok (.invokestatic 29, 3) := by decide +kernel
theorem dX4_copyFrom_26 : decode cX4_copyFrom 26 = .ok (.return_, 1) := by decide +kernel
theorem dX5_init_0 : decode cX5_init 0 = .ok (.aload_n 0, 1) := by decide +kernel
theorem dX5_init_1 : decode cX5_init 1 = .ok (.invokespecial 3, 3) := by decide +kernel
theorem dX5_init_4 : decode cX5_init 4 = .ok (.aload_n 0, 1) := by decide +kernel
theorem dX5_init_5 : decode cX5_init 5 = .ok (.bipush 6, 2) := by decide +kernel
theorem dX5_init_7 : decode cX5_init 7 = .ok (.anewarray 9, 3) := by decide +kernel
theorem dX5_init_10 : decode cX5_init 10 = .ok (.putfield 11, 3) := by decide +kernel
theorem dX5_init_13 : decode cX5_init 13 = .ok (.iconst 0, 1) := by decide +kernel
theorem dX5_init_14 : decode cX5_init 14 = .ok (.istore_n 1, 1) := by decide +kernel
theorem dX5_init_15 : decode cX5_init 15 = .ok (.iload_n 1, 1) := by decide +kernel
theorem dX5_init_16 : decode cX5_init 16 = .ok (.aload_n 0, 1) := by decide +kernel
theorem dX5_init_17 : decode cX5_init 17 = .ok (.getfield 11, 3) := by decide +kernel
theorem dX5_init_20 : decode cX5_init 20 = .ok (.arraylength, 1) := by decide +kernel
theorem dX5_init_21 : decode cX5_init 21 = .ok (.if_icmp .ge 22, 3) := by decide +kernel
theorem dX5_init_24 : decode cX5_init 24 = .ok (.aload_n 0, 1) := by decide +kernel
theorem dX5_init_25 : decode cX5_init 25 = .ok (.getfield 11, 3) := by decide +kernel
theorem dX5_init_28 : decode cX5_init 28 = .ok (.iload_n 1, 1) := by decide +kernel
theorem dX5_init_29 : decode cX5_init 29 = .ok (.new 9, 3) := by decide +kernel
theorem dX5_init_32 : decode cX5_init 32 = .ok (.dup, 1) := by decide +kernel
theorem dX5_init_33 : decode cX5_init 33 = .ok (.invokespecial 17, 3) := by decide +kernel
theorem dX5_init_36 : decode cX5_init 36 = .ok (.aastore, 1) := by decide +kernel
theorem dX5_init_37 : decode cX5_init 37 = .ok (.iinc 1 1, 3) := by decide +kernel
theorem dX5_init_40 : decode cX5_init 40 = .ok (.goto (-25), 3) := by decide +kernel
theorem dX5_init_43 : decode cX5_init 43 = .ok (.return_, 1) := by decide +kernel
theorem dX5_number_0 : decode cX5_number 0 = .ok (.aload_n 0, 1) := by decide +kernel
theorem dX5_number_1 : decode cX5_number 1 = .ok (.getfield 18, 3) := by decide +kernel
theorem dX5_number_4 : decode cX5_number 4 = .ok (.ireturn, 1) := by decide +kernel
theorem dX5_push_0 : decode cX5_push 0 = .ok (.aload_n 0, 1) := by decide +kernel
theorem dX5_push_1 : decode cX5_push 1 = .ok (.aload_n 0, 1) := by decide +kernel
theorem dX5_push_2 : decode cX5_push 2 = .ok (.getfield 22, 3) := by decide +kernel
theorem dX5_push_5 : decode cX5_push 5 = .ok (.invokevirtual 25, 3) := by decide +kernel
theorem dX5_push_8 : decode cX5_push 8 = .ok (.astore_n 2, 1) := by decide +kernel
theorem dX5_push_9 : decode cX5_push 9 = .ok (.aload_n 2, 1) := by decide +kernel
theorem dX5_push_10 : decode cX5_push 10 = .ok (.ifnull 48, 3) := by decide +kernel
theorem dX5_push_13 : decode cX5_push 13 = .ok (.aload_n 2, 1) := by decide +kernel
theorem dX5_push_14 : decode cX5_push 14 = .ok (.aload_n 1, 1) := by decide +kernel
theorem dX5_push_15 : decode cX5_push 15 = .ok (.invokevirtual 29, 3) := by decide +kernel
theorem dX5_push_18 : decode cX5_push 18 = .ok (.aload_n 0, 1) := by decide +kernel
theorem dX5_push_19 : decode cX5_push 19 = .ok (.aload_n 0, 1) := by decide +kernel
theorem dX5_push_20 : decode cX5_push 20 = .ok (.getfield 22, 3) := by decide +kernel
theorem dX5_push_23 : decode cX5_push 23 = .ok (.iconst 1, 1) := by decide +kernel
theorem dX5_push_24 : decode cX5_push 24 = .ok (.iadd, 1) := by decide +kernel
theorem dX5_push_25 : decode cX5_push 25 = .ok (.bipush 6, 2) := by decide +kernel
theorem dX5_push_27 : decode cX5_push 27 = .ok (.if_icmp .ge 12, 3) := by decide +kernel
theorem dX5_push_30 : decode cX5_push 30 = .ok (.aload_n 0, 1) := by decide +kernel
theorem dX5_push_31 : decode cX5_push 31 = .ok (.getfield 22, 3) := by decide +kernel
theorem dX5_push_34 : decode cX5_push 34 = .ok (.iconst 1, 1) := by decide +kernel
theorem dX5_push_35 : decode cX5_push 35 = .ok (.iadd, 1) := by decide +kernel
theorem dX5_push_36 : decode cX5_push 36 = .ok (.goto 4, 3) := by decide +kernel
theorem dX5_push_39 : decode cX5_push 39 = .ok (.iconst 0, 1) := by decide +kernel
theorem dX5_push_40 : decode cX5_push 40 = .ok (.putfield 22, 3) := by decide +kernel
theorem dX5_push_43 : decode cX5_push 43 = .ok (.aload_n 0, 1) := by decide +kernel
theorem dX5_push_44 : decode cX5_push 44 = .ok (.aload_n 0, 1) := by decide +kernel
theorem dX5_push_45 : decode cX5_push 45 = .ok (.getfield 18, 3) := by decide +kernel
theorem dX5_push_48 : decode cX5_push 48 = .ok (.iconst 1, 1) := by decide +kernel
theorem dX5_push_49 : decode cX5_push 49 = .ok (.iadd, 1) := by decide +kernel
theorem dX5_push_50 : decode cX5_push 50 = .ok (.bipush 6, 2) := by decide +kernel
theorem dX5_push_52 : decode cX5_push 52 = .ok (.invokestatic 33, 3) := by decide +kernel
theorem dX5_push_55 : decode cX5_push 55 = .ok (.putfield 18, 3) := by decide +kernel
theorem dX5_push_58 : decode cX5_push 58 = .ok (.return_, 1) := by decide +kernel
theorem dX5_popInto_0 : decode cX5_popInto 0 = .ok (.aload_n 0, 1) := by decide +kernel
theorem dX5_popInto_1 : decode cX5_popInto 1 = .ok (.getfield 22, 3) := by decide +kernel
theorem dX5_popInto_4 : decode cX5_popInto 4 = .ok (.ifCond .le 12, 3) := by decide +kernel
theorem dX5_popInto_7 : decode cX5_popInto 7 = .ok (.aload_n 0, 1) := by decide +kernel
theorem dX5_popInto_8 : decode cX5_popInto 8 = .ok (.getfield 22, 3) := by decide +kernel
theorem dX5_popInto_11 : decode cX5_popInto 11 = .ok (.iconst 1, 1) := by decide +kernel
theorem dX5_popInto_12 : decode cX5_popInto 12 = .ok (.isub, 1) := by decide +kernel
theorem dX5_popInto_13 : decode cX5_popInto 13 = .ok (.goto 4, 3) := by decide +kernel
theorem dX5_popInto_16 : decode cX5_popInto 16 = .ok (.iconst 5, 1) := by decide +kernel
theorem dX5_popInto_17 : decode cX5_popInto 17 = .ok (.istore_n 2, 1) := by decide +kernel
theorem dX5_popInto_18 : decode cX5_popInto 18 = .ok (.aload_n 0, 1) := by decide +kernel
theorem dX5_popInto_19 : decode cX5_popInto 19 = .ok (.iload_n 2, 1) := by decide +kernel
theorem dX5_popInto_20 : decode cX5_popInto 20 = .ok (.invokevirtual 25, 3) := by decide +kernel
theorem dX5_popInto_23 : decode cX5_popInto 23 = .ok (.astore_n 3, 1) := by decide +kernel
theorem dX5_popInto_24 : decode cX5_popInto 24 = .ok (.aload_n 0, 1) := by decide +kernel
theorem dX5_popInto_25 : decode cX5_popInto 25 = .ok (.getfield 18, 3) := by decide +kernel
theorem dX5_popInto_28 : decode cX5_popInto 28 = .ok (.ifCond .le 27, 3) := by decide +kernel
theorem dX5_popInto_31 : decode cX5_popInto 31 = .ok (.aload_n 3, 1) := by decide +kernel
theorem dX5_popInto_32 : decode cX5_popInto 32 = .ok (.ifnull 23, 3) := by decide +kernel
theorem dX5_popInto_35 : decode cX5_popInto 35 = .ok (.aload_n 1, 1) := by decide +kernel
theorem dX5_popInto_36 : decode cX5_popInto 36 = .ok (.aload_n 3, 1) := by decide +kernel
theorem dX5_popInto_37 : decode cX5_popInto 37 = .ok (.invokevirtual 29, 3) := by decide +kernel
theorem dX5_popInto_40 : decode cX5_popInto 40 = .ok (.aload_n 0, 1) := by decide +kernel
theorem dX5_popInto_41 : decode cX5_popInto 41 = .ok (.iload_n 2, 1) := by decide +kernel
theorem dX5_popInto_42 : decode cX5_popInto 42 = .ok (.putfield 22, 3) := by decide +kernel
theorem dX5_popInto_45 : decode cX5_popInto 45 = .ok (.aload_n 0, 1) := by decide +kernel
theorem dX5_popInto_46 : decode cX5_popInto 46 = .ok (.dup, 1) := by decide +kernel
theorem dX5_popInto_47 : decode cX5_popInto 47 = .ok (.getfield 18, 3) := by decide +kernel
theorem dX5_popInto_50 : decode cX5_popInto 50 = .ok (.iconst 1, 1) := by decide +kernel
theorem dX5_popInto_51 : decode cX5_popInto 51 = .ok (.isub, 1) := by decide +kernel
theorem dX5_popInto_52 : decode cX5_popInto 52 = .ok (.putfield 18, 3) := by decide +kernel
theorem dX5_popInto_55 : decode cX5_popInto 55 = .ok (.return_, 1) := by decide +kernel
theorem dX5_placeAt_0 : decode cX5_placeAt 0 = .ok (.iload_n 1, 1) := by decide +kernel
theorem dX5_placeAt_1 : decode cX5_placeAt 1 = .ok (.ifCond .lt 21, 3) := by decide +kernel
theorem dX5_placeAt_4 : decode cX5_placeAt 4 = .ok (.iload_n 1, 1) := by decide +kernel
theorem dX5_placeAt_5 : decode cX5_placeAt 5 = .ok (.aload_n 0, 1) := by decide +kernel
theorem dX5_placeAt_6 : decode cX5_placeAt 6 = .ok (.getfield 11, 3) := by decide +kernel
theorem dX5_placeAt_9 : decode cX5_placeAt 9 = .ok (.arraylength, 1) := by decide +kernel
theorem dX5_placeAt_10 : decode cX5_placeAt 10 = .ok (.if_icmp .ge 12, 3) := by decide +kernel
theorem dX5_placeAt_13 : decode cX5_placeAt 13 = .ok (.aload_n 0, 1) := by decide +kernel
theorem dX5_placeAt_14 : decode cX5_placeAt 14 = .ok (.getfield 11, 3) := by decide +kernel
theorem dX5_placeAt_17 : decode cX5_placeAt 17 = .ok (.iload_n 1, 1) := by decide +kernel
theorem dX5_placeAt_18 : decode cX5_placeAt 18 = .ok (.aaload, 1) := by decide +kernel
theorem dX5_placeAt_19 : decode cX5_placeAt 19 = .ok (.goto 4, 3) := by decide +kernel
theorem dX5_placeAt_22 : decode cX5_placeAt 22 = .ok (.aconst_null, 1) := by decide +kernel
theorem dX5_placeAt_23 : decode cX5_placeAt 23 = .ok (.areturn, 1) := by decide +kernel
theorem dX6_init_0 : decode cX6_init 0 = .ok (.aload_n 0, 1) := by decide +kernel
theorem dX6_init_1 : decode cX6_init 1 = .ok (.invokespecial 3, 3) := by decide +kernel
theorem dX6_init_4 : decode cX6_init 4 = .ok (.aload_n 0, 1) := by decide +kernel
theorem dX6_init_5 : decode cX6_init 5 = .ok (.iconst 4, 1) := by decide +kernel
theorem dX6_init_6 : decode cX6_init 6 = .ok (.putfield 9, 3) := by decide +kernel
theorem dX6_init_9 : decode cX6_init 9 = .ok (.aload_n 0, 1) := by decide +kernel
theorem dX6_init_10 : decode cX6_init 10 = .ok (.iconst 0, 1) := by decide +kernel
theorem dX6_init_11 : decode cX6_init 11 = .ok (.putfield 15, 3) := by decide +kernel
theorem dX6_init_14 : decode cX6_init 14 = .ok (.aload_n 0, 1) := by decide +kernel
theorem dX6_init_15 : decode cX6_init 15 = .ok (.new 18, 3) := by decide +kernel
theorem dX6_init_18 : decode cX6_init 18 = .ok (.dup, 1) := by decide +kernel
theorem dX6_init_19 : decode cX6_init 19 = .ok (.invokespecial 20, 3) := by decide +kernel
theorem dX6_init_22 : decode cX6_init 22 = .ok (.putfield 21, 3) := by decide +kernel
theorem dX6_init_25 : decode cX6_init 25 = .ok (.aload_n 0, 1) := by decide +kernel
theorem dX6_init_26 : decode cX6_init 26 = .ok (.new 25, 3) := by decide +kernel
theorem dX6_init_29 : decode cX6_init 29 = .ok (.dup, 1) := by decide +kernel
theorem dX6_init_30 : decode cX6_init 30 = .ok (.invokespecial 27, 3) := by decide +kernel
theorem dX6_init_33 : decode cX6_init 33 = .ok (.putfield 28, 3) := by decide +kernel
theorem dX6_init_36 : decode cX6_init 36 = .ok (.aload_n 0, 1) := by decide +kernel
theorem dX6_init_37 : decode cX6_init 37 = .ok (.new 32, 3) := by decide +kernel
theorem dX6_init_40 : decode cX6_init 40 = .ok (.dup, 1) := by decide +kernel
theorem dX6_init_41 : decode cX6_init 41 = .ok (.invokespecial 34, 3) := by decide +kernel
theorem dX6_init_44 : decode cX6_init 44 = .ok (.putfield 35, 3) := by decide +kernel
theorem dX6_init_47 : decode cX6_init 47 = .ok (.return_, 1) := by decide +kernel
theorem dX6_copyFrom_0 : decode cX6_copyFrom 0 = .ok (.aload_n 0, 1) := by decide +kernel
theorem dX6_copyFrom_1 : decode cX6_copyFrom 1 = .ok (.aload_n 1, 1) := by decide +kernel
theorem dX6_copyFrom_2 : decode cX6_copyFrom 2 = .ok (.getfield 39, 3) := by decide +kernel
theorem dX6_copyFrom_5 : decode cX6_copyFrom 5 = .ok (.putfield 39, 3) := by decide +kernel
theorem dX6_copyFrom_8 : decode cX6_copyFrom 8 = .ok (.aload_n 0, 1) := by decide +kernel
theorem dX6_copyFrom_9 : decode cX6_copyFrom 9 = .ok (.aload_n 1, 1) := by decide +kernel
theorem dX6_copyFrom_10 : decode cX6_copyFrom 10 = .ok (.getfield 9, 3) := by decide +kernel
theorem dX6_copyFrom_13 : decode cX6_copyFrom 13 = .ok (.putfield 9, 3) := by decide +kernel
theorem dX6_copyFrom_16 : decode cX6_copyFrom 16 = .ok (.aload_n 0, 1) := by decide +kernel
theorem dX6_copyFrom_17 : decode cX6_copyFrom 17 = .ok (.aload_n 1, 1) := by decide +kernel
theorem dX6_copyFrom_18 : decode cX6_copyFrom 18 = .ok (.getfield 15, 3) := by decide +kernel
theorem dX6_copyFrom_21 : decode cX6_copyFrom 21 = .ok (.putfield 15, 3) := by decide +kernel
theorem dX6_copyFrom_24 : decode cX6_copyFrom 24 = .ok (.aload_n 0, 1) := by decide +kernel
theorem dX6_copyFrom_25 : decode cX6_copyFrom 25 = .ok (.aload_n 1, 1) := by decide +kernel
theorem dX6_copyFrom_26 : decode cX6_copyFrom 26 = .ok (.getfield 42, 3) := by decide +kernel
theorem dX6_copyFrom_29 : decode cX6_copyFrom 29 = .ok (.putfield 42, 3) := by decide +kernel
theorem dX6_copyFrom_32 : decode cX6_copyFrom 32 = .ok (.aload_n 0, 1) := by decide +kernel
theorem dX6_copyFrom_33 : decode cX6_copyFrom 33 = .ok (.aload_n 1, 1) := by decide +kernel
theorem dX6_copyFrom_34 : decode cX6_copyFrom 34 = .ok (.getfield 45, 3) := by decide +kernel
theorem dX6_copyFrom_37 : decode cX6_copyFrom 37 = .ok (.putfield 45, 3) := by decide +kernel
theorem dX6_copyFrom_40 : decode cX6_copyFrom 40 = .ok (.aload_n 0, 1) := by decide +kernel
theorem dX6_copyFrom_41 : decode cX6_copyFrom 41 = .ok (.aload_n 1, 1) := by decide +kernel
theorem dX6_copyFrom_42 : decode cX6_copyFrom 42 = .ok (.getfield 48, 3) := by decide +kernel
theorem dX6_copyFrom_45 : decode cX6_copyFrom 45 = .ok (.putfield 48, 3) := by decide +kernel
theorem dX6_copyFrom_48 : decode cX6_copyFrom 48 = .ok (.aload_n 0, 1) := by decide +kernel
theorem dX6_copyFrom_49 : decode cX6_copyFrom 49 = .ok (.aload_n 1, 1) := by decide +kernel
theorem dX6_copyFrom_50 : decode cX6_copyFrom 50 = .ok (.getfield 51, 3) := by decide +kernel
theorem dX6_copyFrom_53 : decode cX6_copyFrom 53 = .ok (.putfield 51, 3) := by decide +kernel
theorem dX6_copyFrom_56 : decode cX6_copyFrom 56 = .ok (.aload_n 0, 1) := by decide +kernel
theorem dX6_copyFrom_57 : decode cX6_copyFrom 57 = .ok (.aload_n 1, 1) := by decide +kernel
theorem dX6_copyFrom_58 : decode cX6_copyFrom 58 = .ok (.getfield 54, 3) := by decide +kernel
theorem dX6_copyFrom_61 : decode cX6_copyFrom 61 = .ok (.putfield 54, 3) := by decide +kernel
theorem dX6_copyFrom_64 : decode cX6_copyFrom 64 = .ok (.aload_n 0, 1) := by decide +kernel
theorem dX6_copyFrom_65 : decode cX6_copyFrom 65 = .ok (.getfield 21, 3) := by decide +kernel
theorem dX6_copyFrom_68 : decode cX6_copyFrom 68 = .ok (.aload_n 1, 1) := by decide +kernel
theorem dX6_copyFrom_69 : decode cX6_copyFrom 69 = .ok (.getfield 21, 3) := by decide +kernel
theorem dX6_copyFrom_72 : decode cX6_copyFrom 72 = .ok (.invokevirtual 57, 3) := by decide +kernel
theorem dX6_copyFrom_75 : decode cX6_copyFrom 75 = .ok (.aload_n 0, 1) := by decide +kernel
theorem dX6_copyFrom_76 : decode cX6_copyFrom 76 = .ok (.getfield 28, 3) := by decide +kernel
theorem dX6_copyFrom_79 : decode cX6_copyFrom 79 = .ok (.aload_n 1, 1) := by decide +kernel
theorem dX6_copyFrom_80 : decode cX6_copyFrom 80 = .ok (.getfield 28, 3) := by decide +kernel
theorem dX6_copyFrom_83 : decode cX6_copyFrom 83 = .ok (.invokevirtual 61, 3) := by decide +kernel
theorem dX6_copyFrom_86 : decode cX6_copyFrom 86 = .ok (.aload_n 0, 1) := by decide +kernel
theorem dX6_copyFrom_87 : decode cX6_copyFrom 87 = .ok (.getfield 35, 3) := by decide +kernel
theorem dX6_copyFrom_90 : decode cX6_copyFrom 90 = .ok (.aload_n 1, 1) := by decide +kernel
theorem dX6_copyFrom_91 : decode cX6_copyFrom 91 = .ok (.getfield 35, 3) := by decide +kernel
theorem dX6_copyFrom_94 : decode cX6_copyFrom 94 = .ok (.invokevirtual 64, 3) := by decide +kernel
theorem dX6_copyFrom_97 : decode cX6_copyFrom 97 = .ok (.return_, 1) := by decide +kernel
theorem dX6_addChild_0 : decode cX6_addChild 0 = .ok (.aload_n 0, 1) := by decide +kernel
theorem dX6_addChild_1 : decode cX6_addChild 1 = .ok (.getfield 28, 3) := by decide +kernel
theorem dX6_addChild_4 : decode cX6_addChild 4 = .ok (.invokevirtual 67, 3) := by decide +kernel
theorem dX6_addChild_7 : decode cX6_addChild 7 = .ok (.istore_n 1, 1) := by decide +kernel
theorem dX6_addChild_8 : decode cX6_addChild 8 = .ok (.aload_n 0, 1) := by decide +kernel
theorem dX6_addChild_9 : decode cX6_addChild 9 = .ok (.getfield 28, 3) := by decide +kernel
theorem dX6_addChild_12 : decode cX6_addChild 12 = .ok (.iload_n 1, 1) := by decide +kernel
theorem dX6_addChild_13 : decode cX6_addChild 13 = .ok (.invokevirtual 71, 3) := by decide +kernel
theorem dX6_addChild_16 : decode cX6_addChild 16 = .ok (.iload_n 1, 1) := by decide +kernel
theorem dX6_addChild_17 : decode cX6_addChild 17 = .ok (.ireturn, 1) := by decide +kernel
theorem dX6_removeChild_0 : decode cX6_removeChild 0 = .ok (.aload_n 0, 1) := by decide +kernel
theorem dX6_removeChild_1 : decode cX6_removeChild 1 = .ok (.getfield 28, 3) := by decide +kernel
theorem dX6_removeChild_4 : decode cX6_removeChild 4 = .ok (.getfield 75, 3) := by decide +kernel
theorem dX6_removeChild_7 : decode cX6_removeChild 7 = .ok (.iload_n 1, 1) := by decide +kernel
theorem dX6_removeChild_8 : decode cX6_removeChild 8 = .ok (.invokevirtual 79, 3) := by decide +kernel
theorem dX6_removeChild_11 : decode cX6_removeChild 11 = .ok (.istore_n 2, 1) := by decide +kernel
theorem dX6_removeChild_12 : decode cX6_removeChild 12 = .ok (.aload_n 0, 1) := by decide +kernel
theorem dX6_removeChild_13 : decode cX6_removeChild 13 = .ok (.getfield 28, 3) := by decide +kernel
theorem dX6_removeChild_16 : decode cX6_removeChild 16 = .ok (.iload_n 1, 1) := by decide +kernel
theorem dX6_removeChild_17 : decode cX6_removeChild 17 = .ok (.invokevirtual 85, 3) := by decide +kernel
theorem dX6_removeChild_20 : decode cX6_removeChild 20 = .ok (.istore_n 3, 1) := by decide +kernel
theorem dX6_removeChild_21 : decode cX6_removeChild 21 = .ok (.iconst 0, 1) := by decide +kernel
theorem dX6_removeChild_22 : decode cX6_removeChild 22 = .ok (.istore 4, 2) := by decide +kernel
theorem dX6_removeChild_24 : decode cX6_removeChild 24 = .ok (.iload 4, 2) := by decide +kernel
theorem dX6_removeChild_26 : decode cX6_removeChild 26 = .ok (.iload_n 2, 1) := by decide +kernel
theorem dX6_removeChild_27 : decode cX6_removeChild 27 = .ok (.if_icmp .ge 44, 3) := by decide +kernel
theorem dX6_removeChild_30 : decode cX6_removeChild 30 = .ok (.aload_n 0, 1) := by decide +kernel
theorem dX6_removeChild_31 : decode cX6_removeChild 31 = .ok (.getfield 28, 3) := by decide +kernel
theorem dX6_removeChild_34 : decode cX6_removeChild 34 = .ok (.iload_n 1, 1) := by decide +kernel
theorem dX6_removeChild_35 : decode cX6_removeChild 35 = .ok (.iload 4, 2) := by decide +kernel
theorem dX6_removeChild_37 : decode cX6_removeChild 37 = .ok (.invokevirtual 88, 3) := by decide +kernel
theorem dX6_removeChild_40 : decode cX6_removeChild 40 = .ok (.istore 5, 2) := by decide +kernel
theorem dX6_removeChild_42 : decode cX6_removeChild 42 = .ok (.aload_n 0, 1) := by decide +kernel
theorem dX6_removeChild_43 : decode cX6_removeChild 43 = .ok (.getfield 28, 3) := by decide +kernel
theorem dX6_removeChild_46 : decode cX6_removeChild 46 = .ok (.iload_n 3, 1) := by decide +kernel
theorem dX6_removeChild_47 : decode cX6_removeChild 47 = .ok (.iload 5, 2) := by decide +kernel
theorem dX6_removeChild_49 : decode cX6_removeChild 49 = .ok (.invokevirtual 92, 3) := by decide +kernel
theorem dX6_removeChild_52 : decode cX6_removeChild 52 = .ok (.aload_n 0, 1) := by decide +kernel
theorem dX6_removeChild_53 : decode cX6_removeChild 53 = .ok (.getfield 21, 3) := by decide +kernel
theorem dX6_removeChild_56 : decode cX6_removeChild 56 = .ok (.getfield 96, 3) := by decide +kernel
theorem dX6_removeChild_59 : decode cX6_removeChild 59 = .ok (.iload 5, 2) := by decide +kernel
theorem dX6_removeChild_61 : decode cX6_removeChild 61 = .ok (.iload_n 3, 1) := by decide +kernel
theorem dX6_removeChild_62 : decode cX6_removeChild 62 = .ok (.invokevirtual 99, 3) := by decide +kernel
theorem dX6_removeChild_65 : decode cX6_removeChild 65 = .ok (.iinc 4 1, 3) := by decide +kernel
theorem dX6_removeChild_68 : decode cX6_removeChild 68 = .ok (.goto (-44), 3) := by decide +kernel
theorem dX6_removeChild_71 : decode cX6_removeChild 71 = .ok (.aload_n 0, 1) := by decide +kernel
theorem dX6_removeChild_72 : decode cX6_removeChild 72 = .ok (.getfield 28, 3) := by decide +kernel
theorem dX6_removeChild_75 : decode cX6_removeChild 75 = .ok (.iload_n 1, 1) := by decide +kernel
theorem dX6_removeChild_76 : decode cX6_removeChild 76 = .ok (.invokevirtual 102, 3) := by decide +kernel
theorem dX6_removeChild_79 : decode cX6_removeChild 79 = .ok (.aload_n 0, 1) := by decide +kernel
theorem dX6_removeChild_80 : decode cX6_removeChild 80 = .ok (.getfield 35, 3) := by decide +kernel
theorem dX6_removeChild_83 : decode cX6_removeChild 83 = .ok (.iload_n 1, 1) := by decide +kernel
theorem dX6_removeChild_84 : decode cX6_removeChild 84 = .ok (.invokevirtual 105, 3) := by decide +kernel
theorem dX6_removeChild_87 : decode cX6_removeChild 87 = .ok (.iload_n 2, 1) := by decide +kernel
theorem dX6_removeChild_88 : decode cX6_removeChild 88 = .ok (.ireturn, 1) := by decide +kernel
theorem dX6_mayGoIn_0 : decode cX6_mayGoIn 0 = .ok (.aload_n 0, 1) := by decide +kernel
theorem dX6_mayGoIn_1 : decode cX6_mayGoIn 1 = .ok (.getfield 28, 3) := by decide +kernel
theorem dX6_mayGoIn_4 : decode cX6_mayGoIn 4 = .ok (.iload_n 1, 1) := by decide +kernel
theorem dX6_mayGoIn_5 : decode cX6_mayGoIn 5 = .ok (.invokevirtual 108, 3) := by decide +kernel
theorem dX6_mayGoIn_8 : decode cX6_mayGoIn 8 = .ok (.ifCond .eq 18, 3) := by decide +kernel
theorem dX6_mayGoIn_11 : decode cX6_mayGoIn 11 = .ok (.aload_n 0, 1) := by decide +kernel
theorem dX6_mayGoIn_12 : decode cX6_mayGoIn 12 = .ok (.getfield 28, 3) := by decide +kernel
theorem dX6_mayGoIn_15 : decode cX6_mayGoIn 15 = .ok (.iload_n 1, 1) := by decide +kernel
theorem dX6_mayGoIn_16 : decode cX6_mayGoIn 16 = .ok (.invokevirtual 112, 3) := by decide +kernel
theorem dX6_mayGoIn_19 : decode cX6_mayGoIn 19 = .ok (.ifCond .ne 7, 3) := by decide +kernel
theorem dX6_mayGoIn_22 : decode cX6_mayGoIn 22 = .ok (.iconst 1, 1) := by decide +kernel
theorem dX6_mayGoIn_23 : decode cX6_mayGoIn 23 = .ok (.goto 4, 3) := by decide +kernel
theorem dX6_mayGoIn_26 : decode cX6_mayGoIn 26 = .ok (.iconst 0, 1) := by decide +kernel
theorem dX6_mayGoIn_27 : decode cX6_mayGoIn 27 = .ok (.ireturn, 1) := by decide +kernel
theorem dX6_goIn_0 : decode cX6_goIn 0 = .ok (.aload_n 0, 1) := by decide +kernel
theorem dX6_goIn_1 : decode cX6_goIn 1 = .ok (.getfield 28, 3) := by decide +kernel
theorem dX6_goIn_4 : decode cX6_goIn 4 = .ok (.getfield 115, 3) := by decide +kernel
theorem dX6_goIn_7 : decode cX6_goIn 7 = .ok (.iload_n 1, 1) := by decide +kernel
theorem dX6_goIn_8 : decode cX6_goIn 8 = .ok (.aload_n 0, 1) := by decide +kernel
theorem dX6_goIn_9 : decode cX6_goIn 9 = .ok (.getfield 39, 3) := by decide +kernel
theorem dX6_goIn_12 : decode cX6_goIn 12 = .ok (.invokevirtual 99, 3) := by decide +kernel
theorem dX6_goIn_15 : decode cX6_goIn 15 = .ok (.aload_n 0, 1) := by decide +kernel
theorem dX6_goIn_16 : decode cX6_goIn 16 = .ok (.getfield 39, 3) := by decide +kernel
theorem dX6_goIn_19 : decode cX6_goIn 19 = .ok (.ireturn, 1) := by decide +kernel
theorem dX6_mayLieDown_0 : decode cX6_mayLieDown 0 = .ok (.aload_n 0, 1) := by decide +kernel
theorem dX6_mayLieDown_1 : decode cX6_mayLieDown 1 = .ok (.getfield 28, 3) := by decide +kernel
theorem dX6_mayLieDown_4 : decode cX6_mayLieDown 4 = .ok (.iload_n 1, 1) := by decide +kernel
theorem dX6_mayLieDown_5 : decode cX6_mayLieDown 5 = .ok (.invokevirtual 112, 3) := by decide +kernel
theorem dX6_mayLieDown_8 : decode cX6_mayLieDown 8 = .ok (.ireturn, 1) := by decide +kernel
theorem dX6_lieDown_0 : decode cX6_lieDown 0 = .ok (.aload_n 0, 1) := by decide +kernel
theorem dX6_lieDown_1 : decode cX6_lieDown 1 = .ok (.getfield 35, 3) := by decide +kernel
theorem dX6_lieDown_4 : decode cX6_lieDown 4 = .ok (.iload_n 1, 1) := by decide +kernel
theorem dX6_lieDown_5 : decode cX6_lieDown 5 = .ok (.invokevirtual 118, 3) := by decide +kernel
theorem dX6_lieDown_8 : decode cX6_lieDown 8 = .ok (.istore_n 2, 1) := by decide +kernel
theorem dX6_lieDown_9 : decode cX6_lieDown 9 = .ok (.aload_n 0, 1) := by decide +kernel
theorem dX6_lieDown_10 : decode cX6_lieDown 10 = .ok (.getfield 28, 3) := by decide +kernel
theorem dX6_lieDown_13 : decode cX6_lieDown 13 = .ok (.getfield 115, 3) := by decide +kernel
theorem dX6_lieDown_16 : decode cX6_lieDown 16 = .ok (.iload_n 1, 1) := by decide +kernel
theorem dX6_lieDown_17 : decode cX6_lieDown 17 = .ok (.iconst (-1), 1) := by decide +kernel
theorem dX6_lieDown_18 : decode cX6_lieDown 18 = .ok (.invokevirtual 99, 3) := by decide +kernel
theorem dX6_lieDown_21 : decode cX6_lieDown 21 = .ok (.aload_n 0, 1) := by decide +kernel
theorem dX6_lieDown_22 : decode cX6_lieDown 22 = .ok (.getfield 35, 3) := by decide +kernel
theorem dX6_lieDown_25 : decode cX6_lieDown 25 = .ok (.iload_n 1, 1) := by decide +kernel
theorem dX6_lieDown_26 : decode cX6_lieDown 26 = .ok (.invokevirtual 105, 3) := by decide +kernel
theorem dX6_lieDown_29 : decode cX6_lieDown 29 = .ok (.iload_n 2, 1) := by decide +kernel
theorem dX6_lieDown_30 : decode cX6_lieDown 30 = .ok (.ireturn, 1) := by decide +kernel
theorem dX6_mayStrike_0 : decode cX6_mayStrike 0 = .ok (.aload_n 0, 1) := by decide +kernel
theorem dX6_mayStrike_1 : decode cX6_mayStrike 1 = .ok (.getfield 28, 3) := by decide +kernel
theorem dX6_mayStrike_4 : decode cX6_mayStrike 4 = .ok (.aload_n 0, 1) := by decide +kernel
theorem dX6_mayStrike_5 : decode cX6_mayStrike 5 = .ok (.getfield 39, 3) := by decide +kernel
theorem dX6_mayStrike_8 : decode cX6_mayStrike 8 = .ok (.invokevirtual 121, 3) := by decide +kernel
theorem dX6_mayStrike_11 : decode cX6_mayStrike 11 = .ok (.ifCond .ne 7, 3) := by decide +kernel
theorem dX6_mayStrike_14 : decode cX6_mayStrike 14 = .ok (.iconst 1, 1) := by decide +kernel
theorem dX6_mayStrike_15 : decode cX6_mayStrike 15 = .ok (.goto 4, 3) := by decide +kernel
theorem dX6_mayStrike_18 : decode cX6_mayStrike 18 = .ok (.iconst 0, 1) := by decide +kernel
theorem dX6_mayStrike_19 : decode cX6_mayStrike 19 = .ok (.ireturn, 1) := by decide +kernel
theorem dX6_strike_0 : decode cX6_strike 0 = .ok (.aload_n 0, 1) := by decide +kernel
theorem dX6_strike_1 : decode cX6_strike 1 = .ok (.dup, 1) := by decide +kernel
theorem dX6_strike_2 : decode cX6_strike 2 = .ok (.getfield 39, 3) := by decide +kernel
theorem dX6_strike_5 : decode cX6_strike 5 = .ok (.iconst 1, 1) := by decide +kernel
theorem dX6_strike_6 : decode cX6_strike 6 = .ok (.iadd, 1) := by decide +kernel
theorem dX6_strike_7 : decode cX6_strike 7 = .ok (.putfield 39, 3) := by decide +kernel
theorem dX6_strike_10 : decode cX6_strike 10 = .ok (.aload_n 0, 1) := by decide +kernel
theorem dX6_strike_11 : decode cX6_strike 11 = .ok (.getfield 39, 3) := by decide +kernel
theorem dX6_strike_14 : decode cX6_strike 14 = .ok (.ireturn, 1) := by decide +kernel
theorem dX6_maySprout_0 : decode cX6_maySprout 0 = .ok (.aload_n 0, 1) := by decide +kernel
theorem dX6_maySprout_1 : decode cX6_maySprout 1 = .ok (.getfield 21, 3) := by decide +kernel
theorem dX6_maySprout_4 : decode cX6_maySprout 4 = .ok (.getfield 124, 3) := by decide +kernel
theorem dX6_maySprout_7 : decode cX6_maySprout 7 = .ok (.iload_n 1, 1) := by decide +kernel
theorem dX6_maySprout_8 : decode cX6_maySprout 8 = .ok (.invokevirtual 79, 3) := by decide +kernel
theorem dX6_maySprout_11 : decode cX6_maySprout 11 = .ok (.iconst (-1), 1) := by decide +kernel
theorem dX6_maySprout_12 : decode cX6_maySprout 12 = .ok (.if_icmp .ne 19, 3) := by decide +kernel
theorem dX6_maySprout_15 : decode cX6_maySprout 15 = .ok (.aload_n 0, 1) := by decide +kernel
theorem dX6_maySprout_16 : decode cX6_maySprout 16 = .ok (.getfield 21, 3) := by decide +kernel
theorem dX6_maySprout_19 : decode cX6_maySprout 19 = .ok (.getfield 127, 3) := by decide +kernel
theorem dX6_maySprout_22 : decode cX6_maySprout 22 = .ok (.bipush 120, 2) := by decide +kernel
theorem dX6_maySprout_24 : decode cX6_maySprout 24 = .ok (.if_icmp .ge 7, 3) := by decide +kernel
theorem dX6_maySprout_27 : decode cX6_maySprout 27 = .ok (.iconst 1, 1) := by decide +kernel
theorem dX6_maySprout_28 : decode cX6_maySprout 28 = .ok (.goto 4, 3) := by decide +kernel
theorem dX6_maySprout_31 : decode cX6_maySprout 31 = .ok (.iconst 0, 1) := by decide +kernel
theorem dX6_maySprout_32 : decode cX6_maySprout 32 = .ok (.ireturn, 1) := by decide +kernel
theorem dX6_mayWrite_0 : decode cX6_mayWrite 0 = .ok (.aload_n 0, 1) := by decide +kernel
theorem dX6_mayWrite_1 : decode cX6_mayWrite 1 = .ok (.getfield 28, 3) := by decide +kernel
theorem dX6_mayWrite_4 : decode cX6_mayWrite 4 = .ok (.iload_n 1, 1) := by decide +kernel
theorem dX6_mayWrite_5 : decode cX6_mayWrite 5 = .ok (.invokevirtual 112, 3) := by decide +kernel
theorem dX6_mayWrite_8 : decode cX6_mayWrite 8 = .ok (.ifCond .eq 34, 3) := by decide +kernel
theorem dX6_mayWrite_11 : decode cX6_mayWrite 11 = .ok (.aload_n 0, 1) := by decide +kernel
theorem dX6_mayWrite_12 : decode cX6_mayWrite 12 = .ok (.getfield 35, 3) := by decide +kernel
theorem dX6_mayWrite_15 : decode cX6_mayWrite 15 = .ok (.iload_n 1, 1) := by decide +kernel
theorem dX6_mayWrite_16 : decode cX6_mayWrite 16 = .ok (.iload_n 2, 1) := by decide +kernel
theorem dX6_mayWrite_17 : decode cX6_mayWrite 17 = .ok (.invokevirtual 130, 3) := by decide +kernel
theorem dX6_mayWrite_20 : decode cX6_mayWrite 20 = .ok (.ifCond .ne 22, 3) := by decide +kernel
theorem dX6_mayWrite_23 : decode cX6_mayWrite 23 = .ok (.aload_n 0, 1) := by decide +kernel
theorem dX6_mayWrite_24 : decode cX6_mayWrite 24 = .ok (.getfield 21, 3) := by decide +kernel
theorem dX6_mayWrite_27 : decode cX6_mayWrite 27 = .ok (.getfield 124, 3) := by decide +kernel
theorem dX6_mayWrite_30 : decode cX6_mayWrite 30 = .ok (.iload_n 3, 1) := by decide +kernel
theorem dX6_mayWrite_31 : decode cX6_mayWrite 31 = .ok (.invokevirtual 79, 3) := by decide +kernel
theorem dX6_mayWrite_34 : decode cX6_mayWrite 34 = .ok (.iconst (-1), 1) := by decide +kernel
theorem dX6_mayWrite_35 : decode cX6_mayWrite 35 = .ok (.if_icmp .eq 7, 3) := by decide +kernel
theorem dX6_mayWrite_38 : decode cX6_mayWrite 38 = .ok (.iconst 1, 1) := by decide +kernel
theorem dX6_mayWrite_39 : decode cX6_mayWrite 39 = .ok (.goto 4, 3) := by decide +kernel
theorem dX6_mayWrite_42 : decode cX6_mayWrite 42 = .ok (.iconst 0, 1) := by decide +kernel
theorem dX6_mayWrite_43 : decode cX6_mayWrite 43 = .ok (.ireturn, 1) := by decide +kernel
theorem dX6_write_0 : decode cX6_write 0 = .ok (.aload_n 0, 1) := by decide +kernel
theorem dX6_write_1 : decode cX6_write 1 = .ok (.getfield 21, 3) := by decide +kernel
theorem dX6_write_4 : decode cX6_write 4 = .ok (.getfield 124, 3) := by decide +kernel
theorem dX6_write_7 : decode cX6_write 7 = .ok (.iload_n 3, 1) := by decide +kernel
theorem dX6_write_8 : decode cX6_write 8 = .ok (.invokevirtual 79, 3) := by decide +kernel
theorem dX6_write_11 : decode cX6_write 11 = .ok (.istore 4, 2) := by decide +kernel
theorem dX6_write_13 : decode cX6_write 13 = .ok (.aload_n 0, 1) := by decide +kernel
theorem dX6_write_14 : decode cX6_write 14 = .ok (.getfield 35, 3) := by decide +kernel
theorem dX6_write_17 : decode cX6_write 17 = .ok (.iload_n 1, 1) := by decide +kernel
theorem dX6_write_18 : decode cX6_write 18 = .ok (.iload_n 2, 1) := by decide +kernel
theorem dX6_write_19 : decode cX6_write 19 = .ok (.iload 4, 2) := by decide +kernel
theorem dX6_write_21 : decode cX6_write 21 = .ok (.iload_n 3, 1) := by decide +kernel
theorem dX6_write_22 : decode cX6_write 22 = .ok (.invokevirtual 133, 3) := by decide +kernel
theorem dX6_write_25 : decode cX6_write 25 = .ok (.iload 4, 2) := by decide +kernel
theorem dX6_write_27 : decode cX6_write 27 = .ok (.ireturn, 1) := by decide +kernel
theorem dX6_mayFasten_0 : decode cX6_mayFasten 0 = .ok (.aload_n 0, 1) := by decide +kernel
theorem dX6_mayFasten_1 : decode cX6_mayFasten 1 = .ok (.getfield 35, 3) := by decide +kernel
theorem dX6_mayFasten_4 : decode cX6_mayFasten 4 = .ok (.iload_n 1, 1) := by decide +kernel
theorem dX6_mayFasten_5 : decode cX6_mayFasten 5 = .ok (.iload_n 2, 1) := by decide +kernel
theorem dX6_mayFasten_6 : decode cX6_mayFasten 6 = .ok (.invokevirtual 130, 3) := by decide +kernel
theorem dX6_mayFasten_9 : decode cX6_mayFasten 9 = .ok (.iconst 1, 1) := by decide +kernel
theorem dX6_mayFasten_10 : decode cX6_mayFasten 10 = .ok (.if_icmp .ne 7, 3) := by decide +kernel
theorem dX6_mayFasten_13 : decode cX6_mayFasten 13 = .ok (.iconst 1, 1) := by decide +kernel
theorem dX6_mayFasten_14 : decode cX6_mayFasten 14 = .ok (.goto 4, 3) := by decide +kernel
theorem dX6_mayFasten_17 : decode cX6_mayFasten 17 = .ok (.iconst 0, 1) := by decide +kernel
theorem dX6_mayFasten_18 : decode cX6_mayFasten 18 = .ok (.ireturn, 1) := by decide +kernel
theorem dX6_fasten_0 : decode cX6_fasten 0 = .ok (.aload_n 0, 1) := by decide +kernel
theorem dX6_fasten_1 : decode cX6_fasten 1 = .ok (.getfield 35, 3) := by decide +kernel
theorem dX6_fasten_4 : decode cX6_fasten 4 = .ok (.iload_n 1, 1) := by decide +kernel
theorem dX6_fasten_5 : decode cX6_fasten 5 = .ok (.iload_n 2, 1) := by decide +kernel
theorem dX6_fasten_6 : decode cX6_fasten 6 = .ok (.invokevirtual 137, 3) := by decide +kernel
theorem dX6_fasten_9 : decode cX6_fasten 9 = .ok (.istore_n 3, 1) := by decide +kernel
theorem dX6_fasten_10 : decode cX6_fasten 10 = .ok (.aload_n 0, 1) := by decide +kernel
theorem dX6_fasten_11 : decode cX6_fasten 11 = .ok (.getfield 21, 3) := by decide +kernel
theorem dX6_fasten_14 : decode cX6_fasten 14 = .ok (.getfield 124, 3) := by decide +kernel
theorem dX6_fasten_17 : decode cX6_fasten 17 = .ok (.aload_n 0, 1) := by decide +kernel
theorem dX6_fasten_18 : decode cX6_fasten 18 = .ok (.getfield 35, 3) := by decide +kernel
theorem dX6_fasten_21 : decode cX6_fasten 21 = .ok (.iload_n 1, 1) := by decide +kernel
theorem dX6_fasten_22 : decode cX6_fasten 22 = .ok (.iload_n 2, 1) := by decide +kernel
theorem dX6_fasten_23 : decode cX6_fasten 23 = .ok (.invokevirtual 140, 3) := by decide +kernel
theorem dX6_fasten_26 : decode cX6_fasten 26 = .ok (.invokevirtual 79, 3) := by decide +kernel
theorem dX6_fasten_29 : decode cX6_fasten 29 = .ok (.iload_n 3, 1) := by decide +kernel
theorem dX6_fasten_30 : decode cX6_fasten 30 = .ok (.if_icmp .ne 14, 3) := by decide +kernel
theorem dX6_fasten_33 : decode cX6_fasten 33 = .ok (.aload_n 0, 1) := by decide +kernel
theorem dX6_fasten_34 : decode cX6_fasten 34 = .ok (.getfield 35, 3) := by decide +kernel
theorem dX6_fasten_37 : decode cX6_fasten 37 = .ok (.iload_n 1, 1) := by decide +kernel
theorem dX6_fasten_38 : decode cX6_fasten 38 = .ok (.iload_n 2, 1) := by decide +kernel
theorem dX6_fasten_39 : decode cX6_fasten 39 = .ok (.invokevirtual 143, 3) := by decide +kernel
theorem dX6_fasten_42 : decode cX6_fasten 42 = .ok (.iconst 1, 1) := by decide +kernel
theorem dX6_fasten_43 : decode cX6_fasten 43 = .ok (.ireturn, 1) := by decide +kernel
theorem dX6_fasten_44 : decode cX6_fasten 44 = .ok (.aload_n 0, 1) := by decide +kernel
theorem dX6_fasten_45 : decode cX6_fasten 45 = .ok (.getfield 35, 3) := by decide +kernel
theorem dX6_fasten_48 : decode cX6_fasten 48 = .ok (.iload_n 1, 1) := by decide +kernel
theorem dX6_fasten_49 : decode cX6_fasten 49 = .ok (.iload_n 2, 1) := by decide +kernel
theorem dX6_fasten_50 : decode cX6_fasten 50 = .ok (.invokevirtual 146, 3) := by decide +kernel
theorem dX6_fasten_53 : decode cX6_fasten 53 = .ok (.aload_n 0, 1) := by decide +kernel
theorem dX6_fasten_54 : decode cX6_fasten 54 = .ok (.dup, 1) := by decide +kernel
theorem dX6_fasten_55 : decode cX6_fasten 55 = .ok (.getfield 48, 3) := by decide +kernel
theorem dX6_fasten_58 : decode cX6_fasten 58 = .ok (.iconst 1, 1) := by decide +kernel
theorem dX6_fasten_59 : decode cX6_fasten 59 = .ok (.iadd, 1) := by decide +kernel
theorem dX6_fasten_60 : decode cX6_fasten 60 = .ok (.putfield 48, 3) := by decide +kernel
theorem dX6_fasten_63 : decode cX6_fasten 63 = .ok (.iconst 0, 1) := by decide +kernel
theorem dX6_fasten_64 : decode cX6_fasten 64 = .ok (.ireturn, 1) := by decide +kernel
theorem dX6_mayRelease_0 : decode cX6_mayRelease 0 = .ok (.aload_n 0, 1) := by decide +kernel
theorem dX6_mayRelease_1 : decode cX6_mayRelease 1 = .ok (.getfield 35, 3) := by decide +kernel
theorem dX6_mayRelease_4 : decode cX6_mayRelease 4 = .ok (.iload_n 1, 1) := by decide +kernel
theorem dX6_mayRelease_5 : decode cX6_mayRelease 5 = .ok (.iload_n 2, 1) := by decide +kernel
theorem dX6_mayRelease_6 : decode cX6_mayRelease 6 = .ok (.invokevirtual 130, 3) := by decide +kernel
theorem dX6_mayRelease_9 : decode cX6_mayRelease 9 = .ok (.ifCond .eq 7, 3) := by decide +kernel
theorem dX6_mayRelease_12 : decode cX6_mayRelease 12 = .ok (.iconst 1, 1) := by decide +kernel
theorem dX6_mayRelease_13 : decode cX6_mayRelease 13 = .ok (.goto 4, 3) := by decide +kernel
theorem dX6_mayRelease_16 : decode cX6_mayRelease 16 = .ok (.iconst 0, 1) := by decide +kernel
theorem dX6_mayRelease_17 : decode cX6_mayRelease 17 = .ok (.ireturn, 1) := by decide +kernel
theorem dX6_release_0 : decode cX6_release 0 = .ok (.aload_n 0, 1) := by decide +kernel
theorem dX6_release_1 : decode cX6_release 1 = .ok (.getfield 35, 3) := by decide +kernel
theorem dX6_release_4 : decode cX6_release 4 = .ok (.iload_n 1, 1) := by decide +kernel
theorem dX6_release_5 : decode cX6_release 5 = .ok (.iload_n 2, 1) := by decide +kernel
theorem dX6_release_6 : decode cX6_release 6 = .ok (.invokevirtual 137, 3) := by decide +kernel
theorem dX6_release_9 : decode cX6_release 9 = .ok (.istore_n 3, 1) := by decide +kernel
theorem dX6_release_10 : decode cX6_release 10 = .ok (.aload_n 0, 1) := by decide +kernel
theorem dX6_release_11 : decode cX6_release 11 = .ok (.getfield 35, 3) := by decide +kernel
theorem dX6_release_14 : decode cX6_release 14 = .ok (.iload_n 1, 1) := by decide +kernel
theorem dX6_release_15 : decode cX6_release 15 = .ok (.iload_n 2, 1) := by decide +kernel
theorem dX6_release_16 : decode cX6_release 16 = .ok (.invokevirtual 146, 3) := by decide +kernel
theorem dX6_release_19 : decode cX6_release 19 = .ok (.iload_n 3, 1) := by decide +kernel
theorem dX6_release_20 : decode cX6_release 20 = .ok (.ireturn, 1) := by decide +kernel
theorem dX6_lookThrough_0 : decode cX6_lookThrough 0 = .ok (.aload_n 0, 1) := by decide +kernel
theorem dX6_lookThrough_1 : decode cX6_lookThrough 1 = .ok (.getfield 35, 3) := by decide +kernel
theorem dX6_lookThrough_4 : decode cX6_lookThrough 4 = .ok (.iload_n 1, 1) := by decide +kernel
theorem dX6_lookThrough_5 : decode cX6_lookThrough 5 = .ok (.iload_n 2, 1) := by decide +kernel
theorem dX6_lookThrough_6 : decode cX6_lookThrough 6 = .ok (.invokevirtual 137, 3) := by decide +kernel
theorem dX6_lookThrough_9 : decode cX6_lookThrough 9 = .ok (.istore_n 3, 1) := by decide +kernel
theorem dX6_lookThrough_10 : decode cX6_lookThrough 10 = .ok (.aload_n 0, 1) := by decide +kernel
theorem dX6_lookThrough_11 : decode cX6_lookThrough 11 = .ok (.getfield 35, 3) := by decide +kernel
theorem dX6_lookThrough_14 : decode cX6_lookThrough 14 = .ok (.iload_n 1, 1) := by decide +kernel
theorem dX6_lookThrough_15 : decode cX6_lookThrough 15 = .ok (.iload_n 2, 1) := by decide +kernel
theorem dX6_lookThrough_16 : decode cX6_lookThrough 16 = .ok (.invokevirtual 130, 3) := by decide +kernel
theorem dX6_lookThrough_19 : decode cX6_lookThrough 19 = .ok (.iconst 1, 1) := by decide +kernel
theorem dX6_lookThrough_20 : decode cX6_lookThrough 20 = .ok (.if_icmp .ne 30, 3) := by decide +kernel
theorem dX6_lookThrough_23 : decode cX6_lookThrough 23 = .ok (.aload_n 0, 1) := by decide +kernel
theorem dX6_lookThrough_24 : decode cX6_lookThrough 24 = .ok (.getfield 21, 3) := by decide +kernel
theorem dX6_lookThrough_27 : decode cX6_lookThrough 27 = .ok (.getfield 149, 3) := by decide +kernel
theorem dX6_lookThrough_30 : decode cX6_lookThrough 30 = .ok (.iload_n 3, 1) := by decide +kernel
theorem dX6_lookThrough_31 : decode cX6_lookThrough 31 = .ok (.invokevirtual 79, 3) := by decide +kernel
theorem dX6_lookThrough_34 : decode cX6_lookThrough 34 = .ok (.iconst 2, 1) := by decide +kernel
theorem dX6_lookThrough_35 : decode cX6_lookThrough 35 = .ok (.if_icmp .ne 15, 3) := by decide +kernel
theorem dX6_lookThrough_38 : decode cX6_lookThrough 38 = .ok (.aload_n 0, 1) := by decide +kernel
theorem dX6_lookThrough_39 : decode cX6_lookThrough 39 = .ok (.dup, 1) := by decide +kernel
theorem dX6_lookThrough_40 : decode cX6_lookThrough 40 = .ok (.getfield 51, 3) := by decide +kernel
theorem dX6_lookThrough_43 : decode cX6_lookThrough 43 = .ok (.iconst 1, 1) := by decide +kernel
theorem dX6_lookThrough_44 : decode cX6_lookThrough 44 = .ok (.iadd, 1) := by decide +kernel
theorem dX6_lookThrough_45 : decode cX6_lookThrough 45 = .ok (.putfield 51, 3) := by decide +kernel
theorem dX6_lookThrough_48 : decode cX6_lookThrough 48 = .ok (.iconst (-1), 1) := by decide +kernel
theorem dX6_lookThrough_49 : decode cX6_lookThrough 49 = .ok (.ireturn, 1) := by decide +kernel
theorem dX6_lookThrough_50 : decode cX6_lookThrough 50 = .ok (.aload_n 0, 1) := by decide +kernel
theorem dX6_lookThrough_51 : decode cX6_lookThrough 51 = .ok (.getfield 21, 3) := by decide +kernel
theorem dX6_lookThrough_54 : decode cX6_lookThrough 54 = .ok (.getfield 152, 3) := by decide +kernel
theorem dX6_lookThrough_57 : decode cX6_lookThrough 57 = .ok (.iload_n 3, 1) := by decide +kernel
theorem dX6_lookThrough_58 : decode cX6_lookThrough 58 = .ok (.invokevirtual 79, 3) := by decide +kernel
theorem dX6_lookThrough_61 : decode cX6_lookThrough 61 = .ok (.ireturn, 1) := by decide +kernel
theorem dX6_mayTakeOff_0 : decode cX6_mayTakeOff 0 = .ok (.aload_n 0, 1) := by decide +kernel
theorem dX6_mayTakeOff_1 : decode cX6_mayTakeOff 1 = .ok (.getfield 28, 3) := by decide +kernel
theorem dX6_mayTakeOff_4 : decode cX6_mayTakeOff 4 = .ok (.iload_n 1, 1) := by decide +kernel
theorem dX6_mayTakeOff_5 : decode cX6_mayTakeOff 5 = .ok (.invokevirtual 112, 3) := by decide +kernel
theorem dX6_mayTakeOff_8 : decode cX6_mayTakeOff 8 = .ok (.ifCond .eq 22, 3) := by decide +kernel
theorem dX6_mayTakeOff_11 : decode cX6_mayTakeOff 11 = .ok (.aload_n 0, 1) := by decide +kernel
theorem dX6_mayTakeOff_12 : decode cX6_mayTakeOff 12 = .ok (.getfield 21, 3) := by decide +kernel
theorem dX6_mayTakeOff_15 : decode cX6_mayTakeOff 15 = .ok (.getfield 124, 3) := by decide +kernel
theorem dX6_mayTakeOff_18 : decode cX6_mayTakeOff 18 = .ok (.iload_n 2, 1) := by decide +kernel
theorem dX6_mayTakeOff_19 : decode cX6_mayTakeOff 19 = .ok (.invokevirtual 79, 3) := by decide +kernel
theorem dX6_mayTakeOff_22 : decode cX6_mayTakeOff 22 = .ok (.iconst (-1), 1) := by decide +kernel
theorem dX6_mayTakeOff_23 : decode cX6_mayTakeOff 23 = .ok (.if_icmp .eq 7, 3) := by decide +kernel
theorem dX6_mayTakeOff_26 : decode cX6_mayTakeOff 26 = .ok (.iconst 1, 1) := by decide +kernel
theorem dX6_mayTakeOff_27 : decode cX6_mayTakeOff 27 = .ok (.goto 4, 3) := by decide +kernel
theorem dX6_mayTakeOff_30 : decode cX6_mayTakeOff 30 = .ok (.iconst 0, 1) := by decide +kernel
theorem dX6_mayTakeOff_31 : decode cX6_mayTakeOff 31 = .ok (.ireturn, 1) := by decide +kernel
theorem dX6_takeOff_0 : decode cX6_takeOff 0 = .ok (.aload_n 0, 1) := by decide +kernel
theorem dX6_takeOff_1 : decode cX6_takeOff 1 = .ok (.getfield 21, 3) := by decide +kernel
theorem dX6_takeOff_4 : decode cX6_takeOff 4 = .ok (.getfield 124, 3) := by decide +kernel
theorem dX6_takeOff_7 : decode cX6_takeOff 7 = .ok (.iload_n 2, 1) := by decide +kernel
theorem dX6_takeOff_8 : decode cX6_takeOff 8 = .ok (.invokevirtual 79, 3) := by decide +kernel
theorem dX6_takeOff_11 : decode cX6_takeOff 11 = .ok (.istore_n 3, 1) := by decide +kernel
theorem dX6_takeOff_12 : decode cX6_takeOff 12 = .ok (.aload_n 0, 1) := by decide +kernel
theorem dX6_takeOff_13 : decode cX6_takeOff 13 = .ok (.getfield 21, 3) := by decide +kernel
theorem dX6_takeOff_16 : decode cX6_takeOff 16 = .ok (.iload_n 3, 1) := by decide +kernel
theorem dX6_takeOff_17 : decode cX6_takeOff 17 = .ok (.iload_n 1, 1) := by decide +kernel
theorem dX6_takeOff_18 : decode cX6_takeOff 18 = .ok (.aload_n 0, 1) := by decide +kernel
theorem dX6_takeOff_19 : decode cX6_takeOff 19 = .ok (.getfield 39, 3) := by decide +kernel
theorem dX6_takeOff_22 : decode cX6_takeOff 22 = .ok (.invokevirtual 155, 3) := by decide +kernel
theorem dX6_takeOff_25 : decode cX6_takeOff 25 = .ok (.aload_n 0, 1) := by decide +kernel
theorem dX6_takeOff_26 : decode cX6_takeOff 26 = .ok (.getfield 28, 3) := by decide +kernel
theorem dX6_takeOff_29 : decode cX6_takeOff 29 = .ok (.iload_n 1, 1) := by decide +kernel
theorem dX6_takeOff_30 : decode cX6_takeOff 30 = .ok (.iload_n 3, 1) := by decide +kernel
theorem dX6_takeOff_31 : decode cX6_takeOff 31 = .ok (.invokevirtual 92, 3) := by decide +kernel
theorem dX6_takeOff_34 : decode cX6_takeOff 34 = .ok (.aload_n 0, 1) := by decide +kernel
theorem dX6_takeOff_35 : decode cX6_takeOff 35 = .ok (.getfield 28, 3) := by decide +kernel
theorem dX6_takeOff_38 : decode cX6_takeOff 38 = .ok (.getfield 159, 3) := by decide +kernel
theorem dX6_takeOff_41 : decode cX6_takeOff 41 = .ok (.iload_n 1, 1) := by decide +kernel
theorem dX6_takeOff_42 : decode cX6_takeOff 42 = .ok (.iconst 1, 1) := by decide +kernel
theorem dX6_takeOff_43 : decode cX6_takeOff 43 = .ok (.invokevirtual 162, 3) := by decide +kernel
theorem dX6_takeOff_46 : decode cX6_takeOff 46 = .ok (.aload_n 0, 1) := by decide +kernel
theorem dX6_takeOff_47 : decode cX6_takeOff 47 = .ok (.getfield 28, 3) := by decide +kernel
theorem dX6_takeOff_50 : decode cX6_takeOff 50 = .ok (.getfield 75, 3) := by decide +kernel
theorem dX6_takeOff_53 : decode cX6_takeOff 53 = .ok (.iload_n 1, 1) := by decide +kernel
theorem dX6_takeOff_54 : decode cX6_takeOff 54 = .ok (.invokevirtual 79, 3) := by decide +kernel
theorem dX6_takeOff_57 : decode cX6_takeOff 57 = .ok (.aload_n 0, 1) := by decide +kernel
theorem dX6_takeOff_58 : decode cX6_takeOff 58 = .ok (.getfield 9, 3) := by decide +kernel
theorem dX6_takeOff_61 : decode cX6_takeOff 61 = .ok (.if_icmp .lt 11, 3) := by decide +kernel
theorem dX6_takeOff_64 : decode cX6_takeOff 64 = .ok (.aload_n 0, 1) := by decide +kernel
theorem dX6_takeOff_65 : decode cX6_takeOff 65 = .ok (.iload_n 1, 1) := by decide +kernel
theorem dX6_takeOff_66 : decode cX6_takeOff 66 = .ok (.invokevirtual 165, 3) := by decide +kernel
theorem dX6_takeOff_69 : decode cX6_takeOff 69 = .ok (.goto 4, 3) := by decide +kernel
theorem dX6_takeOff_72 : decode cX6_takeOff 72 = .ok (.iconst 0, 1) := by decide +kernel
theorem dX6_takeOff_73 : decode cX6_takeOff 73 = .ok (.istore 4, 2) := by decide +kernel
theorem dX6_takeOff_75 : decode cX6_takeOff 75 = .ok (.aload_n 0, 1) := by decide +kernel
theorem dX6_takeOff_76 : decode cX6_takeOff 76 = .ok (.aload_n 0, 1) := by decide +kernel
theorem dX6_takeOff_77 : decode cX6_takeOff 77 = .ok (.getfield 54, 3) := by decide +kernel
theorem dX6_takeOff_80 : decode cX6_takeOff 80 = .ok (.aload_n 0, 1) := by decide +kernel
theorem dX6_takeOff_81 : decode cX6_takeOff 81 = .ok (.getfield 21, 3) := by decide +kernel
theorem dX6_takeOff_84 : decode cX6_takeOff 84 = .ok (.iconst 1, 1) := by decide +kernel
theorem dX6_takeOff_85 : decode cX6_takeOff 85 = .ok (.invokevirtual 168, 3) := by decide +kernel
theorem dX6_takeOff_88 : decode cX6_takeOff 88 = .ok (.invokestatic 171, 3) := by decide +kernel
theorem dX6_takeOff_91 : decode cX6_takeOff 91 = .ok (.putfield 54, 3) := by decide +kernel
theorem dX6_takeOff_94 : decode cX6_takeOff 94 = .ok (.iload 4, 2) := by decide +kernel
theorem dX6_takeOff_96 : decode cX6_takeOff 96 = .ok (.ireturn, 1) := by decide +kernel
theorem dX6_mayExchange_0 : decode cX6_mayExchange 0 = .ok (.aload_n 0, 1) := by decide +kernel
theorem dX6_mayExchange_1 : decode cX6_mayExchange 1 = .ok (.iload_n 1, 1) := by decide +kernel
theorem dX6_mayExchange_2 : decode cX6_mayExchange 2 = .ok (.iload_n 2, 1) := by decide +kernel
theorem dX6_mayExchange_3 : decode cX6_mayExchange 3 = .ok (.invokevirtual 176, 3) := by decide +kernel
theorem dX6_mayExchange_6 : decode cX6_mayExchange 6 = .ok (.ifCond .eq 19, 3) := by decide +kernel
theorem dX6_mayExchange_9 : decode cX6_mayExchange 9 = .ok (.aload_n 0, 1) := by decide +kernel
theorem dX6_mayExchange_10 : decode cX6_mayExchange 10 = .ok (.getfield 21, 3) := by decide +kernel
theorem dX6_mayExchange_13 : decode cX6_mayExchange 13 = .ok (.getfield 127, 3) := by decide +kernel
theorem dX6_mayExchange_16 : decode cX6_mayExchange 16 = .ok (.bipush 120, 2) := by decide +kernel
theorem dX6_mayExchange_18 : decode cX6_mayExchange 18 = .ok (.if_icmp .ge 7, 3) := by decide +kernel
theorem dX6_mayExchange_21 : decode cX6_mayExchange 21 = .ok (.iconst 1, 1) := by decide +kernel
theorem dX6_mayExchange_22 : decode cX6_mayExchange 22 = .ok (.goto 4, 3) := by decide +kernel
theorem dX6_mayExchange_25 : decode cX6_mayExchange 25 = .ok (.iconst 0, 1) := by decide +kernel
theorem dX6_mayExchange_26 : decode cX6_mayExchange 26 = .ok (.ireturn, 1) := by decide +kernel
theorem dX6_exchange_0 : decode cX6_exchange 0 = .ok (.aload_n 0, 1) := by decide +kernel
theorem dX6_exchange_1 : decode cX6_exchange 1 = .ok (.iload_n 1, 1) := by decide +kernel
theorem dX6_exchange_2 : decode cX6_exchange 2 = .ok (.iload_n 2, 1) := by decide +kernel
theorem dX6_exchange_3 : decode cX6_exchange 3 = .ok (.invokevirtual 180, 3) := by decide +kernel
theorem dX6_exchange_6 : decode cX6_exchange 6 = .ok (.pop, 1) := by decide +kernel
theorem dX6_exchange_7 : decode cX6_exchange 7 = .ok (.aload_n 0, 1) := by decide +kernel
theorem dX6_exchange_8 : decode cX6_exchange 8 = .ok (.getfield 21, 3) := by decide +kernel
theorem dX6_exchange_11 : decode cX6_exchange 11 = .ok (.iload_n 2, 1) := by decide +kernel
theorem dX6_exchange_12 : decode cX6_exchange 12 = .ok (.iload_n 3, 1) := by decide +kernel
theorem dX6_exchange_13 : decode cX6_exchange 13 = .ok (.invokevirtual 183, 3) := by decide +kernel
theorem dX6_exchange_16 : decode cX6_exchange 16 = .ok (.ireturn, 1) := by decide +kernel
theorem dX6_mayClear_0 : decode cX6_mayClear 0 = .ok (.aload_n 0, 1) := by decide +kernel
theorem dX6_mayClear_1 : decode cX6_mayClear 1 = .ok (.getfield 28, 3) := by decide +kernel
theorem dX6_mayClear_4 : decode cX6_mayClear 4 = .ok (.getfield 75, 3) := by decide +kernel
theorem dX6_mayClear_7 : decode cX6_mayClear 7 = .ok (.iload_n 1, 1) := by decide +kernel
theorem dX6_mayClear_8 : decode cX6_mayClear 8 = .ok (.invokevirtual 79, 3) := by decide +kernel
theorem dX6_mayClear_11 : decode cX6_mayClear 11 = .ok (.ifCond .le 7, 3) := by decide +kernel
theorem dX6_mayClear_14 : decode cX6_mayClear 14 = .ok (.iconst 1, 1) := by decide +kernel
theorem dX6_mayClear_15 : decode cX6_mayClear 15 = .ok (.goto 4, 3) := by decide +kernel
theorem dX6_mayClear_18 : decode cX6_mayClear 18 = .ok (.iconst 0, 1) := by decide +kernel
theorem dX6_mayClear_19 : decode cX6_mayClear 19 = .ok (.ireturn, 1) := by decide +kernel
theorem dX6_clear_0 : decode cX6_clear 0 = .ok (.aload_n 0, 1) := by decide +kernel
theorem dX6_clear_1 : decode cX6_clear 1 = .ok (.getfield 28, 3) := by decide +kernel
theorem dX6_clear_4 : decode cX6_clear 4 = .ok (.getfield 75, 3) := by decide +kernel
theorem dX6_clear_7 : decode cX6_clear 7 = .ok (.iload_n 1, 1) := by decide +kernel
theorem dX6_clear_8 : decode cX6_clear 8 = .ok (.invokevirtual 79, 3) := by decide +kernel
theorem dX6_clear_11 : decode cX6_clear 11 = .ok (.istore_n 2, 1) := by decide +kernel
theorem dX6_clear_12 : decode cX6_clear 12 = .ok (.iload_n 1, 1) := by decide +kernel
theorem dX6_clear_13 : decode cX6_clear 13 = .ok (.bipush 120, 2) := by decide +kernel
theorem dX6_clear_15 : decode cX6_clear 15 = .ok (.imul, 1) := by decide +kernel
theorem dX6_clear_16 : decode cX6_clear 16 = .ok (.istore_n 3, 1) := by decide +kernel
theorem dX6_clear_17 : decode cX6_clear 17 = .ok (.iconst 0, 1) := by decide +kernel
theorem dX6_clear_18 : decode cX6_clear 18 = .ok (.istore 4, 2) := by decide +kernel
theorem dX6_clear_20 : decode cX6_clear 20 = .ok (.iconst 0, 1) := by decide +kernel
theorem dX6_clear_21 : decode cX6_clear 21 = .ok (.istore 5, 2) := by decide +kernel
theorem dX6_clear_23 : decode cX6_clear 23 = .ok (.iload 5, 2) := by decide +kernel
theorem dX6_clear_25 : decode cX6_clear 25 = .ok (.iload_n 2, 1) := by decide +kernel
theorem dX6_clear_26 : decode cX6_clear 26 = .ok (.if_icmp .ge 70, 3) := by decide +kernel
theorem dX6_clear_29 : decode cX6_clear 29 = .ok (.aload_n 0, 1) := by decide +kernel
theorem dX6_clear_30 : decode cX6_clear 30 = .ok (.getfield 28, 3) := by decide +kernel
theorem dX6_clear_33 : decode cX6_clear 33 = .ok (.getfield 186, 3) := by decide +kernel
theorem dX6_clear_36 : decode cX6_clear 36 = .ok (.iload_n 3, 1) := by decide +kernel
theorem dX6_clear_37 : decode cX6_clear 37 = .ok (.iload 5, 2) := by decide +kernel
theorem dX6_clear_39 : decode cX6_clear 39 = .ok (.iadd, 1) := by decide +kernel
theorem dX6_clear_40 : decode cX6_clear 40 = .ok (.invokevirtual 79, 3) := by decide +kernel
theorem dX6_clear_43 : decode cX6_clear 43 = .ok (.istore 6, 2) := by decide +kernel
theorem dX6_clear_45 : decode cX6_clear 45 = .ok (.aload_n 0, 1) := by decide +kernel
theorem dX6_clear_46 : decode cX6_clear 46 = .ok (.iload 6, 2) := by decide +kernel
theorem dX6_clear_48 : decode cX6_clear 48 = .ok (.aload_n 0, 1) := by decide +kernel
theorem dX6_clear_49 : decode cX6_clear 49 = .ok (.getfield 15, 3) := by decide +kernel
theorem dX6_clear_52 : decode cX6_clear 52 = .ok (.iconst (-1), 1) := by decide +kernel
theorem dX6_clear_53 : decode cX6_clear 53 = .ok (.invokevirtual 189, 3) := by decide +kernel
theorem dX6_clear_56 : decode cX6_clear 56 = .ok (.ifCond .eq 15, 3) := by decide +kernel
theorem dX6_clear_59 : decode cX6_clear 59 = .ok (.aload_n 0, 1) := by decide +kernel
theorem dX6_clear_60 : decode cX6_clear 60 = .ok (.getfield 21, 3) := by decide +kernel
theorem dX6_clear_63 : decode cX6_clear 63 = .ok (.iload 6, 2) := by decide +kernel
theorem dX6_clear_65 : decode cX6_clear 65 = .ok (.invokevirtual 193, 3) := by decide +kernel
theorem dX6_clear_68 : decode cX6_clear 68 = .ok (.goto 22, 3) := by decide +kernel
theorem dX6_clear_71 : decode cX6_clear 71 = .ok (.aload_n 0, 1) := by decide +kernel
theorem dX6_clear_72 : decode cX6_clear 72 = .ok (.getfield 28, 3) := by decide +kernel
theorem dX6_clear_75 : decode cX6_clear 75 = .ok (.getfield 186, 3) := by decide +kernel
theorem dX6_clear_78 : decode cX6_clear 78 = .ok (.iload_n 3, 1) := by decide +kernel
theorem dX6_clear_79 : decode cX6_clear 79 = .ok (.iload 4, 2) := by decide +kernel
theorem dX6_clear_81 : decode cX6_clear 81 = .ok (.iadd, 1) := by decide +kernel
theorem dX6_clear_82 : decode cX6_clear 82 = .ok (.iload 6, 2) := by decide +kernel
theorem dX6_clear_84 : decode cX6_clear 84 = .ok (.invokevirtual 99, 3) := by decide +kernel
theorem dX6_clear_87 : decode cX6_clear 87 = .ok (.iinc 4 1, 3) := by decide +kernel
theorem dX6_clear_90 : decode cX6_clear 90 = .ok (.iinc 5 1, 3) := by decide +kernel
theorem dX6_clear_93 : decode cX6_clear 93 = .ok (.goto (-70), 3) := by decide +kernel
theorem dX6_clear_96 : decode cX6_clear 96 = .ok (.aload_n 0, 1) := by decide +kernel
theorem dX6_clear_97 : decode cX6_clear 97 = .ok (.getfield 28, 3) := by decide +kernel
theorem dX6_clear_100 : decode cX6_clear 100 = .ok (.getfield 75, 3) := by decide +kernel
theorem dX6_clear_103 : decode cX6_clear 103 = .ok (.iload_n 1, 1) := by decide +kernel
theorem dX6_clear_104 : decode cX6_clear 104 = .ok (.iload 4, 2) := by decide +kernel
theorem dX6_clear_106 : decode cX6_clear 106 = .ok (.invokevirtual 99, 3) := by decide +kernel
theorem dX6_clear_109 : decode cX6_clear 109 = .ok (.aload_n 0, 1) := by decide +kernel
theorem dX6_clear_110 : decode cX6_clear 110 = .ok (.getfield 28, 3) := by decide +kernel
theorem dX6_clear_113 : decode cX6_clear 113 = .ok (.getfield 196, 3) := by decide +kernel
theorem dX6_clear_116 : decode cX6_clear 116 = .ok (.iload_n 1, 1) := by decide +kernel
theorem dX6_clear_117 : decode cX6_clear 117 = .ok (.iload_n 2, 1) := by decide +kernel
theorem dX6_clear_118 : decode cX6_clear 118 = .ok (.iload 4, 2) := by decide +kernel
theorem dX6_clear_120 : decode cX6_clear 120 = .ok (.isub, 1) := by decide +kernel
theorem dX6_clear_121 : decode cX6_clear 121 = .ok (.invokevirtual 162, 3) := by decide +kernel
theorem dX6_clear_124 : decode cX6_clear 124 = .ok (.aload_n 0, 1) := by decide +kernel
theorem dX6_clear_125 : decode cX6_clear 125 = .ok (.getfield 28, 3) := by decide +kernel
theorem dX6_clear_128 : decode cX6_clear 128 = .ok (.getfield 199, 3) := by decide +kernel
theorem dX6_clear_131 : decode cX6_clear 131 = .ok (.iload_n 1, 1) := by decide +kernel
theorem dX6_clear_132 : decode cX6_clear 132 = .ok (.iconst 1, 1) := by decide +kernel
theorem dX6_clear_133 : decode cX6_clear 133 = .ok (.invokevirtual 162, 3) := by decide +kernel
theorem dX6_clear_136 : decode cX6_clear 136 = .ok (.aload_n 0, 1) := by decide +kernel
theorem dX6_clear_137 : decode cX6_clear 137 = .ok (.dup, 1) := by decide +kernel
theorem dX6_clear_138 : decode cX6_clear 138 = .ok (.getfield 42, 3) := by decide +kernel
theorem dX6_clear_141 : decode cX6_clear 141 = .ok (.iconst 1, 1) := by decide +kernel
theorem dX6_clear_142 : decode cX6_clear 142 = .ok (.iadd, 1) := by decide +kernel
theorem dX6_clear_143 : decode cX6_clear 143 = .ok (.putfield 42, 3) := by decide +kernel
theorem dX6_clear_146 : decode cX6_clear 146 = .ok (.aload_n 0, 1) := by decide +kernel
theorem dX6_clear_147 : decode cX6_clear 147 = .ok (.dup, 1) := by decide +kernel
theorem dX6_clear_148 : decode cX6_clear 148 = .ok (.getfield 45, 3) := by decide +kernel
theorem dX6_clear_151 : decode cX6_clear 151 = .ok (.aload_n 0, 1) := by decide +kernel
theorem dX6_clear_152 : decode cX6_clear 152 = .ok (.getfield 15, 3) := by decide +kernel
theorem dX6_clear_155 : decode cX6_clear 155 = .ok (.ifCond .ne 15, 3) := by decide +kernel
theorem dX6_clear_158 : decode cX6_clear 158 = .ok (.iconst 3, 1) := by decide +kernel
theorem dX6_clear_159 : decode cX6_clear 159 = .ok (.aload_n 0, 1) := by decide +kernel
theorem dX6_clear_160 : decode cX6_clear 160 = .ok (.getfield 28, 3) := by decide +kernel
theorem dX6_clear_163 : decode cX6_clear 163 = .ok (.invokevirtual 201, 3) := by decide +kernel
theorem dX6_clear_166 : decode cX6_clear 166 = .ok (.imul, 1) := by decide +kernel
theorem dX6_clear_167 : decode cX6_clear 167 = .ok (.goto 4, 3) := by decide +kernel
theorem dX6_clear_170 : decode cX6_clear 170 = .ok (.iconst 0, 1) := by decide +kernel
theorem dX6_clear_171 : decode cX6_clear 171 = .ok (.iadd, 1) := by decide +kernel
theorem dX6_clear_172 : decode cX6_clear 172 = .ok (.putfield 45, 3) := by decide +kernel
theorem dX6_clear_175 : decode cX6_clear 175 = .ok (.iload_n 2, 1) := by decide +kernel
theorem dX6_clear_176 : decode cX6_clear 176 = .ok (.iload 4, 2) := by decide +kernel
theorem dX6_clear_178 : decode cX6_clear 178 = .ok (.isub, 1) := by decide +kernel
theorem dX6_clear_179 : decode cX6_clear 179 = .ok (.ireturn, 1) := by decide +kernel
theorem dX6_valueOf_0 : decode cX6_valueOf 0 = .ok (.iload_n 1, 1) := by decide +kernel
theorem dX6_valueOf_1 : decode cX6_valueOf 1 = .ok (.ifCond .ne 10, 3) := by decide +kernel
theorem dX6_valueOf_4 : decode cX6_valueOf 4 = .ok (.aload_n 0, 1) := by decide +kernel
theorem dX6_valueOf_5 : decode cX6_valueOf 5 = .ok (.getfield 9, 3) := by decide +kernel
theorem dX6_valueOf_8 : decode cX6_valueOf 8 = .ok (.goto 7, 3) := by decide +kernel
theorem dX6_valueOf_11 : decode cX6_valueOf 11 = .ok (.aload_n 0, 1) := by decide +kernel
theorem dX6_valueOf_12 : decode cX6_valueOf 12 = .ok (.getfield 15, 3) := by decide +kernel
theorem dX6_valueOf_15 : decode cX6_valueOf 15 = .ok (.ireturn, 1) := by decide +kernel
theorem dX6_change_0 : decode cX6_change 0 = .ok (.aload_n 0, 1) := by decide +kernel
theorem dX6_change_1 : decode cX6_change 1 = .ok (.iload_n 1, 1) := by decide +kernel
theorem dX6_change_2 : decode cX6_change 2 = .ok (.invokevirtual 204, 3) := by decide +kernel
theorem dX6_change_5 : decode cX6_change 5 = .ok (.istore_n 3, 1) := by decide +kernel
theorem dX6_change_6 : decode cX6_change 6 = .ok (.iload_n 1, 1) := by decide +kernel
theorem dX6_change_7 : decode cX6_change 7 = .ok (.ifCond .ne 11, 3) := by decide +kernel
theorem dX6_change_10 : decode cX6_change 10 = .ok (.aload_n 0, 1) := by decide +kernel
theorem dX6_change_11 : decode cX6_change 11 = .ok (.iload_n 2, 1) := by decide +kernel
theorem dX6_change_12 : decode cX6_change 12 = .ok (.putfield 9, 3) := by decide +kernel
theorem dX6_change_15 : decode cX6_change 15 = .ok (.goto 8, 3) := by decide +kernel
theorem dX6_change_18 : decode cX6_change 18 = .ok (.aload_n 0, 1) := by decide +kernel
theorem dX6_change_19 : decode cX6_change 19 = .ok (.iload_n 2, 1) := by decide +kernel
theorem dX6_change_20 : decode cX6_change 20 = .ok (.putfield 15, 3) := by decide +kernel
theorem dX6_change_23 : decode cX6_change 23 = .ok (.iload_n 3, 1) := by decide +kernel
theorem dX6_change_24 : decode cX6_change 24 = .ok (.ireturn, 1) := by decide +kernel
theorem dX6_mayBurn_0 : decode cX6_mayBurn 0 = .ok (.iload_n 2, 1) := by decide +kernel
theorem dX6_mayBurn_1 : decode cX6_mayBurn 1 = .ok (.iconst 1, 1) := by decide +kernel
theorem dX6_mayBurn_2 : decode cX6_mayBurn 2 = .ok (.if_icmp .ne 29, 3) := by decide +kernel
theorem dX6_mayBurn_5 : decode cX6_mayBurn 5 = .ok (.aload_n 0, 1) := by decide +kernel
theorem dX6_mayBurn_6 : decode cX6_mayBurn 6 = .ok (.getfield 39, 3) := by decide +kernel
theorem dX6_mayBurn_9 : decode cX6_mayBurn 9 = .ok (.aload_n 0, 1) := by decide +kernel
theorem dX6_mayBurn_10 : decode cX6_mayBurn 10 = .ok (.getfield 21, 3) := by decide +kernel
theorem dX6_mayBurn_13 : decode cX6_mayBurn 13 = .ok (.getfield 207, 3) := by decide +kernel
theorem dX6_mayBurn_16 : decode cX6_mayBurn 16 = .ok (.iload_n 1, 1) := by decide +kernel
theorem dX6_mayBurn_17 : decode cX6_mayBurn 17 = .ok (.invokevirtual 79, 3) := by decide +kernel
theorem dX6_mayBurn_20 : decode cX6_mayBurn 20 = .ok (.isub, 1) := by decide +kernel
theorem dX6_mayBurn_21 : decode cX6_mayBurn 21 = .ok (.iconst 2, 1) := by decide +kernel
theorem dX6_mayBurn_22 : decode cX6_mayBurn 22 = .ok (.if_icmp .lt 7, 3) := by decide +kernel
theorem dX6_mayBurn_25 : decode cX6_mayBurn 25 = .ok (.iconst 1, 1) := by decide +kernel
theorem dX6_mayBurn_26 : decode cX6_mayBurn 26 = .ok (.goto 4, 3) := by decide +kernel
theorem dX6_mayBurn_29 : decode cX6_mayBurn 29 = .ok (.iconst 0, 1) := by decide +kernel
theorem dX6_mayBurn_30 : decode cX6_mayBurn 30 = .ok (.ireturn, 1) := by decide +kernel
theorem dX6_mayBurn_31 : decode cX6_mayBurn 31 = .ok (.iload_n 3, 1) := by decide +kernel
theorem dX6_mayBurn_32 : decode cX6_mayBurn 32 = .ok (.invokestatic 210, 3) := by decide +kernel
theorem dX6_mayBurn_35 : decode cX6_mayBurn 35 = .ok (.istore 4, 2) := by decide +kernel
theorem dX6_mayBurn_37 : decode cX6_mayBurn 37 = .ok (.iload_n 3, 1) := by decide +kernel
theorem dX6_mayBurn_38 : decode cX6_mayBurn 38 = .ok (.iconst (-1), 1) := by decide +kernel
theorem dX6_mayBurn_39 : decode cX6_mayBurn 39 = .ok (.if_icmp .ne 7, 3) := by decide +kernel
theorem dX6_mayBurn_42 : decode cX6_mayBurn 42 = .ok (.iconst 0, 1) := by decide +kernel
theorem dX6_mayBurn_43 : decode cX6_mayBurn 43 = .ok (.goto 20, 3) := by decide +kernel
theorem dX6_mayBurn_46 : decode cX6_mayBurn 46 = .ok (.aload_n 0, 1) := by decide +kernel
theorem dX6_mayBurn_47 : decode cX6_mayBurn 47 = .ok (.getfield 35, 3) := by decide +kernel
theorem dX6_mayBurn_50 : decode cX6_mayBurn 50 = .ok (.getfield 213, 3) := by decide +kernel
theorem dX6_mayBurn_53 : decode cX6_mayBurn 53 = .ok (.iload_n 1, 1) := by decide +kernel
theorem dX6_mayBurn_54 : decode cX6_mayBurn 54 = .ok (.iload 4, 2) := by decide +kernel
theorem dX6_mayBurn_56 : decode cX6_mayBurn 56 = .ok (.iload 4, 2) := by decide +kernel
theorem dX6_mayBurn_58 : decode cX6_mayBurn 58 = .ok (.iconst 3, 1) := by decide +kernel
theorem dX6_mayBurn_59 : decode cX6_mayBurn 59 = .ok (.iadd, 1) := by decide +kernel
theorem dX6_mayBurn_60 : decode cX6_mayBurn 60 = .ok (.invokevirtual 216, 3) := by decide +kernel
theorem dX6_mayBurn_63 : decode cX6_mayBurn 63 = .ok (.istore 5, 2) := by decide +kernel
theorem dX6_mayBurn_65 : decode cX6_mayBurn 65 = .ok (.aload_n 0, 1) := by decide +kernel
theorem dX6_mayBurn_66 : decode cX6_mayBurn 66 = .ok (.getfield 35, 3) := by decide +kernel
theorem dX6_mayBurn_69 : decode cX6_mayBurn 69 = .ok (.getfield 213, 3) := by decide +kernel
theorem dX6_mayBurn_72 : decode cX6_mayBurn 72 = .ok (.iload_n 1, 1) := by decide +kernel
theorem dX6_mayBurn_73 : decode cX6_mayBurn 73 = .ok (.iconst 0, 1) := by decide +kernel
theorem dX6_mayBurn_74 : decode cX6_mayBurn 74 = .ok (.bipush 15, 2) := by decide +kernel
theorem dX6_mayBurn_76 : decode cX6_mayBurn 76 = .ok (.invokevirtual 216, 3) := by decide +kernel
theorem dX6_mayBurn_79 : decode cX6_mayBurn 79 = .ok (.iload 5, 2) := by decide +kernel
theorem dX6_mayBurn_81 : decode cX6_mayBurn 81 = .ok (.if_icmp .ne 7, 3) := by decide +kernel
theorem dX6_mayBurn_84 : decode cX6_mayBurn 84 = .ok (.iconst 1, 1) := by decide +kernel
theorem dX6_mayBurn_85 : decode cX6_mayBurn 85 = .ok (.goto 4, 3) := by decide +kernel
theorem dX6_mayBurn_88 : decode cX6_mayBurn 88 = .ok (.iconst 0, 1) := by decide +kernel
theorem dX6_mayBurn_89 : decode cX6_mayBurn 89 = .ok (.ireturn, 1) := by decide +kernel
theorem dX6_burnable_0 : decode cX6_burnable 0 = .ok (.aload_n 0, 1) := by decide +kernel
theorem dX6_burnable_1 : decode cX6_burnable 1 = .ok (.getfield 28, 3) := by decide +kernel
theorem dX6_burnable_4 : decode cX6_burnable 4 = .ok (.getfield 75, 3) := by decide +kernel
theorem dX6_burnable_7 : decode cX6_burnable 7 = .ok (.iload_n 1, 1) := by decide +kernel
theorem dX6_burnable_8 : decode cX6_burnable 8 = .ok (.invokevirtual 79, 3) := by decide +kernel
theorem dX6_burnable_11 : decode cX6_burnable 11 = .ok (.istore 4, 2) := by decide +kernel
theorem dX6_burnable_13 : decode cX6_burnable 13 = .ok (.iconst 0, 1) := by decide +kernel
theorem dX6_burnable_14 : decode cX6_burnable 14 = .ok (.istore 5, 2) := by decide +kernel
theorem dX6_burnable_16 : decode cX6_burnable 16 = .ok (.iconst 0, 1) := by decide +kernel
theorem dX6_burnable_17 : decode cX6_burnable 17 = .ok (.istore 6, 2) := by decide +kernel
theorem dX6_burnable_19 : decode cX6_burnable 19 = .ok (.iload 6, 2) := by decide +kernel
theorem dX6_burnable_21 : decode cX6_burnable 21 = .ok (.iload 4, 2) := by decide +kernel
theorem dX6_burnable_23 : decode cX6_burnable 23 = .ok (.if_icmp .ge 38, 3) := by decide +kernel
theorem dX6_burnable_26 : decode cX6_burnable 26 = .ok (.iload 5, 2) := by decide +kernel
theorem dX6_burnable_28 : decode cX6_burnable 28 = .ok (.aload_n 0, 1) := by decide +kernel
theorem dX6_burnable_29 : decode cX6_burnable 29 = .ok (.aload_n 0, 1) := by decide +kernel
theorem dX6_burnable_30 : decode cX6_burnable 30 = .ok (.getfield 28, 3) := by decide +kernel
theorem dX6_burnable_33 : decode cX6_burnable 33 = .ok (.iload_n 1, 1) := by decide +kernel
theorem dX6_burnable_34 : decode cX6_burnable 34 = .ok (.iload 6, 2) := by decide +kernel
theorem dX6_burnable_36 : decode cX6_burnable 36 = .ok (.invokevirtual 88, 3) := by decide +kernel
theorem dX6_burnable_39 : decode cX6_burnable 39 = .ok (.iload_n 2, 1) := by decide +kernel
theorem dX6_burnable_40 : decode cX6_burnable 40 = .ok (.iload_n 3, 1) := by decide +kernel
theorem dX6_burnable_41 : decode cX6_burnable 41 = .ok (.invokevirtual 189, 3) := by decide +kernel
theorem dX6_burnable_44 : decode cX6_burnable 44 = .ok (.ifCond .eq 7, 3) := by decide +kernel
theorem dX6_burnable_47 : decode cX6_burnable 47 = .ok (.iconst 1, 1) := by decide +kernel
theorem dX6_burnable_48 : decode cX6_burnable 48 = .ok (.goto 4, 3) := by decide +kernel
theorem dX6_burnable_51 : decode cX6_burnable 51 = .ok (.iconst 0, 1) := by decide +kernel
theorem dX6_burnable_52 : decode cX6_burnable 52 = .ok (.iadd, 1) := by decide +kernel
theorem dX6_burnable_53 : decode cX6_burnable 53 = .ok (.istore 5, 2) := by decide +kernel
theorem dX6_burnable_55 : decode cX6_burnable 55 = .ok (.iinc 6 1, 3) := by decide +kernel
theorem dX6_burnable_58 : decode cX6_burnable 58 = .ok (.goto (-39), 3) := by decide +kernel
theorem dX6_burnable_61 : decode cX6_burnable 61 = .ok (.iload 5, 2) := by decide +kernel
theorem dX6_burnable_63 : decode cX6_burnable 63 = .ok (.ireturn, 1) := by decide +kernel
theorem dX6_burnableIfRested_0 : decode cX6_burnableIfRested 0 = .ok (.iconst 0, 1) := by decide +kernel
theorem dX6_burnableIfRested_1 : decode cX6_burnableIfRested 1 = .ok (.istore_n 2, 1) := by decide +kernel
theorem dX6_burnableIfRested_2 : decode cX6_burnableIfRested 2 = .ok (.iconst 0, 1) := by decide +kernel
theorem dX6_burnableIfRested_3 : decode cX6_burnableIfRested 3 = .ok (.istore_n 3, 1) := by decide +kernel
theorem dX6_burnableIfRested_4 : decode cX6_burnableIfRested 4 = .ok (.iload_n 3, 1) := by decide +kernel
theorem dX6_burnableIfRested_5 : decode cX6_burnableIfRested 5 = .ok (.iconst 5, 1) := by decide +kernel
theorem dX6_burnableIfRested_6 : decode cX6_burnableIfRested 6 = .ok (.if_icmp .ge 22, 3) := by decide +kernel
theorem dX6_burnableIfRested_9 : decode cX6_burnableIfRested 9 = .ok (.iload_n 2, 1) := by decide +kernel
theorem dX6_burnableIfRested_10 : decode cX6_burnableIfRested 10 = .ok (.aload_n 0, 1) := by decide +kernel
theorem dX6_burnableIfRested_11 : decode cX6_burnableIfRested 11 = .ok (.iload_n 3, 1) := by decide +kernel
theorem dX6_burnableIfRested_12 : decode cX6_burnableIfRested 12 = .ok (.aload_n 0, 1) := by decide +kernel
theorem dX6_burnableIfRested_13 : decode cX6_burnableIfRested 13 = .ok (.getfield 15, 3) := by decide +kernel
theorem dX6_burnableIfRested_16 : decode cX6_burnableIfRested 16 = .ok (.iload_n 1, 1) := by decide +kernel
theorem dX6_burnableIfRested_17 : decode cX6_burnableIfRested 17 = .ok (.invokevirtual 219, 3) := by decide +kernel
theorem dX6_burnableIfRested_20 : decode cX6_burnableIfRested 20 = .ok (.iadd, 1) := by decide +kernel
theorem dX6_burnableIfRested_21 : decode cX6_burnableIfRested 21 = .ok (.istore_n 2, 1) := by decide +kernel
theorem dX6_burnableIfRested_22 : decode cX6_burnableIfRested 22 = .ok (.iinc 3 1, 3) := by decide +kernel
theorem dX6_burnableIfRested_25 : decode cX6_burnableIfRested 25 = .ok (.goto (-21), 3) := by decide +kernel
theorem dX6_burnableIfRested_28 : decode cX6_burnableIfRested 28 = .ok (.iload_n 2, 1) := by decide +kernel
theorem dX6_burnableIfRested_29 : decode cX6_burnableIfRested 29 = .ok (.ireturn, 1) := by decide +kernel
theorem dX6_burnableIfAllRested_0 : decode cX6_burnableIfAllRested 0 = .ok (.iconst 0, 1) := by decide +kernel
theorem dX6_burnableIfAllRested_1 : decode cX6_burnableIfAllRested 1 = .ok (.istore_n 1, 1) := by decide +kernel
theorem dX6_burnableIfAllRested_2 : decode cX6_burnableIfAllRested 2 = .ok (.iconst 0, 1) := by decide +kernel
theorem dX6_burnableIfAllRested_3 : decode cX6_burnableIfAllRested 3 = .ok (.istore_n 2, 1) := by decide +kernel
theorem dX6_burnableIfAllRested_4 : decode cX6_burnableIfAllRested 4 = .ok (.iload_n 2, 1) := by decide +kernel
theorem dX6_burnableIfAllRested_5 : decode cX6_burnableIfAllRested 5 = .ok (.aload_n 0, 1) := by decide +kernel
theorem dX6_burnableIfAllRested_6 : decode cX6_burnableIfAllRested 6 = .ok (.getfield 21, 3) := by decide +kernel
theorem dX6_burnableIfAllRested_9 : decode cX6_burnableIfAllRested 9 = .ok (.getfield 127, 3) := by decide +kernel
theorem dX6_burnableIfAllRested_12 : decode cX6_burnableIfAllRested 12 = .ok (.if_icmp .ge 77, 3) := by decide +kernel
theorem dX6_burnableIfAllRested_15 : decode cX6_burnableIfAllRested 15 = .ok (.iload_n 2, 1) := by decide +kernel
theorem dX6_burnableIfAllRested_16 : decode cX6_burnableIfAllRested 16 = .ok (.bipush 120, 2) := by decide +kernel
theorem dX6_burnableIfAllRested_18 : decode cX6_burnableIfAllRested 18 = .ok (.if_icmp .ge 71, 3) := by decide +kernel
theorem dX6_burnableIfAllRested_21 : decode cX6_burnableIfAllRested 21 = .ok (.aload_n 0, 1) := by decide +kernel
theorem dX6_burnableIfAllRested_22 : decode cX6_burnableIfAllRested 22 = .ok (.getfield 15, 3) := by decide +kernel
theorem dX6_burnableIfAllRested_25 : decode cX6_burnableIfAllRested 25 = .ok (.ifCond .eq 25, 3) := by decide +kernel
theorem dX6_burnableIfAllRested_28 : decode cX6_burnableIfAllRested 28 = .ok (.aload_n 0, 1) := by decide +kernel
theorem dX6_burnableIfAllRested_29 : decode cX6_burnableIfAllRested 29 = .ok (.getfield 39, 3) := by decide +kernel
theorem dX6_burnableIfAllRested_32 : decode cX6_burnableIfAllRested 32 = .ok (.iconst 2, 1) := by decide +kernel
theorem dX6_burnableIfAllRested_33 : decode cX6_burnableIfAllRested 33 = .ok (.iadd, 1) := by decide +kernel
theorem dX6_burnableIfAllRested_34 : decode cX6_burnableIfAllRested 34 = .ok (.aload_n 0, 1) := by decide +kernel
theorem dX6_burnableIfAllRested_35 : decode cX6_burnableIfAllRested 35 = .ok (.getfield 21, 3) := by decide +kernel
theorem dX6_burnableIfAllRested_38 : decode cX6_burnableIfAllRested 38 = .ok (.getfield 207, 3) := by decide +kernel
theorem dX6_burnableIfAllRested_41 : decode cX6_burnableIfAllRested 41 = .ok (.iload_n 2, 1) := by decide +kernel
theorem dX6_burnableIfAllRested_42 : decode cX6_burnableIfAllRested 42 = .ok (.invokevirtual 79, 3) := by decide +kernel
theorem dX6_burnableIfAllRested_45 : decode cX6_burnableIfAllRested 45 = .ok (.isub, 1) := by decide +kernel
theorem dX6_burnableIfAllRested_46 : decode cX6_burnableIfAllRested 46 = .ok (.iconst 2, 1) := by decide +kernel
theorem dX6_burnableIfAllRested_47 : decode cX6_burnableIfAllRested 47 = .ok (.if_icmp .lt 7, 3) := by decide +kernel
theorem dX6_burnableIfAllRested_50 : decode cX6_burnableIfAllRested 50 = .ok (.iconst 1, 1) := by decide +kernel
theorem dX6_burnableIfAllRested_51 : decode cX6_burnableIfAllRested 51 = .ok (.goto 4, 3) := by decide +kernel
theorem dX6_burnableIfAllRested_54 : decode cX6_burnableIfAllRested 54 = .ok (.iconst 0, 1) := by decide +kernel
theorem dX6_burnableIfAllRested_55 : decode cX6_burnableIfAllRested 55 = .ok (.istore_n 3, 1) := by decide +kernel
theorem dX6_burnableIfAllRested_56 : decode cX6_burnableIfAllRested 56 = .ok (.iload_n 1, 1) := by decide +kernel
theorem dX6_burnableIfAllRested_57 : decode cX6_burnableIfAllRested 57 = .ok (.aload_n 0, 1) := by decide +kernel
theorem dX6_burnableIfAllRested_58 : decode cX6_burnableIfAllRested 58 = .ok (.getfield 21, 3) := by decide +kernel
theorem dX6_burnableIfAllRested_61 : decode cX6_burnableIfAllRested 61 = .ok (.getfield 149, 3) := by decide +kernel
theorem dX6_burnableIfAllRested_64 : decode cX6_burnableIfAllRested 64 = .ok (.iload_n 2, 1) := by decide +kernel
theorem dX6_burnableIfAllRested_65 : decode cX6_burnableIfAllRested 65 = .ok (.invokevirtual 79, 3) := by decide +kernel
theorem dX6_burnableIfAllRested_68 : decode cX6_burnableIfAllRested 68 = .ok (.iconst 1, 1) := by decide +kernel
theorem dX6_burnableIfAllRested_69 : decode cX6_burnableIfAllRested 69 = .ok (.if_icmp .ne 11, 3) := by decide +kernel
theorem dX6_burnableIfAllRested_72 : decode cX6_burnableIfAllRested 72 = .ok (.iload_n 3, 1) := by decide +kernel
theorem dX6_burnableIfAllRested_73 : decode cX6_burnableIfAllRested 73 = .ok (.ifCond .eq 7, 3) := by decide +kernel
theorem dX6_burnableIfAllRested_76 : decode cX6_burnableIfAllRested 76 = .ok (.iconst 1, 1) := by decide +kernel
theorem dX6_burnableIfAllRested_77 : decode cX6_burnableIfAllRested 77 = .ok (.goto 4, 3) := by decide +kernel
theorem dX6_burnableIfAllRested_80 : decode cX6_burnableIfAllRested 80 = .ok (.iconst 0, 1) := by decide +kernel
theorem dX6_burnableIfAllRested_81 : decode cX6_burnableIfAllRested 81 = .ok (.iadd, 1) := by decide +kernel
theorem dX6_burnableIfAllRested_82 : decode cX6_burnableIfAllRested 82 = .ok (.istore_n 1, 1) := by decide +kernel
theorem dX6_burnableIfAllRested_83 : decode cX6_burnableIfAllRested 83 = .ok (.iinc 2 1, 3) := by decide +kernel
theorem dX6_burnableIfAllRested_86 : decode cX6_burnableIfAllRested 86 = .ok (.goto (-82), 3) := by decide +kernel
theorem dX6_burnableIfAllRested_89 : decode cX6_burnableIfAllRested 89 = .ok (.iload_n 1, 1) := by decide +kernel
theorem dX6_burnableIfAllRested_90 : decode cX6_burnableIfAllRested 90 = .ok (.ireturn, 1) := by decide +kernel
theorem dX6_bestHeap_0 : decode cX6_bestHeap 0 = .ok (.iconst (-1), 1) := by decide +kernel
theorem dX6_bestHeap_1 : decode cX6_bestHeap 1 = .ok (.istore_n 1, 1) := by decide +kernel
theorem dX6_bestHeap_2 : decode cX6_bestHeap 2 = .ok (.iconst 0, 1) := by decide +kernel
theorem dX6_bestHeap_3 : decode cX6_bestHeap 3 = .ok (.istore_n 2, 1) := by decide +kernel
theorem dX6_bestHeap_4 : decode cX6_bestHeap 4 = .ok (.iconst 0, 1) := by decide +kernel
theorem dX6_bestHeap_5 : decode cX6_bestHeap 5 = .ok (.istore_n 3, 1) := by decide +kernel
theorem dX6_bestHeap_6 : decode cX6_bestHeap 6 = .ok (.iload_n 3, 1) := by decide +kernel
theorem dX6_bestHeap_7 : decode cX6_bestHeap 7 = .ok (.iconst 5, 1) := by decide +kernel
theorem dX6_bestHeap_8 : decode cX6_bestHeap 8 = .ok (.if_icmp .ge 80, 3) := by decide +kernel
theorem dX6_bestHeap_11 : decode cX6_bestHeap 11 = .ok (.aload_n 0, 1) := by decide +kernel
theorem dX6_bestHeap_12 : decode cX6_bestHeap 12 = .ok (.iload_n 3, 1) := by decide +kernel
theorem dX6_bestHeap_13 : decode cX6_bestHeap 13 = .ok (.aload_n 0, 1) := by decide +kernel
theorem dX6_bestHeap_14 : decode cX6_bestHeap 14 = .ok (.getfield 15, 3) := by decide +kernel
theorem dX6_bestHeap_17 : decode cX6_bestHeap 17 = .ok (.iconst (-1), 1) := by decide +kernel
theorem dX6_bestHeap_18 : decode cX6_bestHeap 18 = .ok (.invokevirtual 219, 3) := by decide +kernel
theorem dX6_bestHeap_21 : decode cX6_bestHeap 21 = .ok (.istore 4, 2) := by decide +kernel
theorem dX6_bestHeap_23 : decode cX6_bestHeap 23 = .ok (.aload_n 0, 1) := by decide +kernel
theorem dX6_bestHeap_24 : decode cX6_bestHeap 24 = .ok (.getfield 28, 3) := by decide +kernel
theorem dX6_bestHeap_27 : decode cX6_bestHeap 27 = .ok (.getfield 75, 3) := by decide +kernel
theorem dX6_bestHeap_30 : decode cX6_bestHeap 30 = .ok (.iload_n 3, 1) := by decide +kernel
theorem dX6_bestHeap_31 : decode cX6_bestHeap 31 = .ok (.invokevirtual 79, 3) := by decide +kernel
theorem dX6_bestHeap_34 : decode cX6_bestHeap 34 = .ok (.aload_n 0, 1) := by decide +kernel
theorem dX6_bestHeap_35 : decode cX6_bestHeap 35 = .ok (.getfield 28, 3) := by decide +kernel
theorem dX6_bestHeap_38 : decode cX6_bestHeap 38 = .ok (.getfield 75, 3) := by decide +kernel
theorem dX6_bestHeap_41 : decode cX6_bestHeap 41 = .ok (.iload_n 1, 1) := by decide +kernel
theorem dX6_bestHeap_42 : decode cX6_bestHeap 42 = .ok (.invokevirtual 79, 3) := by decide +kernel
theorem dX6_bestHeap_45 : decode cX6_bestHeap 45 = .ok (.if_icmp .le 7, 3) := by decide +kernel
theorem dX6_bestHeap_48 : decode cX6_bestHeap 48 = .ok (.iconst 1, 1) := by decide +kernel
theorem dX6_bestHeap_49 : decode cX6_bestHeap 49 = .ok (.goto 4, 3) := by decide +kernel
theorem dX6_bestHeap_52 : decode cX6_bestHeap 52 = .ok (.iconst 0, 1) := by decide +kernel
theorem dX6_bestHeap_53 : decode cX6_bestHeap 53 = .ok (.istore 5, 2) := by decide +kernel
theorem dX6_bestHeap_55 : decode cX6_bestHeap 55 = .ok (.iload 4, 2) := by decide +kernel
theorem dX6_bestHeap_57 : decode cX6_bestHeap 57 = .ok (.iload_n 2, 1) := by decide +kernel
theorem dX6_bestHeap_58 : decode cX6_bestHeap 58 = .ok (.if_icmp .gt 19, 3) := by decide +kernel
theorem dX6_bestHeap_61 : decode cX6_bestHeap 61 = .ok (.iload 4, 2) := by decide +kernel
theorem dX6_bestHeap_63 : decode cX6_bestHeap 63 = .ok (.ifCond .le 19, 3) := by decide +kernel
theorem dX6_bestHeap_66 : decode cX6_bestHeap 66 = .ok (.iload 4, 2) := by decide +kernel
theorem dX6_bestHeap_68 : decode cX6_bestHeap 68 = .ok (.iload_n 2, 1) := by decide +kernel
theorem dX6_bestHeap_69 : decode cX6_bestHeap 69 = .ok (.if_icmp .ne 13, 3) := by decide +kernel
theorem dX6_bestHeap_72 : decode cX6_bestHeap 72 = .ok (.iload 5, 2) := by decide +kernel
theorem dX6_bestHeap_74 : decode cX6_bestHeap 74 = .ok (.ifCond .eq 8, 3) := by decide +kernel
theorem dX6_bestHeap_77 : decode cX6_bestHeap 77 = .ok (.iload_n 3, 1) := by decide +kernel
theorem dX6_bestHeap_78 : decode cX6_bestHeap 78 = .ok (.istore_n 1, 1) := by decide +kernel
theorem dX6_bestHeap_79 : decode cX6_bestHeap 79 = .ok (.iload 4, 2) := by decide +kernel
theorem dX6_bestHeap_81 : decode cX6_bestHeap 81 = .ok (.istore_n 2, 1) := by decide +kernel
theorem dX6_bestHeap_82 : decode cX6_bestHeap 82 = .ok (.iinc 3 1, 3) := by decide +kernel
theorem dX6_bestHeap_85 : decode cX6_bestHeap 85 = .ok (.goto (-79), 3) := by decide +kernel
theorem dX6_bestHeap_88 : decode cX6_bestHeap 88 = .ok (.iload_n 1, 1) := by decide +kernel
theorem dX6_bestHeap_89 : decode cX6_bestHeap 89 = .ok (.ireturn, 1) := by decide +kernel
theorem dX6_freedBy_0 : decode cX6_freedBy 0 = .ok (.aload_n 0, 1) := by decide +kernel
theorem dX6_freedBy_1 : decode cX6_freedBy 1 = .ok (.getfield 35, 3) := by decide +kernel
theorem dX6_freedBy_4 : decode cX6_freedBy 4 = .ok (.iload_n 1, 1) := by decide +kernel
theorem dX6_freedBy_5 : decode cX6_freedBy 5 = .ok (.iload_n 2, 1) := by decide +kernel
theorem dX6_freedBy_6 : decode cX6_freedBy 6 = .ok (.invokevirtual 137, 3) := by decide +kernel
theorem dX6_freedBy_9 : decode cX6_freedBy 9 = .ok (.istore_n 3, 1) := by decide +kernel
theorem dX6_freedBy_10 : decode cX6_freedBy 10 = .ok (.aload_n 0, 1) := by decide +kernel
theorem dX6_freedBy_11 : decode cX6_freedBy 11 = .ok (.getfield 35, 3) := by decide +kernel
theorem dX6_freedBy_14 : decode cX6_freedBy 14 = .ok (.iload_n 1, 1) := by decide +kernel
theorem dX6_freedBy_15 : decode cX6_freedBy 15 = .ok (.iload_n 2, 1) := by decide +kernel
theorem dX6_freedBy_16 : decode cX6_freedBy 16 = .ok (.invokevirtual 130, 3) := by decide +kernel
theorem dX6_freedBy_19 : decode cX6_freedBy 19 = .ok (.iconst 2, 1) := by decide +kernel
theorem dX6_freedBy_20 : decode cX6_freedBy 20 = .ok (.if_icmp .ne 22, 3) := by decide +kernel
theorem dX6_freedBy_23 : decode cX6_freedBy 23 = .ok (.aload_n 0, 1) := by decide +kernel
theorem dX6_freedBy_24 : decode cX6_freedBy 24 = .ok (.getfield 21, 3) := by decide +kernel
theorem dX6_freedBy_27 : decode cX6_freedBy 27 = .ok (.getfield 149, 3) := by decide +kernel
theorem dX6_freedBy_30 : decode cX6_freedBy 30 = .ok (.iload_n 3, 1) := by decide +kernel
theorem dX6_freedBy_31 : decode cX6_freedBy 31 = .ok (.invokevirtual 79, 3) := by decide +kernel
theorem dX6_freedBy_34 : decode cX6_freedBy 34 = .ok (.iconst 1, 1) := by decide +kernel
theorem dX6_freedBy_35 : decode cX6_freedBy 35 = .ok (.if_icmp .ne 7, 3) := by decide +kernel
theorem dX6_freedBy_38 : decode cX6_freedBy 38 = .ok (.iconst 1, 1) := by decide +kernel
theorem dX6_freedBy_39 : decode cX6_freedBy 39 = .ok (.goto 4, 3) := by decide +kernel
theorem dX6_freedBy_42 : decode cX6_freedBy 42 = .ok (.iconst 0, 1) := by decide +kernel
theorem dX6_freedBy_43 : decode cX6_freedBy 43 = .ok (.istore 4, 2) := by decide +kernel
theorem dX6_freedBy_45 : decode cX6_freedBy 45 = .ok (.iload 4, 2) := by decide +kernel
theorem dX6_freedBy_47 : decode cX6_freedBy 47 = .ok (.ifCond .eq 19, 3) := by decide +kernel
theorem dX6_freedBy_50 : decode cX6_freedBy 50 = .ok (.aload_n 0, 1) := by decide +kernel
theorem dX6_freedBy_51 : decode cX6_freedBy 51 = .ok (.getfield 35, 3) := by decide +kernel
theorem dX6_freedBy_54 : decode cX6_freedBy 54 = .ok (.iload_n 3, 1) := by decide +kernel
theorem dX6_freedBy_55 : decode cX6_freedBy 55 = .ok (.invokevirtual 222, 3) := by decide +kernel
theorem dX6_freedBy_58 : decode cX6_freedBy 58 = .ok (.iconst 1, 1) := by decide +kernel
theorem dX6_freedBy_59 : decode cX6_freedBy 59 = .ok (.if_icmp .ne 7, 3) := by decide +kernel
theorem dX6_freedBy_62 : decode cX6_freedBy 62 = .ok (.iconst 1, 1) := by decide +kernel
theorem dX6_freedBy_63 : decode cX6_freedBy 63 = .ok (.goto 4, 3) := by decide +kernel
theorem dX6_freedBy_66 : decode cX6_freedBy 66 = .ok (.iconst 0, 1) := by decide +kernel
theorem dX6_freedBy_67 : decode cX6_freedBy 67 = .ok (.ireturn, 1) := by decide +kernel
theorem dX6_mostPinned_0 : decode cX6_mostPinned 0 = .ok (.iconst (-1), 1) := by decide +kernel
theorem dX6_mostPinned_1 : decode cX6_mostPinned 1 = .ok (.istore_n 1, 1) := by decide +kernel
theorem dX6_mostPinned_2 : decode cX6_mostPinned 2 = .ok (.iconst 0, 1) := by decide +kernel
theorem dX6_mostPinned_3 : decode cX6_mostPinned 3 = .ok (.istore_n 2, 1) := by decide +kernel
theorem dX6_mostPinned_4 : decode cX6_mostPinned 4 = .ok (.iconst 0, 1) := by decide +kernel
theorem dX6_mostPinned_5 : decode cX6_mostPinned 5 = .ok (.istore_n 3, 1) := by decide +kernel
theorem dX6_mostPinned_6 : decode cX6_mostPinned 6 = .ok (.iload_n 3, 1) := by decide +kernel
theorem dX6_mostPinned_7 : decode cX6_mostPinned 7 = .ok (.aload_n 0, 1) := by decide +kernel
theorem dX6_mostPinned_8 : decode cX6_mostPinned 8 = .ok (.getfield 21, 3) := by decide +kernel
theorem dX6_mostPinned_11 : decode cX6_mostPinned 11 = .ok (.getfield 127, 3) := by decide +kernel
theorem dX6_mostPinned_14 : decode cX6_mostPinned 14 = .ok (.if_icmp .ge 36, 3) := by decide +kernel
theorem dX6_mostPinned_17 : decode cX6_mostPinned 17 = .ok (.iload_n 3, 1) := by decide +kernel
theorem dX6_mostPinned_18 : decode cX6_mostPinned 18 = .ok (.bipush 120, 2) := by decide +kernel
theorem dX6_mostPinned_20 : decode cX6_mostPinned 20 = .ok (.if_icmp .ge 30, 3) := by decide +kernel
theorem dX6_mostPinned_23 : decode cX6_mostPinned 23 = .ok (.aload_n 0, 1) := by decide +kernel
theorem dX6_mostPinned_24 : decode cX6_mostPinned 24 = .ok (.getfield 35, 3) := by decide +kernel
theorem dX6_mostPinned_27 : decode cX6_mostPinned 27 = .ok (.iload_n 3, 1) := by decide +kernel
theorem dX6_mostPinned_28 : decode cX6_mostPinned 28 = .ok (.invokevirtual 222, 3) := by decide +kernel
theorem dX6_mostPinned_31 : decode cX6_mostPinned 31 = .ok (.istore 4, 2) := by decide +kernel
theorem dX6_mostPinned_33 : decode cX6_mostPinned 33 = .ok (.iload 4, 2) := by decide +kernel
theorem dX6_mostPinned_35 : decode cX6_mostPinned 35 = .ok (.iload_n 2, 1) := by decide +kernel
theorem dX6_mostPinned_36 : decode cX6_mostPinned 36 = .ok (.if_icmp .le 8, 3) := by decide +kernel
theorem dX6_mostPinned_39 : decode cX6_mostPinned 39 = .ok (.iload_n 3, 1) := by decide +kernel
theorem dX6_mostPinned_40 : decode cX6_mostPinned 40 = .ok (.istore_n 1, 1) := by decide +kernel
theorem dX6_mostPinned_41 : decode cX6_mostPinned 41 = .ok (.iload 4, 2) := by decide +kernel
theorem dX6_mostPinned_43 : decode cX6_mostPinned 43 = .ok (.istore_n 2, 1) := by decide +kernel
theorem dX6_mostPinned_44 : decode cX6_mostPinned 44 = .ok (.iinc 3 1, 3) := by decide +kernel
theorem dX6_mostPinned_47 : decode cX6_mostPinned 47 = .ok (.goto (-41), 3) := by decide +kernel
theorem dX6_mostPinned_50 : decode cX6_mostPinned 50 = .ok (.iload_n 1, 1) := by decide +kernel
theorem dX6_mostPinned_51 : decode cX6_mostPinned 51 = .ok (.ireturn, 1) := by decide +kernel
theorem dX6_whyNotBurnt_0 : decode cX6_whyNotBurnt 0 = .ok (.aload_n 0, 1) := by decide +kernel
theorem dX6_whyNotBurnt_1 : decode cX6_whyNotBurnt 1 = .ok (.getfield 21, 3) := by decide +kernel
theorem dX6_whyNotBurnt_4 : decode cX6_whyNotBurnt 4 = .ok (.getfield 149, 3) := by decide +kernel
theorem dX6_whyNotBurnt_7 : decode cX6_whyNotBurnt 7 = .ok (.iload_n 1, 1) := by decide +kernel
theorem dX6_whyNotBurnt_8 : decode cX6_whyNotBurnt 8 = .ok (.invokevirtual 79, 3) := by decide +kernel
theorem dX6_whyNotBurnt_11 : decode cX6_whyNotBurnt 11 = .ok (.istore_n 2, 1) := by decide +kernel
theorem dX6_whyNotBurnt_12 : decode cX6_whyNotBurnt 12 = .ok (.iload_n 2, 1) := by decide +kernel
theorem dX6_whyNotBurnt_13 : decode cX6_whyNotBurnt 13 = .ok (.iconst 2, 1) := by decide +kernel
theorem dX6_whyNotBurnt_14 : decode cX6_whyNotBurnt 14 = .ok (.if_icmp .ne 5, 3) := by decide +kernel
theorem dX6_whyNotBurnt_17 : decode cX6_whyNotBurnt 17 = .ok (.iconst 0, 1) := by decide +kernel
theorem dX6_whyNotBurnt_18 : decode cX6_whyNotBurnt 18 = .ok (.ireturn, 1) := by decide +kernel
theorem dX6_whyNotBurnt_19 : decode cX6_whyNotBurnt 19 = .ok (.iload_n 2, 1) := by decide +kernel
theorem dX6_whyNotBurnt_20 : decode cX6_whyNotBurnt 20 = .ok (.ifCond .ne 5, 3) := by decide +kernel
theorem dX6_whyNotBurnt_23 : decode cX6_whyNotBurnt 23 = .ok (.iconst 1, 1) := by decide +kernel
theorem dX6_whyNotBurnt_24 : decode cX6_whyNotBurnt 24 = .ok (.ireturn, 1) := by decide +kernel
theorem dX6_whyNotBurnt_25 : decode cX6_whyNotBurnt 25 = .ok (.aload_n 0, 1) := by decide +kernel
theorem dX6_whyNotBurnt_26 : decode cX6_whyNotBurnt 26 = .ok (.iload_n 1, 1) := by decide +kernel
theorem dX6_whyNotBurnt_27 : decode cX6_whyNotBurnt 27 = .ok (.aload_n 0, 1) := by decide +kernel
theorem dX6_whyNotBurnt_28 : decode cX6_whyNotBurnt 28 = .ok (.getfield 15, 3) := by decide +kernel
theorem dX6_whyNotBurnt_31 : decode cX6_whyNotBurnt 31 = .ok (.iconst (-1), 1) := by decide +kernel
theorem dX6_whyNotBurnt_32 : decode cX6_whyNotBurnt 32 = .ok (.invokevirtual 189, 3) := by decide +kernel
theorem dX6_whyNotBurnt_35 : decode cX6_whyNotBurnt 35 = .ok (.ifCond .eq 7, 3) := by decide +kernel
theorem dX6_whyNotBurnt_38 : decode cX6_whyNotBurnt 38 = .ok (.iconst 3, 1) := by decide +kernel
theorem dX6_whyNotBurnt_39 : decode cX6_whyNotBurnt 39 = .ok (.goto 4, 3) := by decide +kernel
theorem dX6_whyNotBurnt_42 : decode cX6_whyNotBurnt 42 = .ok (.iconst 2, 1) := by decide +kernel
theorem dX6_whyNotBurnt_43 : decode cX6_whyNotBurnt 43 = .ok (.ireturn, 1) := by decide +kernel
theorem dX6_numberOfLeaf_0 : decode cX6_numberOfLeaf 0 = .ok (.iload_n 2, 1) := by decide +kernel
theorem dX6_numberOfLeaf_1 : decode cX6_numberOfLeaf 1 = .ok (.tableswitch 121 0 6 #[43, 55, 67, 79, 91, 103, 112], 43) := by decide +kernel
theorem dX6_numberOfLeaf_44 : decode cX6_numberOfLeaf 44 = .ok (.aload_n 0, 1) := by decide +kernel
theorem dX6_numberOfLeaf_45 : decode cX6_numberOfLeaf 45 = .ok (.getfield 21, 3) := by decide +kernel
theorem dX6_numberOfLeaf_48 : decode cX6_numberOfLeaf 48 = .ok (.getfield 152, 3) := by decide +kernel
theorem dX6_numberOfLeaf_51 : decode cX6_numberOfLeaf 51 = .ok (.iload_n 1, 1) := by decide +kernel
theorem dX6_numberOfLeaf_52 : decode cX6_numberOfLeaf 52 = .ok (.invokevirtual 79, 3) := by decide +kernel
theorem dX6_numberOfLeaf_55 : decode cX6_numberOfLeaf 55 = .ok (.ireturn, 1) := by decide +kernel
theorem dX6_numberOfLeaf_56 : decode cX6_numberOfLeaf 56 = .ok (.aload_n 0, 1) := by decide +kernel
theorem dX6_numberOfLeaf_57 : decode cX6_numberOfLeaf 57 = .ok (.getfield 21, 3) := by decide +kernel
theorem dX6_numberOfLeaf_60 : decode cX6_numberOfLeaf 60 = .ok (.getfield 149, 3) := by decide +kernel
theorem dX6_numberOfLeaf_63 : decode cX6_numberOfLeaf 63 = .ok (.iload_n 1, 1) := by decide +kernel
theorem dX6_numberOfLeaf_64 : decode cX6_numberOfLeaf 64 = .ok (.invokevirtual 79, 3) := by decide +kernel
theorem dX6_numberOfLeaf_67 : decode cX6_numberOfLeaf 67 = .ok (.ireturn, 1) := by decide +kernel
theorem dX6_numberOfLeaf_68 : decode cX6_numberOfLeaf 68 = .ok (.aload_n 0, 1) := by decide +kernel
theorem dX6_numberOfLeaf_69 : decode cX6_numberOfLeaf 69 = .ok (.getfield 21, 3) := by decide +kernel
theorem dX6_numberOfLeaf_72 : decode cX6_numberOfLeaf 72 = .ok (.getfield 225, 3) := by decide +kernel
theorem dX6_numberOfLeaf_75 : decode cX6_numberOfLeaf 75 = .ok (.iload_n 1, 1) := by decide +kernel
theorem dX6_numberOfLeaf_76 : decode cX6_numberOfLeaf 76 = .ok (.invokevirtual 79, 3) := by decide +kernel
theorem dX6_numberOfLeaf_79 : decode cX6_numberOfLeaf 79 = .ok (.ireturn, 1) := by decide +kernel
theorem dX6_numberOfLeaf_80 : decode cX6_numberOfLeaf 80 = .ok (.aload_n 0, 1) := by decide +kernel
theorem dX6_numberOfLeaf_81 : decode cX6_numberOfLeaf 81 = .ok (.getfield 21, 3) := by decide +kernel
theorem dX6_numberOfLeaf_84 : decode cX6_numberOfLeaf 84 = .ok (.getfield 207, 3) := by decide +kernel
theorem dX6_numberOfLeaf_87 : decode cX6_numberOfLeaf 87 = .ok (.iload_n 1, 1) := by decide +kernel
theorem dX6_numberOfLeaf_88 : decode cX6_numberOfLeaf 88 = .ok (.invokevirtual 79, 3) := by decide +kernel
theorem dX6_numberOfLeaf_91 : decode cX6_numberOfLeaf 91 = .ok (.ireturn, 1) := by decide +kernel
theorem dX6_numberOfLeaf_92 : decode cX6_numberOfLeaf 92 = .ok (.aload_n 0, 1) := by decide +kernel
theorem dX6_numberOfLeaf_93 : decode cX6_numberOfLeaf 93 = .ok (.getfield 21, 3) := by decide +kernel
theorem dX6_numberOfLeaf_96 : decode cX6_numberOfLeaf 96 = .ok (.getfield 96, 3) := by decide +kernel
theorem dX6_numberOfLeaf_99 : decode cX6_numberOfLeaf 99 = .ok (.iload_n 1, 1) := by decide +kernel
theorem dX6_numberOfLeaf_100 : decode cX6_numberOfLeaf 100 = .ok (.invokevirtual 79, 3) := by decide +kernel
theorem dX6_numberOfLeaf_103 : decode cX6_numberOfLeaf 103 = .ok (.ireturn, 1) := by decide +kernel
theorem dX6_numberOfLeaf_104 : decode cX6_numberOfLeaf 104 = .ok (.aload_n 0, 1) := by decide +kernel
theorem dX6_numberOfLeaf_105 : decode cX6_numberOfLeaf 105 = .ok (.getfield 35, 3) := by decide +kernel
theorem dX6_numberOfLeaf_108 : decode cX6_numberOfLeaf 108 = .ok (.iload_n 1, 1) := by decide +kernel
theorem dX6_numberOfLeaf_109 : decode cX6_numberOfLeaf 109 = .ok (.invokevirtual 228, 3) := by decide +kernel
theorem dX6_numberOfLeaf_112 : decode cX6_numberOfLeaf 112 = .ok (.ireturn, 1) := by decide +kernel
theorem dX6_numberOfLeaf_113 : decode cX6_numberOfLeaf 113 = .ok (.aload_n 0, 1) := by decide +kernel
theorem dX6_numberOfLeaf_114 : decode cX6_numberOfLeaf 114 = .ok (.getfield 35, 3) := by decide +kernel
theorem dX6_numberOfLeaf_117 : decode cX6_numberOfLeaf 117 = .ok (.iload_n 1, 1) := by decide +kernel
theorem dX6_numberOfLeaf_118 : decode cX6_numberOfLeaf 118 = .ok (.invokevirtual 222, 3) := by decide +kernel
theorem dX6_numberOfLeaf_121 : decode cX6_numberOfLeaf 121 = .ok (.ireturn, 1) := by decide +kernel
theorem dX6_numberOfLeaf_122 : decode cX6_numberOfLeaf 122 = .ok (.aload_n 0, 1) := by decide +kernel
theorem dX6_numberOfLeaf_123 : decode cX6_numberOfLeaf 123 = .ok (.getfield 35, 3) := by decide +kernel
theorem dX6_numberOfLeaf_126 : decode cX6_numberOfLeaf 126 = .ok (.iload_n 1, 1) := by decide +kernel
theorem dX6_numberOfLeaf_127 : decode cX6_numberOfLeaf 127 = .ok (.invokevirtual 231, 3) := by decide +kernel
theorem dX6_numberOfLeaf_130 : decode cX6_numberOfLeaf 130 = .ok (.ireturn, 1) := by decide +kernel
theorem dX6_numberOfChild_0 : decode cX6_numberOfChild 0 = .ok (.iload_n 2, 1) := by decide +kernel
theorem dX6_numberOfChild_1 : decode cX6_numberOfChild 1 = .ok (.tableswitch 126 0 6 #[43, 60, 72, 81, 90, 102, 114], 43) := by decide +kernel
theorem dX6_numberOfChild_44 : decode cX6_numberOfChild 44 = .ok (.aload_n 0, 1) := by decide +kernel
theorem dX6_numberOfChild_45 : decode cX6_numberOfChild 45 = .ok (.getfield 28, 3) := by decide +kernel
theorem dX6_numberOfChild_48 : decode cX6_numberOfChild 48 = .ok (.iload_n 1, 1) := by decide +kernel
theorem dX6_numberOfChild_49 : decode cX6_numberOfChild 49 = .ok (.invokevirtual 112, 3) := by decide +kernel
theorem dX6_numberOfChild_52 : decode cX6_numberOfChild 52 = .ok (.ifCond .eq 7, 3) := by decide +kernel
theorem dX6_numberOfChild_55 : decode cX6_numberOfChild 55 = .ok (.iconst 1, 1) := by decide +kernel
theorem dX6_numberOfChild_56 : decode cX6_numberOfChild 56 = .ok (.goto 4, 3) := by decide +kernel
theorem dX6_numberOfChild_59 : decode cX6_numberOfChild 59 = .ok (.iconst 0, 1) := by decide +kernel
theorem dX6_numberOfChild_60 : decode cX6_numberOfChild 60 = .ok (.ireturn, 1) := by decide +kernel
theorem dX6_numberOfChild_61 : decode cX6_numberOfChild 61 = .ok (.aload_n 0, 1) := by decide +kernel
theorem dX6_numberOfChild_62 : decode cX6_numberOfChild 62 = .ok (.getfield 28, 3) := by decide +kernel
theorem dX6_numberOfChild_65 : decode cX6_numberOfChild 65 = .ok (.getfield 115, 3) := by decide +kernel
theorem dX6_numberOfChild_68 : decode cX6_numberOfChild 68 = .ok (.iload_n 1, 1) := by decide +kernel
theorem dX6_numberOfChild_69 : decode cX6_numberOfChild 69 = .ok (.invokevirtual 79, 3) := by decide +kernel
theorem dX6_numberOfChild_72 : decode cX6_numberOfChild 72 = .ok (.ireturn, 1) := by decide +kernel
theorem dX6_numberOfChild_73 : decode cX6_numberOfChild 73 = .ok (.aload_n 0, 1) := by decide +kernel
theorem dX6_numberOfChild_74 : decode cX6_numberOfChild 74 = .ok (.getfield 35, 3) := by decide +kernel
theorem dX6_numberOfChild_77 : decode cX6_numberOfChild 77 = .ok (.iload_n 1, 1) := by decide +kernel
theorem dX6_numberOfChild_78 : decode cX6_numberOfChild 78 = .ok (.invokevirtual 118, 3) := by decide +kernel
theorem dX6_numberOfChild_81 : decode cX6_numberOfChild 81 = .ok (.ireturn, 1) := by decide +kernel
theorem dX6_numberOfChild_82 : decode cX6_numberOfChild 82 = .ok (.aload_n 0, 1) := by decide +kernel
theorem dX6_numberOfChild_83 : decode cX6_numberOfChild 83 = .ok (.getfield 35, 3) := by decide +kernel
theorem dX6_numberOfChild_86 : decode cX6_numberOfChild 86 = .ok (.iload_n 1, 1) := by decide +kernel
theorem dX6_numberOfChild_87 : decode cX6_numberOfChild 87 = .ok (.invokevirtual 234, 3) := by decide +kernel
theorem dX6_numberOfChild_90 : decode cX6_numberOfChild 90 = .ok (.ireturn, 1) := by decide +kernel
theorem dX6_numberOfChild_91 : decode cX6_numberOfChild 91 = .ok (.aload_n 0, 1) := by decide +kernel
theorem dX6_numberOfChild_92 : decode cX6_numberOfChild 92 = .ok (.getfield 28, 3) := by decide +kernel
theorem dX6_numberOfChild_95 : decode cX6_numberOfChild 95 = .ok (.getfield 75, 3) := by decide +kernel
theorem dX6_numberOfChild_98 : decode cX6_numberOfChild 98 = .ok (.iload_n 1, 1) := by decide +kernel
theorem dX6_numberOfChild_99 : decode cX6_numberOfChild 99 = .ok (.invokevirtual 79, 3) := by decide +kernel
theorem dX6_numberOfChild_102 : decode cX6_numberOfChild 102 = .ok (.ireturn, 1) := by decide +kernel
theorem dX6_numberOfChild_103 : decode cX6_numberOfChild 103 = .ok (.aload_n 0, 1) := by decide +kernel
theorem dX6_numberOfChild_104 : decode cX6_numberOfChild 104 = .ok (.getfield 28, 3) := by decide +kernel
theorem dX6_numberOfChild_107 : decode cX6_numberOfChild 107 = .ok (.getfield 159, 3) := by decide +kernel
theorem dX6_numberOfChild_110 : decode cX6_numberOfChild 110 = .ok (.iload_n 1, 1) := by decide +kernel
theorem dX6_numberOfChild_111 : decode cX6_numberOfChild 111 = .ok (.invokevirtual 79, 3) := by decide +kernel
theorem dX6_numberOfChild_114 : decode cX6_numberOfChild 114 = .ok (.ireturn, 1) := by decide +kernel
theorem dX6_numberOfChild_115 : decode cX6_numberOfChild 115 = .ok (.aload_n 0, 1) := by decide +kernel
theorem dX6_numberOfChild_116 : decode cX6_numberOfChild 116 = .ok (.getfield 28, 3) := by decide +kernel
theorem dX6_numberOfChild_119 : decode cX6_numberOfChild 119 = .ok (.getfield 196, 3) := by decide +kernel
theorem dX6_numberOfChild_122 : decode cX6_numberOfChild 122 = .ok (.iload_n 1, 1) := by decide +kernel
theorem dX6_numberOfChild_123 : decode cX6_numberOfChild 123 = .ok (.invokevirtual 79, 3) := by decide +kernel
theorem dX6_numberOfChild_126 : decode cX6_numberOfChild 126 = .ok (.ireturn, 1) := by decide +kernel
theorem dX6_numberOfChild_127 : decode cX6_numberOfChild 127 = .ok (.aload_n 0, 1) := by decide +kernel
theorem dX6_numberOfChild_128 : decode cX6_numberOfChild 128 = .ok (.getfield 28, 3) := by decide +kernel
theorem dX6_numberOfChild_131 : decode cX6_numberOfChild 131 = .ok (.getfield 199, 3) := by decide +kernel
theorem dX6_numberOfChild_134 : decode cX6_numberOfChild 134 = .ok (.iload_n 1, 1) := by decide +kernel
theorem dX6_numberOfChild_135 : decode cX6_numberOfChild 135 = .ok (.invokevirtual 79, 3) := by decide +kernel
theorem dX6_numberOfChild_138 : decode cX6_numberOfChild 138 = .ok (.ireturn, 1) := by decide +kernel
theorem dX6_numberOfAll_0 : decode cX6_numberOfAll 0 = .ok (.iload_n 1, 1) := by decide +kernel
theorem dX6_numberOfAll_1 : decode cX6_numberOfAll 1 = .ok (.tableswitch 171 0 13 #[71, 79, 87, 95, 100, 108, 117, 126, 135, 143, 151, 156, 161, 166], 71) := by decide +kernel
theorem dX6_numberOfAll_72 : decode cX6_numberOfAll 72 = .ok (.aload_n 0, 1) := by decide +kernel
theorem dX6_numberOfAll_73 : decode cX6_numberOfAll 73 = .ok (.getfield 28, 3) := by decide +kernel
theorem dX6_numberOfAll_76 : decode cX6_numberOfAll 76 = .ok (.invokevirtual 237, 3) := by decide +kernel
theorem dX6_numberOfAll_79 : decode cX6_numberOfAll 79 = .ok (.ireturn, 1) := by decide +kernel
theorem dX6_numberOfAll_80 : decode cX6_numberOfAll 80 = .ok (.aload_n 0, 1) := by decide +kernel
theorem dX6_numberOfAll_81 : decode cX6_numberOfAll 81 = .ok (.getfield 28, 3) := by decide +kernel
theorem dX6_numberOfAll_84 : decode cX6_numberOfAll 84 = .ok (.invokevirtual 201, 3) := by decide +kernel
theorem dX6_numberOfAll_87 : decode cX6_numberOfAll 87 = .ok (.ireturn, 1) := by decide +kernel
theorem dX6_numberOfAll_88 : decode cX6_numberOfAll 88 = .ok (.aload_n 0, 1) := by decide +kernel
theorem dX6_numberOfAll_89 : decode cX6_numberOfAll 89 = .ok (.getfield 28, 3) := by decide +kernel
theorem dX6_numberOfAll_92 : decode cX6_numberOfAll 92 = .ok (.invokevirtual 240, 3) := by decide +kernel
theorem dX6_numberOfAll_95 : decode cX6_numberOfAll 95 = .ok (.ireturn, 1) := by decide +kernel
theorem dX6_numberOfAll_96 : decode cX6_numberOfAll 96 = .ok (.aload_n 0, 1) := by decide +kernel
theorem dX6_numberOfAll_97 : decode cX6_numberOfAll 97 = .ok (.getfield 39, 3) := by decide +kernel
theorem dX6_numberOfAll_100 : decode cX6_numberOfAll 100 = .ok (.ireturn, 1) := by decide +kernel
theorem dX6_numberOfAll_101 : decode cX6_numberOfAll 101 = .ok (.aload_n 0, 1) := by decide +kernel
theorem dX6_numberOfAll_102 : decode cX6_numberOfAll 102 = .ok (.getfield 21, 3) := by decide +kernel
theorem dX6_numberOfAll_105 : decode cX6_numberOfAll 105 = .ok (.getfield 127, 3) := by decide +kernel
theorem dX6_numberOfAll_108 : decode cX6_numberOfAll 108 = .ok (.ireturn, 1) := by decide +kernel
theorem dX6_numberOfAll_109 : decode cX6_numberOfAll 109 = .ok (.aload_n 0, 1) := by decide +kernel
theorem dX6_numberOfAll_110 : decode cX6_numberOfAll 110 = .ok (.getfield 21, 3) := by decide +kernel
theorem dX6_numberOfAll_113 : decode cX6_numberOfAll 113 = .ok (.iconst 0, 1) := by decide +kernel
theorem dX6_numberOfAll_114 : decode cX6_numberOfAll 114 = .ok (.invokevirtual 168, 3) := by decide +kernel
theorem dX6_numberOfAll_117 : decode cX6_numberOfAll 117 = .ok (.ireturn, 1) := by decide +kernel
theorem dX6_numberOfAll_118 : decode cX6_numberOfAll 118 = .ok (.aload_n 0, 1) := by decide +kernel
theorem dX6_numberOfAll_119 : decode cX6_numberOfAll 119 = .ok (.getfield 21, 3) := by decide +kernel
theorem dX6_numberOfAll_122 : decode cX6_numberOfAll 122 = .ok (.iconst 1, 1) := by decide +kernel
theorem dX6_numberOfAll_123 : decode cX6_numberOfAll 123 = .ok (.invokevirtual 168, 3) := by decide +kernel
theorem dX6_numberOfAll_126 : decode cX6_numberOfAll 126 = .ok (.ireturn, 1) := by decide +kernel
theorem dX6_numberOfAll_127 : decode cX6_numberOfAll 127 = .ok (.aload_n 0, 1) := by decide +kernel
theorem dX6_numberOfAll_128 : decode cX6_numberOfAll 128 = .ok (.getfield 21, 3) := by decide +kernel
theorem dX6_numberOfAll_131 : decode cX6_numberOfAll 131 = .ok (.iconst 2, 1) := by decide +kernel
theorem dX6_numberOfAll_132 : decode cX6_numberOfAll 132 = .ok (.invokevirtual 168, 3) := by decide +kernel
theorem dX6_numberOfAll_135 : decode cX6_numberOfAll 135 = .ok (.ireturn, 1) := by decide +kernel
theorem dX6_numberOfAll_136 : decode cX6_numberOfAll 136 = .ok (.aload_n 0, 1) := by decide +kernel
theorem dX6_numberOfAll_137 : decode cX6_numberOfAll 137 = .ok (.getfield 35, 3) := by decide +kernel
theorem dX6_numberOfAll_140 : decode cX6_numberOfAll 140 = .ok (.invokevirtual 243, 3) := by decide +kernel
theorem dX6_numberOfAll_143 : decode cX6_numberOfAll 143 = .ok (.ireturn, 1) := by decide +kernel
theorem dX6_numberOfAll_144 : decode cX6_numberOfAll 144 = .ok (.aload_n 0, 1) := by decide +kernel
theorem dX6_numberOfAll_145 : decode cX6_numberOfAll 145 = .ok (.getfield 35, 3) := by decide +kernel
theorem dX6_numberOfAll_148 : decode cX6_numberOfAll 148 = .ok (.invokevirtual 246, 3) := by decide +kernel
theorem dX6_numberOfAll_151 : decode cX6_numberOfAll 151 = .ok (.ireturn, 1) := by decide +kernel
theorem dX6_numberOfAll_152 : decode cX6_numberOfAll 152 = .ok (.aload_n 0, 1) := by decide +kernel
theorem dX6_numberOfAll_153 : decode cX6_numberOfAll 153 = .ok (.getfield 42, 3) := by decide +kernel
theorem dX6_numberOfAll_156 : decode cX6_numberOfAll 156 = .ok (.ireturn, 1) := by decide +kernel
theorem dX6_numberOfAll_157 : decode cX6_numberOfAll 157 = .ok (.aload_n 0, 1) := by decide +kernel
theorem dX6_numberOfAll_158 : decode cX6_numberOfAll 158 = .ok (.getfield 45, 3) := by decide +kernel
theorem dX6_numberOfAll_161 : decode cX6_numberOfAll 161 = .ok (.ireturn, 1) := by decide +kernel
theorem dX6_numberOfAll_162 : decode cX6_numberOfAll 162 = .ok (.aload_n 0, 1) := by decide +kernel
theorem dX6_numberOfAll_163 : decode cX6_numberOfAll 163 = .ok (.getfield 48, 3) := by decide +kernel
theorem dX6_numberOfAll_166 : decode cX6_numberOfAll 166 = .ok (.ireturn, 1) := by decide +kernel
theorem dX6_numberOfAll_167 : decode cX6_numberOfAll 167 = .ok (.aload_n 0, 1) := by decide +kernel
theorem dX6_numberOfAll_168 : decode cX6_numberOfAll 168 = .ok (.getfield 51, 3) := by decide +kernel
theorem dX6_numberOfAll_171 : decode cX6_numberOfAll 171 = .ok (.ireturn, 1) := by decide +kernel
theorem dX6_numberOfAll_172 : decode cX6_numberOfAll 172 = .ok (.aload_n 0, 1) := by decide +kernel
theorem dX6_numberOfAll_173 : decode cX6_numberOfAll 173 = .ok (.getfield 54, 3) := by decide +kernel
theorem dX6_numberOfAll_176 : decode cX6_numberOfAll 176 = .ok (.ireturn, 1) := by decide +kernel
