theorem dX7_init_0 : decode cX7_init 0 = .ok (.aload_n 0, 1) := by decide +kernel
theorem dX7_init_1 : decode cX7_init 1 = .ok (.invokespecial 1, 3) := by decide +kernel
theorem dX7_init_4 : decode cX7_init 4 = .ok (.aload_n 0, 1) := by decide +kernel
theorem dX7_init_5 : decode cX7_init 5 = .ok (.new 7, 3) := by decide +kernel
theorem dX7_init_8 : decode cX7_init 8 = .ok (.dup, 1) := by decide +kernel
theorem dX7_init_9 : decode cX7_init 9 = .ok (.invokespecial 9, 3) := by decide +kernel
theorem dX7_init_12 : decode cX7_init 12 = .ok (.putfield 10, 3) := by decide +kernel
theorem dX7_init_15 : decode cX7_init 15 = .ok (.aload_n 0, 1) := by decide +kernel
theorem dX7_init_16 : decode cX7_init 16 = .ok (.new 7, 3) := by decide +kernel
theorem dX7_init_19 : decode cX7_init 19 = .ok (.dup, 1) := by decide +kernel
theorem dX7_init_20 : decode cX7_init 20 = .ok (.invokespecial 9, 3) := by decide +kernel
theorem dX7_init_23 : decode cX7_init 23 = .ok (.putfield 16, 3) := by decide +kernel
theorem dX7_init_26 : decode cX7_init 26 = .ok (.aload_n 0, 1) := by decide +kernel
theorem dX7_init_27 : decode cX7_init 27 = .ok (.new 19, 3) := by decide +kernel
theorem dX7_init_30 : decode cX7_init 30 = .ok (.dup, 1) := by decide +kernel
theorem dX7_init_31 : decode cX7_init 31 = .ok (.invokespecial 21, 3) := by decide +kernel
theorem dX7_init_34 : decode cX7_init 34 = .ok (.putfield 22, 3) := by decide +kernel
theorem dX7_init_37 : decode cX7_init 37 = .ok (.aload_n 0, 1) := by decide +kernel
theorem dX7_init_38 : decode cX7_init 38 = .ok (.new 26, 3) := by decide +kernel
theorem dX7_init_41 : decode cX7_init 41 = .ok (.dup, 1) := by decide +kernel
theorem dX7_init_42 : decode cX7_init 42 = .ok (.invokespecial 28, 3) := by decide +kernel
theorem dX7_init_45 : decode cX7_init 45 = .ok (.putfield 29, 3) := by decide +kernel
theorem dX7_init_48 : decode cX7_init 48 = .ok (.return_, 1) := by decide +kernel
theorem dX7_come_0 : decode cX7_come 0 = .ok (.aload_n 0, 1) := by decide +kernel
theorem dX7_come_1 : decode cX7_come 1 = .ok (.getfield 10, 3) := by decide +kernel
theorem dX7_come_4 : decode cX7_come 4 = .ok (.getfield 33, 3) := by decide +kernel
theorem dX7_come_7 : decode cX7_come 7 = .ok (.invokevirtual 37, 3) := by decide +kernel
theorem dX7_come_10 : decode cX7_come 10 = .ok (.iconst (-1), 1) := by decide +kernel
theorem dX7_come_11 : decode cX7_come 11 = .ok (.if_icmp .ne 13, 3) := by decide +kernel
theorem dX7_come_14 : decode cX7_come 14 = .ok (.new 43, 3) := by decide +kernel
theorem dX7_come_17 : decode cX7_come 17 = .ok (.dup, 1) := by decide +kernel
theorem dX7_come_18 : decode cX7_come 18 = .ok (.ldc 45, 2) := by decide +kernel
theorem dX7_come_20 : decode cX7_come 20 = .ok (.invokespecial 47, 3) := by decide +kernel
theorem dX7_come_23 : decode cX7_come 23 = .ok (.athrow, 1) := by decide +kernel
theorem dX7_come_24 : decode cX7_come 24 = .ok (.aload_n 0, 1) := by decide +kernel
theorem dX7_come_25 : decode cX7_come 25 = .ok (.getfield 22, 3) := by decide +kernel
theorem dX7_come_28 : decode cX7_come 28 = .ok (.aload_n 0, 1) := by decide +kernel
theorem dX7_come_29 : decode cX7_come 29 = .ok (.getfield 10, 3) := by decide +kernel
theorem dX7_come_32 : decode cX7_come 32 = .ok (.invokevirtual 50, 3) := by decide +kernel
theorem dX7_come_35 : decode cX7_come 35 = .ok (.aload_n 0, 1) := by decide +kernel
theorem dX7_come_36 : decode cX7_come 36 = .ok (.getfield 10, 3) := by decide +kernel
theorem dX7_come_39 : decode cX7_come 39 = .ok (.invokevirtual 54, 3) := by decide +kernel
theorem dX7_come_42 : decode cX7_come 42 = .ok (.ireturn, 1) := by decide +kernel
theorem dX7_leave_0 : decode cX7_leave 0 = .ok (.aload_n 0, 1) := by decide +kernel
theorem dX7_leave_1 : decode cX7_leave 1 = .ok (.iload_n 1, 1) := by decide +kernel
theorem dX7_leave_2 : decode cX7_leave 2 = .ok (.invokevirtual 57, 3) := by decide +kernel
theorem dX7_leave_5 : decode cX7_leave 5 = .ok (.aload_n 0, 1) := by decide +kernel
theorem dX7_leave_6 : decode cX7_leave 6 = .ok (.getfield 10, 3) := by decide +kernel
theorem dX7_leave_9 : decode cX7_leave 9 = .ok (.getfield 33, 3) := by decide +kernel
theorem dX7_leave_12 : decode cX7_leave 12 = .ok (.invokevirtual 61, 3) := by decide +kernel
theorem dX7_leave_15 : decode cX7_leave 15 = .ok (.iconst 1, 1) := by decide +kernel
theorem dX7_leave_16 : decode cX7_leave 16 = .ok (.if_icmp .gt 13, 3) := by decide +kernel
theorem dX7_leave_19 : decode cX7_leave 19 = .ok (.new 43, 3) := by decide +kernel
theorem dX7_leave_22 : decode cX7_leave 22 = .ok (.dup, 1) := by decide +kernel
theorem dX7_leave_23 : decode cX7_leave 23 = .ok (.ldc 64, 2) := by decide +kernel
theorem dX7_leave_25 : decode cX7_leave 25 = .ok (.invokespecial 47, 3) := by decide +kernel
theorem dX7_leave_28 : decode cX7_leave 28 = .ok (.athrow, 1) := by decide +kernel
theorem dX7_leave_29 : decode cX7_leave 29 = .ok (.aload_n 0, 1) := by decide +kernel
theorem dX7_leave_30 : decode cX7_leave 30 = .ok (.getfield 22, 3) := by decide +kernel
theorem dX7_leave_33 : decode cX7_leave 33 = .ok (.aload_n 0, 1) := by decide +kernel
theorem dX7_leave_34 : decode cX7_leave 34 = .ok (.getfield 10, 3) := by decide +kernel
theorem dX7_leave_37 : decode cX7_leave 37 = .ok (.invokevirtual 50, 3) := by decide +kernel
theorem dX7_leave_40 : decode cX7_leave 40 = .ok (.aload_n 0, 1) := by decide +kernel
theorem dX7_leave_41 : decode cX7_leave 41 = .ok (.getfield 10, 3) := by decide +kernel
theorem dX7_leave_44 : decode cX7_leave 44 = .ok (.iload_n 1, 1) := by decide +kernel
theorem dX7_leave_45 : decode cX7_leave 45 = .ok (.invokevirtual 66, 3) := by decide +kernel
theorem dX7_leave_48 : decode cX7_leave 48 = .ok (.ireturn, 1) := by decide +kernel
theorem dX7_enter_0 : decode cX7_enter 0 = .ok (.aload_n 0, 1) := by decide +kernel
theorem dX7_enter_1 : decode cX7_enter 1 = .ok (.iload_n 1, 1) := by decide +kernel
theorem dX7_enter_2 : decode cX7_enter 2 = .ok (.invokevirtual 57, 3) := by decide +kernel
theorem dX7_enter_5 : decode cX7_enter 5 = .ok (.aload_n 0, 1) := by decide +kernel
theorem dX7_enter_6 : decode cX7_enter 6 = .ok (.getfield 10, 3) := by decide +kernel
theorem dX7_enter_9 : decode cX7_enter 9 = .ok (.iload_n 1, 1) := by decide +kernel
theorem dX7_enter_10 : decode cX7_enter 10 = .ok (.invokevirtual 70, 3) := by decide +kernel
theorem dX7_enter_13 : decode cX7_enter 13 = .ok (.ifCond .ne 13, 3) := by decide +kernel
theorem dX7_enter_16 : decode cX7_enter 16 = .ok (.new 43, 3) := by decide +kernel
theorem dX7_enter_19 : decode cX7_enter 19 = .ok (.dup, 1) := by decide +kernel
theorem dX7_enter_20 : decode cX7_enter 20 = .ok (.ldc 74, 2) := by decide +kernel
theorem dX7_enter_22 : decode cX7_enter 22 = .ok (.invokespecial 47, 3) := by decide +kernel
theorem dX7_enter_25 : decode cX7_enter 25 = .ok (.athrow, 1) := by decide +kernel
theorem dX7_enter_26 : decode cX7_enter 26 = .ok (.aload_n 0, 1) := by decide +kernel
theorem dX7_enter_27 : decode cX7_enter 27 = .ok (.getfield 22, 3) := by decide +kernel
theorem dX7_enter_30 : decode cX7_enter 30 = .ok (.aload_n 0, 1) := by decide +kernel
theorem dX7_enter_31 : decode cX7_enter 31 = .ok (.getfield 10, 3) := by decide +kernel
theorem dX7_enter_34 : decode cX7_enter 34 = .ok (.invokevirtual 50, 3) := by decide +kernel
theorem dX7_enter_37 : decode cX7_enter 37 = .ok (.aload_n 0, 1) := by decide +kernel
theorem dX7_enter_38 : decode cX7_enter 38 = .ok (.getfield 10, 3) := by decide +kernel
theorem dX7_enter_41 : decode cX7_enter 41 = .ok (.iload_n 1, 1) := by decide +kernel
theorem dX7_enter_42 : decode cX7_enter 42 = .ok (.invokevirtual 76, 3) := by decide +kernel
theorem dX7_enter_45 : decode cX7_enter 45 = .ok (.ireturn, 1) := by decide +kernel
theorem dX7_rest_0 : decode cX7_rest 0 = .ok (.aload_n 0, 1) := by decide +kernel
theorem dX7_rest_1 : decode cX7_rest 1 = .ok (.iload_n 1, 1) := by decide +kernel
theorem dX7_rest_2 : decode cX7_rest 2 = .ok (.invokevirtual 57, 3) := by decide +kernel
theorem dX7_rest_5 : decode cX7_rest 5 = .ok (.aload_n 0, 1) := by decide +kernel
theorem dX7_rest_6 : decode cX7_rest 6 = .ok (.getfield 10, 3) := by decide +kernel
theorem dX7_rest_9 : decode cX7_rest 9 = .ok (.iload_n 1, 1) := by decide +kernel
theorem dX7_rest_10 : decode cX7_rest 10 = .ok (.invokevirtual 79, 3) := by decide +kernel
theorem dX7_rest_13 : decode cX7_rest 13 = .ok (.ifCond .ne 13, 3) := by decide +kernel
theorem dX7_rest_16 : decode cX7_rest 16 = .ok (.new 43, 3) := by decide +kernel
theorem dX7_rest_19 : decode cX7_rest 19 = .ok (.dup, 1) := by decide +kernel
theorem dX7_rest_20 : decode cX7_rest 20 = .ok (.ldc 82, 2) := by decide +kernel
theorem dX7_rest_22 : decode cX7_rest 22 = .ok (.invokespecial 47, 3) := by decide +kernel
theorem dX7_rest_25 : decode cX7_rest 25 = .ok (.athrow, 1) := by decide +kernel
theorem dX7_rest_26 : decode cX7_rest 26 = .ok (.aload_n 0, 1) := by decide +kernel
theorem dX7_rest_27 : decode cX7_rest 27 = .ok (.getfield 22, 3) := by decide +kernel
theorem dX7_rest_30 : decode cX7_rest 30 = .ok (.aload_n 0, 1) := by decide +kernel
theorem dX7_rest_31 : decode cX7_rest 31 = .ok (.getfield 10, 3) := by decide +kernel
theorem dX7_rest_34 : decode cX7_rest 34 = .ok (.invokevirtual 50, 3) := by decide +kernel
theorem dX7_rest_37 : decode cX7_rest 37 = .ok (.aload_n 0, 1) := by decide +kernel
theorem dX7_rest_38 : decode cX7_rest 38 = .ok (.getfield 10, 3) := by decide +kernel
theorem dX7_rest_41 : decode cX7_rest 41 = .ok (.iload_n 1, 1) := by decide +kernel
theorem dX7_rest_42 : decode cX7_rest 42 = .ok (.invokevirtual 84, 3) := by decide +kernel
theorem dX7_rest_45 : decode cX7_rest 45 = .ok (.ireturn, 1) := by decide +kernel
theorem dX7_ring_0 : decode cX7_ring 0 = .ok (.aload_n 0, 1) := by decide +kernel
theorem dX7_ring_1 : decode cX7_ring 1 = .ok (.getfield 10, 3) := by decide +kernel
theorem dX7_ring_4 : decode cX7_ring 4 = .ok (.invokevirtual 87, 3) := by decide +kernel
theorem dX7_ring_7 : decode cX7_ring 7 = .ok (.ifCond .ne 13, 3) := by decide +kernel
theorem dX7_ring_10 : decode cX7_ring 10 = .ok (.new 43, 3) := by decide +kernel
theorem dX7_ring_13 : decode cX7_ring 13 = .ok (.dup, 1) := by decide +kernel
theorem dX7_ring_14 : decode cX7_ring 14 = .ok (.ldc 91, 2) := by decide +kernel
theorem dX7_ring_16 : decode cX7_ring 16 = .ok (.invokespecial 47, 3) := by decide +kernel
theorem dX7_ring_19 : decode cX7_ring 19 = .ok (.athrow, 1) := by decide +kernel
theorem dX7_ring_20 : decode cX7_ring 20 = .ok (.aload_n 0, 1) := by decide +kernel
theorem dX7_ring_21 : decode cX7_ring 21 = .ok (.getfield 22, 3) := by decide +kernel
theorem dX7_ring_24 : decode cX7_ring 24 = .ok (.aload_n 0, 1) := by decide +kernel
theorem dX7_ring_25 : decode cX7_ring 25 = .ok (.getfield 10, 3) := by decide +kernel
theorem dX7_ring_28 : decode cX7_ring 28 = .ok (.invokevirtual 50, 3) := by decide +kernel
theorem dX7_ring_31 : decode cX7_ring 31 = .ok (.aload_n 0, 1) := by decide +kernel
theorem dX7_ring_32 : decode cX7_ring 32 = .ok (.getfield 10, 3) := by decide +kernel
theorem dX7_ring_35 : decode cX7_ring 35 = .ok (.invokevirtual 93, 3) := by decide +kernel
theorem dX7_ring_38 : decode cX7_ring 38 = .ok (.ireturn, 1) := by decide +kernel
theorem dX7_grow_0 : decode cX7_grow 0 = .ok (.iload_n 1, 1) := by decide +kernel
theorem dX7_grow_1 : decode cX7_grow 1 = .ok (.invokestatic 96, 3) := by decide +kernel
theorem dX7_grow_4 : decode cX7_grow 4 = .ok (.iload_n 2, 1) := by decide +kernel
theorem dX7_grow_5 : decode cX7_grow 5 = .ok (.invokestatic 99, 3) := by decide +kernel
theorem dX7_grow_8 : decode cX7_grow 8 = .ok (.aload_n 0, 1) := by decide +kernel
theorem dX7_grow_9 : decode cX7_grow 9 = .ok (.getfield 10, 3) := by decide +kernel
theorem dX7_grow_12 : decode cX7_grow 12 = .ok (.iload_n 1, 1) := by decide +kernel
theorem dX7_grow_13 : decode cX7_grow 13 = .ok (.invokevirtual 102, 3) := by decide +kernel
theorem dX7_grow_16 : decode cX7_grow 16 = .ok (.ifCond .ne 13, 3) := by decide +kernel
theorem dX7_grow_19 : decode cX7_grow 19 = .ok (.new 43, 3) := by decide +kernel
theorem dX7_grow_22 : decode cX7_grow 22 = .ok (.dup, 1) := by decide +kernel
theorem dX7_grow_23 : decode cX7_grow 23 = .ok (.ldc 105, 2) := by decide +kernel
theorem dX7_grow_25 : decode cX7_grow 25 = .ok (.invokespecial 47, 3) := by decide +kernel
theorem dX7_grow_28 : decode cX7_grow 28 = .ok (.athrow, 1) := by decide +kernel
theorem dX7_grow_29 : decode cX7_grow 29 = .ok (.aload_n 0, 1) := by decide +kernel
theorem dX7_grow_30 : decode cX7_grow 30 = .ok (.getfield 22, 3) := by decide +kernel
theorem dX7_grow_33 : decode cX7_grow 33 = .ok (.aload_n 0, 1) := by decide +kernel
theorem dX7_grow_34 : decode cX7_grow 34 = .ok (.getfield 10, 3) := by decide +kernel
theorem dX7_grow_37 : decode cX7_grow 37 = .ok (.invokevirtual 50, 3) := by decide +kernel
theorem dX7_grow_40 : decode cX7_grow 40 = .ok (.aload_n 0, 1) := by decide +kernel
theorem dX7_grow_41 : decode cX7_grow 41 = .ok (.getfield 10, 3) := by decide +kernel
theorem dX7_grow_44 : decode cX7_grow 44 = .ok (.getfield 107, 3) := by decide +kernel
theorem dX7_grow_47 : decode cX7_grow 47 = .ok (.iload_n 1, 1) := by decide +kernel
theorem dX7_grow_48 : decode cX7_grow 48 = .ok (.iload_n 2, 1) := by decide +kernel
theorem dX7_grow_49 : decode cX7_grow 49 = .ok (.invokevirtual 111, 3) := by decide +kernel
theorem dX7_grow_52 : decode cX7_grow 52 = .ok (.ireturn, 1) := by decide +kernel
theorem dX7_note_0 : decode cX7_note 0 = .ok (.aload_n 0, 1) := by decide +kernel
theorem dX7_note_1 : decode cX7_note 1 = .ok (.iload_n 1, 1) := by decide +kernel
theorem dX7_note_2 : decode cX7_note 2 = .ok (.iload_n 2, 1) := by decide +kernel
theorem dX7_note_3 : decode cX7_note 3 = .ok (.invokevirtual 117, 3) := by decide +kernel
theorem dX7_note_6 : decode cX7_note 6 = .ok (.iload_n 3, 1) := by decide +kernel
theorem dX7_note_7 : decode cX7_note 7 = .ok (.invokestatic 96, 3) := by decide +kernel
theorem dX7_note_10 : decode cX7_note 10 = .ok (.aload_n 0, 1) := by decide +kernel
theorem dX7_note_11 : decode cX7_note 11 = .ok (.getfield 10, 3) := by decide +kernel
theorem dX7_note_14 : decode cX7_note 14 = .ok (.iload_n 1, 1) := by decide +kernel
theorem dX7_note_15 : decode cX7_note 15 = .ok (.iload_n 2, 1) := by decide +kernel
theorem dX7_note_16 : decode cX7_note 16 = .ok (.iload_n 3, 1) := by decide +kernel
theorem dX7_note_17 : decode cX7_note 17 = .ok (.invokevirtual 121, 3) := by decide +kernel
theorem dX7_note_20 : decode cX7_note 20 = .ok (.ifCond .ne 13, 3) := by decide +kernel
theorem dX7_note_23 : decode cX7_note 23 = .ok (.new 43, 3) := by decide +kernel
theorem dX7_note_26 : decode cX7_note 26 = .ok (.dup, 1) := by decide +kernel
theorem dX7_note_27 : decode cX7_note 27 = .ok (.ldc 125, 2) := by decide +kernel
theorem dX7_note_29 : decode cX7_note 29 = .ok (.invokespecial 47, 3) := by decide +kernel
theorem dX7_note_32 : decode cX7_note 32 = .ok (.athrow, 1) := by decide +kernel
theorem dX7_note_33 : decode cX7_note 33 = .ok (.aload_n 0, 1) := by decide +kernel
theorem dX7_note_34 : decode cX7_note 34 = .ok (.getfield 22, 3) := by decide +kernel
theorem dX7_note_37 : decode cX7_note 37 = .ok (.aload_n 0, 1) := by decide +kernel
theorem dX7_note_38 : decode cX7_note 38 = .ok (.getfield 10, 3) := by decide +kernel
theorem dX7_note_41 : decode cX7_note 41 = .ok (.invokevirtual 50, 3) := by decide +kernel
theorem dX7_note_44 : decode cX7_note 44 = .ok (.aload_n 0, 1) := by decide +kernel
theorem dX7_note_45 : decode cX7_note 45 = .ok (.getfield 10, 3) := by decide +kernel
theorem dX7_note_48 : decode cX7_note 48 = .ok (.iload_n 1, 1) := by decide +kernel
theorem dX7_note_49 : decode cX7_note 49 = .ok (.iload_n 2, 1) := by decide +kernel
theorem dX7_note_50 : decode cX7_note 50 = .ok (.iload_n 3, 1) := by decide +kernel
theorem dX7_note_51 : decode cX7_note 51 = .ok (.invokevirtual 127, 3) := by decide +kernel
theorem dX7_note_54 : decode cX7_note 54 = .ok (.ireturn, 1) := by decide +kernel
theorem dX7_pin_0 : decode cX7_pin 0 = .ok (.aload_n 0, 1) := by decide +kernel
theorem dX7_pin_1 : decode cX7_pin 1 = .ok (.iload_n 1, 1) := by decide +kernel
theorem dX7_pin_2 : decode cX7_pin 2 = .ok (.iload_n 2, 1) := by decide +kernel
theorem dX7_pin_3 : decode cX7_pin 3 = .ok (.invokevirtual 117, 3) := by decide +kernel
theorem dX7_pin_6 : decode cX7_pin 6 = .ok (.aload_n 0, 1) := by decide +kernel
theorem dX7_pin_7 : decode cX7_pin 7 = .ok (.getfield 10, 3) := by decide +kernel
theorem dX7_pin_10 : decode cX7_pin 10 = .ok (.iload_n 1, 1) := by decide +kernel
theorem dX7_pin_11 : decode cX7_pin 11 = .ok (.iload_n 2, 1) := by decide +kernel
theorem dX7_pin_12 : decode cX7_pin 12 = .ok (.invokevirtual 131, 3) := by decide +kernel
theorem dX7_pin_15 : decode cX7_pin 15 = .ok (.ifCond .ne 13, 3) := by decide +kernel
theorem dX7_pin_18 : decode cX7_pin 18 = .ok (.new 43, 3) := by decide +kernel
theorem dX7_pin_21 : decode cX7_pin 21 = .ok (.dup, 1) := by decide +kernel
theorem dX7_pin_22 : decode cX7_pin 22 = .ok (.ldc 135, 2) := by decide +kernel
theorem dX7_pin_24 : decode cX7_pin 24 = .ok (.invokespecial 47, 3) := by decide +kernel
theorem dX7_pin_27 : decode cX7_pin 27 = .ok (.athrow, 1) := by decide +kernel
theorem dX7_pin_28 : decode cX7_pin 28 = .ok (.aload_n 0, 1) := by decide +kernel
theorem dX7_pin_29 : decode cX7_pin 29 = .ok (.getfield 22, 3) := by decide +kernel
theorem dX7_pin_32 : decode cX7_pin 32 = .ok (.aload_n 0, 1) := by decide +kernel
theorem dX7_pin_33 : decode cX7_pin 33 = .ok (.getfield 10, 3) := by decide +kernel
theorem dX7_pin_36 : decode cX7_pin 36 = .ok (.invokevirtual 50, 3) := by decide +kernel
theorem dX7_pin_39 : decode cX7_pin 39 = .ok (.aload_n 0, 1) := by decide +kernel
theorem dX7_pin_40 : decode cX7_pin 40 = .ok (.getfield 10, 3) := by decide +kernel
theorem dX7_pin_43 : decode cX7_pin 43 = .ok (.iload_n 1, 1) := by decide +kernel
theorem dX7_pin_44 : decode cX7_pin 44 = .ok (.iload_n 2, 1) := by decide +kernel
theorem dX7_pin_45 : decode cX7_pin 45 = .ok (.invokevirtual 137, 3) := by decide +kernel
theorem dX7_pin_48 : decode cX7_pin 48 = .ok (.ireturn, 1) := by decide +kernel
theorem dX7_loosen_0 : decode cX7_loosen 0 = .ok (.aload_n 0, 1) := by decide +kernel
theorem dX7_loosen_1 : decode cX7_loosen 1 = .ok (.iload_n 1, 1) := by decide +kernel
theorem dX7_loosen_2 : decode cX7_loosen 2 = .ok (.iload_n 2, 1) := by decide +kernel
theorem dX7_loosen_3 : decode cX7_loosen 3 = .ok (.invokevirtual 117, 3) := by decide +kernel
theorem dX7_loosen_6 : decode cX7_loosen 6 = .ok (.aload_n 0, 1) := by decide +kernel
theorem dX7_loosen_7 : decode cX7_loosen 7 = .ok (.getfield 10, 3) := by decide +kernel
theorem dX7_loosen_10 : decode cX7_loosen 10 = .ok (.iload_n 1, 1) := by decide +kernel
theorem dX7_loosen_11 : decode cX7_loosen 11 = .ok (.iload_n 2, 1) := by decide +kernel
theorem dX7_loosen_12 : decode cX7_loosen 12 = .ok (.invokevirtual 140, 3) := by decide +kernel
theorem dX7_loosen_15 : decode cX7_loosen 15 = .ok (.ifCond .ne 13, 3) := by decide +kernel
theorem dX7_loosen_18 : decode cX7_loosen 18 = .ok (.new 43, 3) := by decide +kernel
theorem dX7_loosen_21 : decode cX7_loosen 21 = .ok (.dup, 1) := by decide +kernel
theorem dX7_loosen_22 : decode cX7_loosen 22 = .ok (.ldc 143, 2) := by decide +kernel
theorem dX7_loosen_24 : decode cX7_loosen 24 = .ok (.invokespecial 47, 3) := by decide +kernel
theorem dX7_loosen_27 : decode cX7_loosen 27 = .ok (.athrow, 1) := by decide +kernel
theorem dX7_loosen_28 : decode cX7_loosen 28 = .ok (.aload_n 0, 1) := by decide +kernel
theorem dX7_loosen_29 : decode cX7_loosen 29 = .ok (.getfield 22, 3) := by decide +kernel
theorem dX7_loosen_32 : decode cX7_loosen 32 = .ok (.aload_n 0, 1) := by decide +kernel
theorem dX7_loosen_33 : decode cX7_loosen 33 = .ok (.getfield 10, 3) := by decide +kernel
theorem dX7_loosen_36 : decode cX7_loosen 36 = .ok (.invokevirtual 50, 3) := by decide +kernel
theorem dX7_loosen_39 : decode cX7_loosen 39 = .ok (.aload_n 0, 1) := by decide +kernel
theorem dX7_loosen_40 : decode cX7_loosen 40 = .ok (.getfield 10, 3) := by decide +kernel
theorem dX7_loosen_43 : decode cX7_loosen 43 = .ok (.iload_n 1, 1) := by decide +kernel
theorem dX7_loosen_44 : decode cX7_loosen 44 = .ok (.iload_n 2, 1) := by decide +kernel
theorem dX7_loosen_45 : decode cX7_loosen 45 = .ok (.invokevirtual 145, 3) := by decide +kernel
theorem dX7_loosen_48 : decode cX7_loosen 48 = .ok (.ireturn, 1) := by decide +kernel
theorem dX7_look_0 : decode cX7_look 0 = .ok (.aload_n 0, 1) := by decide +kernel
theorem dX7_look_1 : decode cX7_look 1 = .ok (.iload_n 1, 1) := by decide +kernel
theorem dX7_look_2 : decode cX7_look 2 = .ok (.iload_n 2, 1) := by decide +kernel
theorem dX7_look_3 : decode cX7_look 3 = .ok (.invokevirtual 117, 3) := by decide +kernel
theorem dX7_look_6 : decode cX7_look 6 = .ok (.aload_n 0, 1) := by decide +kernel
theorem dX7_look_7 : decode cX7_look 7 = .ok (.getfield 10, 3) := by decide +kernel
theorem dX7_look_10 : decode cX7_look 10 = .ok (.iload_n 1, 1) := by decide +kernel
theorem dX7_look_11 : decode cX7_look 11 = .ok (.iload_n 2, 1) := by decide +kernel
theorem dX7_look_12 : decode cX7_look 12 = .ok (.invokevirtual 140, 3) := by decide +kernel
theorem dX7_look_15 : decode cX7_look 15 = .ok (.ifCond .ne 13, 3) := by decide +kernel
theorem dX7_look_18 : decode cX7_look 18 = .ok (.new 43, 3) := by decide +kernel
theorem dX7_look_21 : decode cX7_look 21 = .ok (.dup, 1) := by decide +kernel
theorem dX7_look_22 : decode cX7_look 22 = .ok (.ldc 143, 2) := by decide +kernel
theorem dX7_look_24 : decode cX7_look 24 = .ok (.invokespecial 47, 3) := by decide +kernel
theorem dX7_look_27 : decode cX7_look 27 = .ok (.athrow, 1) := by decide +kernel
theorem dX7_look_28 : decode cX7_look 28 = .ok (.aload_n 0, 1) := by decide +kernel
theorem dX7_look_29 : decode cX7_look 29 = .ok (.getfield 22, 3) := by decide +kernel
theorem dX7_look_32 : decode cX7_look 32 = .ok (.aload_n 0, 1) := by decide +kernel
theorem dX7_look_33 : decode cX7_look 33 = .ok (.getfield 10, 3) := by decide +kernel
theorem dX7_look_36 : decode cX7_look 36 = .ok (.invokevirtual 50, 3) := by decide +kernel
theorem dX7_look_39 : decode cX7_look 39 = .ok (.aload_n 0, 1) := by decide +kernel
theorem dX7_look_40 : decode cX7_look 40 = .ok (.getfield 10, 3) := by decide +kernel
theorem dX7_look_43 : decode cX7_look 43 = .ok (.iload_n 1, 1) := by decide +kernel
theorem dX7_look_44 : decode cX7_look 44 = .ok (.iload_n 2, 1) := by decide +kernel
theorem dX7_look_45 : decode cX7_look 45 = .ok (.invokevirtual 148, 3) := by decide +kernel
theorem dX7_look_48 : decode cX7_look 48 = .ok (.ireturn, 1) := by decide +kernel
theorem dX7_take_0 : decode cX7_take 0 = .ok (.aload_n 0, 1) := by decide +kernel
theorem dX7_take_1 : decode cX7_take 1 = .ok (.iload_n 1, 1) := by decide +kernel
theorem dX7_take_2 : decode cX7_take 2 = .ok (.invokevirtual 57, 3) := by decide +kernel
theorem dX7_take_5 : decode cX7_take 5 = .ok (.iload_n 2, 1) := by decide +kernel
theorem dX7_take_6 : decode cX7_take 6 = .ok (.invokestatic 96, 3) := by decide +kernel
theorem dX7_take_9 : decode cX7_take 9 = .ok (.aload_n 0, 1) := by decide +kernel
theorem dX7_take_10 : decode cX7_take 10 = .ok (.getfield 10, 3) := by decide +kernel
theorem dX7_take_13 : decode cX7_take 13 = .ok (.iload_n 1, 1) := by decide +kernel
theorem dX7_take_14 : decode cX7_take 14 = .ok (.iload_n 2, 1) := by decide +kernel
theorem dX7_take_15 : decode cX7_take 15 = .ok (.invokevirtual 151, 3) := by decide +kernel
theorem dX7_take_18 : decode cX7_take 18 = .ok (.ifCond .ne 13, 3) := by decide +kernel
theorem dX7_take_21 : decode cX7_take 21 = .ok (.new 43, 3) := by decide +kernel
theorem dX7_take_24 : decode cX7_take 24 = .ok (.dup, 1) := by decide +kernel
theorem dX7_take_25 : decode cX7_take 25 = .ok (.ldc 154, 2) := by decide +kernel
theorem dX7_take_27 : decode cX7_take 27 = .ok (.invokespecial 47, 3) := by decide +kernel
theorem dX7_take_30 : decode cX7_take 30 = .ok (.athrow, 1) := by decide +kernel
theorem dX7_take_31 : decode cX7_take 31 = .ok (.aload_n 0, 1) := by decide +kernel
theorem dX7_take_32 : decode cX7_take 32 = .ok (.getfield 22, 3) := by decide +kernel
theorem dX7_take_35 : decode cX7_take 35 = .ok (.aload_n 0, 1) := by decide +kernel
theorem dX7_take_36 : decode cX7_take 36 = .ok (.getfield 10, 3) := by decide +kernel
theorem dX7_take_39 : decode cX7_take 39 = .ok (.invokevirtual 50, 3) := by decide +kernel
theorem dX7_take_42 : decode cX7_take 42 = .ok (.aload_n 0, 1) := by decide +kernel
theorem dX7_take_43 : decode cX7_take 43 = .ok (.getfield 10, 3) := by decide +kernel
theorem dX7_take_46 : decode cX7_take 46 = .ok (.iload_n 1, 1) := by decide +kernel
theorem dX7_take_47 : decode cX7_take 47 = .ok (.iload_n 2, 1) := by decide +kernel
theorem dX7_take_48 : decode cX7_take 48 = .ok (.invokevirtual 156, 3) := by decide +kernel
theorem dX7_take_51 : decode cX7_take 51 = .ok (.ireturn, 1) := by decide +kernel
theorem dX7_swap_0 : decode cX7_swap 0 = .ok (.aload_n 0, 1) := by decide +kernel
theorem dX7_swap_1 : decode cX7_swap 1 = .ok (.iload_n 1, 1) := by decide +kernel
theorem dX7_swap_2 : decode cX7_swap 2 = .ok (.invokevirtual 57, 3) := by decide +kernel
theorem dX7_swap_5 : decode cX7_swap 5 = .ok (.iload_n 2, 1) := by decide +kernel
theorem dX7_swap_6 : decode cX7_swap 6 = .ok (.invokestatic 96, 3) := by decide +kernel
theorem dX7_swap_9 : decode cX7_swap 9 = .ok (.iload_n 3, 1) := by decide +kernel
theorem dX7_swap_10 : decode cX7_swap 10 = .ok (.invokestatic 99, 3) := by decide +kernel
theorem dX7_swap_13 : decode cX7_swap 13 = .ok (.aload_n 0, 1) := by decide +kernel
theorem dX7_swap_14 : decode cX7_swap 14 = .ok (.getfield 10, 3) := by decide +kernel
theorem dX7_swap_17 : decode cX7_swap 17 = .ok (.iload_n 1, 1) := by decide +kernel
theorem dX7_swap_18 : decode cX7_swap 18 = .ok (.iload_n 2, 1) := by decide +kernel
theorem dX7_swap_19 : decode cX7_swap 19 = .ok (.invokevirtual 159, 3) := by decide +kernel
theorem dX7_swap_22 : decode cX7_swap 22 = .ok (.ifCond .ne 13, 3) := by decide +kernel
theorem dX7_swap_25 : decode cX7_swap 25 = .ok (.new 43, 3) := by decide +kernel
theorem dX7_swap_28 : decode cX7_swap 28 = .ok (.dup, 1) := by decide +kernel
theorem dX7_swap_29 : decode cX7_swap 29 = .ok (.ldc 162, 2) := by decide +kernel
theorem dX7_swap_31 : decode cX7_swap 31 = .ok (.invokespecial 47, 3) := by decide +kernel
theorem dX7_swap_34 : decode cX7_swap 34 = .ok (.athrow, 1) := by decide +kernel
theorem dX7_swap_35 : decode cX7_swap 35 = .ok (.aload_n 0, 1) := by decide +kernel
theorem dX7_swap_36 : decode cX7_swap 36 = .ok (.getfield 22, 3) := by decide +kernel
theorem dX7_swap_39 : decode cX7_swap 39 = .ok (.aload_n 0, 1) := by decide +kernel
theorem dX7_swap_40 : decode cX7_swap 40 = .ok (.getfield 10, 3) := by decide +kernel
theorem dX7_swap_43 : decode cX7_swap 43 = .ok (.invokevirtual 50, 3) := by decide +kernel
theorem dX7_swap_46 : decode cX7_swap 46 = .ok (.aload_n 0, 1) := by decide +kernel
theorem dX7_swap_47 : decode cX7_swap 47 = .ok (.getfield 10, 3) := by decide +kernel
theorem dX7_swap_50 : decode cX7_swap 50 = .ok (.iload_n 1, 1) := by decide +kernel
theorem dX7_swap_51 : decode cX7_swap 51 = .ok (.iload_n 2, 1) := by decide +kernel
theorem dX7_swap_52 : decode cX7_swap 52 = .ok (.iload_n 3, 1) := by decide +kernel
theorem dX7_swap_53 : decode cX7_swap 53 = .ok (.invokevirtual 164, 3) := by decide +kernel
theorem dX7_swap_56 : decode cX7_swap 56 = .ok (.ireturn, 1) := by decide +kernel
theorem dX7_rake_0 : decode cX7_rake 0 = .ok (.aload_n 0, 1) := by decide +kernel
theorem dX7_rake_1 : decode cX7_rake 1 = .ok (.iload_n 1, 1) := by decide +kernel
theorem dX7_rake_2 : decode cX7_rake 2 = .ok (.invokevirtual 57, 3) := by decide +kernel
theorem dX7_rake_5 : decode cX7_rake 5 = .ok (.aload_n 0, 1) := by decide +kernel
theorem dX7_rake_6 : decode cX7_rake 6 = .ok (.getfield 10, 3) := by decide +kernel
theorem dX7_rake_9 : decode cX7_rake 9 = .ok (.iload_n 1, 1) := by decide +kernel
theorem dX7_rake_10 : decode cX7_rake 10 = .ok (.invokevirtual 167, 3) := by decide +kernel
theorem dX7_rake_13 : decode cX7_rake 13 = .ok (.ifCond .ne 13, 3) := by decide +kernel
theorem dX7_rake_16 : decode cX7_rake 16 = .ok (.new 43, 3) := by decide +kernel
theorem dX7_rake_19 : decode cX7_rake 19 = .ok (.dup, 1) := by decide +kernel
theorem dX7_rake_20 : decode cX7_rake 20 = .ok (.ldc 170, 2) := by decide +kernel
theorem dX7_rake_22 : decode cX7_rake 22 = .ok (.invokespecial 47, 3) := by decide +kernel
theorem dX7_rake_25 : decode cX7_rake 25 = .ok (.athrow, 1) := by decide +kernel
theorem dX7_rake_26 : decode cX7_rake 26 = .ok (.aload_n 0, 1) := by decide +kernel
theorem dX7_rake_27 : decode cX7_rake 27 = .ok (.getfield 22, 3) := by decide +kernel
theorem dX7_rake_30 : decode cX7_rake 30 = .ok (.aload_n 0, 1) := by decide +kernel
theorem dX7_rake_31 : decode cX7_rake 31 = .ok (.getfield 10, 3) := by decide +kernel
theorem dX7_rake_34 : decode cX7_rake 34 = .ok (.invokevirtual 50, 3) := by decide +kernel
theorem dX7_rake_37 : decode cX7_rake 37 = .ok (.aload_n 0, 1) := by decide +kernel
theorem dX7_rake_38 : decode cX7_rake 38 = .ok (.getfield 10, 3) := by decide +kernel
theorem dX7_rake_41 : decode cX7_rake 41 = .ok (.iload_n 1, 1) := by decide +kernel
theorem dX7_rake_42 : decode cX7_rake 42 = .ok (.invokevirtual 172, 3) := by decide +kernel
theorem dX7_rake_45 : decode cX7_rake 45 = .ok (.ireturn, 1) := by decide +kernel
theorem dX7_set_0 : decode cX7_set 0 = .ok (.iload_n 1, 1) := by decide +kernel
theorem dX7_set_1 : decode cX7_set 1 = .ok (.invokestatic 175, 3) := by decide +kernel
theorem dX7_set_4 : decode cX7_set 4 = .ok (.iload_n 1, 1) := by decide +kernel
theorem dX7_set_5 : decode cX7_set 5 = .ok (.iload_n 2, 1) := by decide +kernel
theorem dX7_set_6 : decode cX7_set 6 = .ok (.invokestatic 178, 3) := by decide +kernel
theorem dX7_set_9 : decode cX7_set 9 = .ok (.ifCond .ne 13, 3) := by decide +kernel
theorem dX7_set_12 : decode cX7_set 12 = .ok (.new 181, 3) := by decide +kernel
theorem dX7_set_15 : decode cX7_set 15 = .ok (.dup, 1) := by decide +kernel
theorem dX7_set_16 : decode cX7_set 16 = .ok (.ldc 183, 2) := by decide +kernel
theorem dX7_set_18 : decode cX7_set 18 = .ok (.invokespecial 185, 3) := by decide +kernel
theorem dX7_set_21 : decode cX7_set 21 = .ok (.athrow, 1) := by decide +kernel
theorem dX7_set_22 : decode cX7_set 22 = .ok (.aload_n 0, 1) := by decide +kernel
theorem dX7_set_23 : decode cX7_set 23 = .ok (.getfield 22, 3) := by decide +kernel
theorem dX7_set_26 : decode cX7_set 26 = .ok (.aload_n 0, 1) := by decide +kernel
theorem dX7_set_27 : decode cX7_set 27 = .ok (.getfield 10, 3) := by decide +kernel
theorem dX7_set_30 : decode cX7_set 30 = .ok (.invokevirtual 50, 3) := by decide +kernel
theorem dX7_set_33 : decode cX7_set 33 = .ok (.aload_n 0, 1) := by decide +kernel
theorem dX7_set_34 : decode cX7_set 34 = .ok (.getfield 10, 3) := by decide +kernel
theorem dX7_set_37 : decode cX7_set 37 = .ok (.iload_n 1, 1) := by decide +kernel
theorem dX7_set_38 : decode cX7_set 38 = .ok (.iload_n 2, 1) := by decide +kernel
theorem dX7_set_39 : decode cX7_set 39 = .ok (.invokevirtual 186, 3) := by decide +kernel
theorem dX7_set_42 : decode cX7_set 42 = .ok (.ireturn, 1) := by decide +kernel
theorem dX7_undo_0 : decode cX7_undo 0 = .ok (.aload_n 0, 1) := by decide +kernel
theorem dX7_undo_1 : decode cX7_undo 1 = .ok (.getfield 22, 3) := by decide +kernel
theorem dX7_undo_4 : decode cX7_undo 4 = .ok (.invokevirtual 229, 3) := by decide +kernel
theorem dX7_undo_7 : decode cX7_undo 7 = .ok (.ifCond .ne 13, 3) := by decide +kernel
theorem dX7_undo_10 : decode cX7_undo 10 = .ok (.new 43, 3) := by decide +kernel
theorem dX7_undo_13 : decode cX7_undo 13 = .ok (.dup, 1) := by decide +kernel
theorem dX7_undo_14 : decode cX7_undo 14 = .ok (.ldc 230, 2) := by decide +kernel
theorem dX7_undo_16 : decode cX7_undo 16 = .ok (.invokespecial 47, 3) := by decide +kernel
theorem dX7_undo_19 : decode cX7_undo 19 = .ok (.athrow, 1) := by decide +kernel
theorem dX7_undo_20 : decode cX7_undo 20 = .ok (.aload_n 0, 1) := by decide +kernel
theorem dX7_undo_21 : decode cX7_undo 21 = .ok (.getfield 22, 3) := by decide +kernel
theorem dX7_undo_24 : decode cX7_undo 24 = .ok (.aload_n 0, 1) := by decide +kernel
theorem dX7_undo_25 : decode cX7_undo 25 = .ok (.getfield 10, 3) := by decide +kernel
theorem dX7_undo_28 : decode cX7_undo 28 = .ok (.invokevirtual 232, 3) := by decide +kernel
theorem dX7_undo_31 : decode cX7_undo 31 = .ok (.aload_n 0, 1) := by decide +kernel
theorem dX7_undo_32 : decode cX7_undo 32 = .ok (.getfield 22, 3) := by decide +kernel
theorem dX7_undo_35 : decode cX7_undo 35 = .ok (.invokevirtual 229, 3) := by decide +kernel
theorem dX7_undo_38 : decode cX7_undo 38 = .ok (.ireturn, 1) := by decide +kernel
theorem dX7_branch_0 : decode cX7_branch 0 = .ok (.iload_n 1, 1) := by decide +kernel
theorem dX7_branch_1 : decode cX7_branch 1 = .ok (.invokestatic 96, 3) := by decide +kernel
theorem dX7_branch_4 : decode cX7_branch 4 = .ok (.aload_n 0, 1) := by decide +kernel
theorem dX7_branch_5 : decode cX7_branch 5 = .ok (.getfield 10, 3) := by decide +kernel
theorem dX7_branch_8 : decode cX7_branch 8 = .ok (.getfield 107, 3) := by decide +kernel
theorem dX7_branch_11 : decode cX7_branch 11 = .ok (.getfield 235, 3) := by decide +kernel
theorem dX7_branch_14 : decode cX7_branch 14 = .ok (.iload_n 1, 1) := by decide +kernel
theorem dX7_branch_15 : decode cX7_branch 15 = .ok (.invokevirtual 239, 3) := by decide +kernel
theorem dX7_branch_18 : decode cX7_branch 18 = .ok (.ireturn, 1) := by decide +kernel
theorem dX7_leaf_0 : decode cX7_leaf 0 = .ok (.aload_n 0, 1) := by decide +kernel
theorem dX7_leaf_1 : decode cX7_leaf 1 = .ok (.iload_n 1, 1) := by decide +kernel
theorem dX7_leaf_2 : decode cX7_leaf 2 = .ok (.invokevirtual 244, 3) := by decide +kernel
theorem dX7_leaf_5 : decode cX7_leaf 5 = .ok (.iload_n 2, 1) := by decide +kernel
theorem dX7_leaf_6 : decode cX7_leaf 6 = .ok (.bipush 7, 2) := by decide +kernel
theorem dX7_leaf_8 : decode cX7_leaf 8 = .ok (.invokestatic 247, 3) := by decide +kernel
theorem dX7_leaf_11 : decode cX7_leaf 11 = .ok (.aload_n 0, 1) := by decide +kernel
theorem dX7_leaf_12 : decode cX7_leaf 12 = .ok (.getfield 10, 3) := by decide +kernel
theorem dX7_leaf_15 : decode cX7_leaf 15 = .ok (.iload_n 1, 1) := by decide +kernel
theorem dX7_leaf_16 : decode cX7_leaf 16 = .ok (.iload_n 2, 1) := by decide +kernel
theorem dX7_leaf_17 : decode cX7_leaf 17 = .ok (.invokevirtual 250, 3) := by decide +kernel
theorem dX7_leaf_20 : decode cX7_leaf 20 = .ok (.ireturn, 1) := by decide +kernel
theorem dX7_child_0 : decode cX7_child 0 = .ok (.aload_n 0, 1) := by decide +kernel
theorem dX7_child_1 : decode cX7_child 1 = .ok (.iload_n 1, 1) := by decide +kernel
theorem dX7_child_2 : decode cX7_child 2 = .ok (.invokevirtual 57, 3) := by decide +kernel
theorem dX7_child_5 : decode cX7_child 5 = .ok (.iload_n 2, 1) := by decide +kernel
theorem dX7_child_6 : decode cX7_child 6 = .ok (.bipush 7, 2) := by decide +kernel
theorem dX7_child_8 : decode cX7_child 8 = .ok (.invokestatic 247, 3) := by decide +kernel
theorem dX7_child_11 : decode cX7_child 11 = .ok (.aload_n 0, 1) := by decide +kernel
theorem dX7_child_12 : decode cX7_child 12 = .ok (.getfield 10, 3) := by decide +kernel
theorem dX7_child_15 : decode cX7_child 15 = .ok (.iload_n 1, 1) := by decide +kernel
theorem dX7_child_16 : decode cX7_child 16 = .ok (.iload_n 2, 1) := by decide +kernel
theorem dX7_child_17 : decode cX7_child 17 = .ok (.invokevirtual 253, 3) := by decide +kernel
theorem dX7_child_20 : decode cX7_child 20 = .ok (.ireturn, 1) := by decide +kernel
theorem dX7_hook_0 : decode cX7_hook 0 = .ok (.aload_n 0, 1) := by decide +kernel
theorem dX7_hook_1 : decode cX7_hook 1 = .ok (.iload_n 1, 1) := by decide +kernel
theorem dX7_hook_2 : decode cX7_hook 2 = .ok (.iload_n 2, 1) := by decide +kernel
theorem dX7_hook_3 : decode cX7_hook 3 = .ok (.invokevirtual 117, 3) := by decide +kernel
theorem dX7_hook_6 : decode cX7_hook 6 = .ok (.iload_n 3, 1) := by decide +kernel
theorem dX7_hook_7 : decode cX7_hook 7 = .ok (.iconst 2, 1) := by decide +kernel
theorem dX7_hook_8 : decode cX7_hook 8 = .ok (.invokestatic 247, 3) := by decide +kernel
theorem dX7_hook_11 : decode cX7_hook 11 = .ok (.aload_n 0, 1) := by decide +kernel
theorem dX7_hook_12 : decode cX7_hook 12 = .ok (.getfield 10, 3) := by decide +kernel
theorem dX7_hook_15 : decode cX7_hook 15 = .ok (.getfield 256, 3) := by decide +kernel
theorem dX7_hook_18 : decode cX7_hook 18 = .ok (.iload_n 1, 1) := by decide +kernel
theorem dX7_hook_19 : decode cX7_hook 19 = .ok (.iload_n 2, 1) := by decide +kernel
theorem dX7_hook_20 : decode cX7_hook 20 = .ok (.iload_n 3, 1) := by decide +kernel
theorem dX7_hook_21 : decode cX7_hook 21 = .ok (.invokevirtual 260, 3) := by decide +kernel
theorem dX7_hook_24 : decode cX7_hook 24 = .ok (.ireturn, 1) := by decide +kernel
theorem dX7_heap_0 : decode cX7_heap 0 = .ok (.aload_n 0, 1) := by decide +kernel
theorem dX7_heap_1 : decode cX7_heap 1 = .ok (.iload_n 1, 1) := by decide +kernel
theorem dX7_heap_2 : decode cX7_heap 2 = .ok (.invokevirtual 57, 3) := by decide +kernel
theorem dX7_heap_5 : decode cX7_heap 5 = .ok (.iload_n 2, 1) := by decide +kernel
theorem dX7_heap_6 : decode cX7_heap 6 = .ok (.ifCond .ge 14, 3) := by decide +kernel
theorem dX7_heap_9 : decode cX7_heap 9 = .ok (.new 181, 3) := by decide +kernel
theorem dX7_heap_12 : decode cX7_heap 12 = .ok (.dup, 1) := by decide +kernel
theorem dX7_heap_13 : decode cX7_heap 13 = .ok (.ldc_w 265, 3) := by decide +kernel
theorem dX7_heap_16 : decode cX7_heap 16 = .ok (.invokespecial 185, 3) := by decide +kernel
theorem dX7_heap_19 : decode cX7_heap 19 = .ok (.athrow, 1) := by decide +kernel
theorem dX7_heap_20 : decode cX7_heap 20 = .ok (.aload_n 0, 1) := by decide +kernel
theorem dX7_heap_21 : decode cX7_heap 21 = .ok (.getfield 10, 3) := by decide +kernel
theorem dX7_heap_24 : decode cX7_heap 24 = .ok (.getfield 33, 3) := by decide +kernel
theorem dX7_heap_27 : decode cX7_heap 27 = .ok (.iload_n 1, 1) := by decide +kernel
theorem dX7_heap_28 : decode cX7_heap 28 = .ok (.iload_n 2, 1) := by decide +kernel
theorem dX7_heap_29 : decode cX7_heap 29 = .ok (.invokevirtual 267, 3) := by decide +kernel
theorem dX7_heap_32 : decode cX7_heap 32 = .ok (.ireturn, 1) := by decide +kernel
theorem dX7_count_0 : decode cX7_count 0 = .ok (.iload_n 1, 1) := by decide +kernel
theorem dX7_count_1 : decode cX7_count 1 = .ok (.bipush 15, 2) := by decide +kernel
theorem dX7_count_3 : decode cX7_count 3 = .ok (.invokestatic 247, 3) := by decide +kernel
theorem dX7_count_6 : decode cX7_count 6 = .ok (.aload_n 0, 1) := by decide +kernel
theorem dX7_count_7 : decode cX7_count 7 = .ok (.iload_n 1, 1) := by decide +kernel
theorem dX7_count_8 : decode cX7_count 8 = .ok (.invokevirtual 270, 3) := by decide +kernel
theorem dX7_count_11 : decode cX7_count 11 = .ok (.ireturn, 1) := by decide +kernel
theorem dX7_setting_0 : decode cX7_setting 0 = .ok (.iload_n 1, 1) := by decide +kernel
theorem dX7_setting_1 : decode cX7_setting 1 = .ok (.invokestatic 175, 3) := by decide +kernel
theorem dX7_setting_4 : decode cX7_setting 4 = .ok (.aload_n 0, 1) := by decide +kernel
theorem dX7_setting_5 : decode cX7_setting 5 = .ok (.getfield 10, 3) := by decide +kernel
theorem dX7_setting_8 : decode cX7_setting 8 = .ok (.iload_n 1, 1) := by decide +kernel
theorem dX7_setting_9 : decode cX7_setting 9 = .ok (.invokevirtual 273, 3) := by decide +kernel
theorem dX7_setting_12 : decode cX7_setting 12 = .ok (.ireturn, 1) := by decide +kernel
theorem dX7_why_0 : decode cX7_why 0 = .ok (.aload_n 0, 1) := by decide +kernel
theorem dX7_why_1 : decode cX7_why 1 = .ok (.iload_n 1, 1) := by decide +kernel
theorem dX7_why_2 : decode cX7_why 2 = .ok (.invokevirtual 244, 3) := by decide +kernel
theorem dX7_why_5 : decode cX7_why 5 = .ok (.aload_n 0, 1) := by decide +kernel
theorem dX7_why_6 : decode cX7_why 6 = .ok (.getfield 10, 3) := by decide +kernel
theorem dX7_why_9 : decode cX7_why 9 = .ok (.iload_n 1, 1) := by decide +kernel
theorem dX7_why_10 : decode cX7_why 10 = .ok (.invokevirtual 276, 3) := by decide +kernel
theorem dX7_why_13 : decode cX7_why 13 = .ok (.ireturn, 1) := by decide +kernel
theorem dX7_ifRaked_0 : decode cX7_ifRaked 0 = .ok (.aload_n 0, 1) := by decide +kernel
theorem dX7_ifRaked_1 : decode cX7_ifRaked 1 = .ok (.iload_n 1, 1) := by decide +kernel
theorem dX7_ifRaked_2 : decode cX7_ifRaked 2 = .ok (.invokevirtual 57, 3) := by decide +kernel
theorem dX7_ifRaked_5 : decode cX7_ifRaked 5 = .ok (.iload_n 2, 1) := by decide +kernel
theorem dX7_ifRaked_6 : decode cX7_ifRaked 6 = .ok (.ifCond .eq 19, 3) := by decide +kernel
theorem dX7_ifRaked_9 : decode cX7_ifRaked 9 = .ok (.iload_n 2, 1) := by decide +kernel
theorem dX7_ifRaked_10 : decode cX7_ifRaked 10 = .ok (.iconst 1, 1) := by decide +kernel
theorem dX7_ifRaked_11 : decode cX7_ifRaked 11 = .ok (.if_icmp .eq 14, 3) := by decide +kernel
theorem dX7_ifRaked_14 : decode cX7_ifRaked 14 = .ok (.new 181, 3) := by decide +kernel
theorem dX7_ifRaked_17 : decode cX7_ifRaked 17 = .ok (.dup, 1) := by decide +kernel
theorem dX7_ifRaked_18 : decode cX7_ifRaked 18 = .ok (.ldc_w 279, 3) := by decide +kernel
theorem dX7_ifRaked_21 : decode cX7_ifRaked 21 = .ok (.invokespecial 185, 3) := by decide +kernel
theorem dX7_ifRaked_24 : decode cX7_ifRaked 24 = .ok (.athrow, 1) := by decide +kernel
theorem dX7_ifRaked_25 : decode cX7_ifRaked 25 = .ok (.aload_n 0, 1) := by decide +kernel
theorem dX7_ifRaked_26 : decode cX7_ifRaked 26 = .ok (.getfield 10, 3) := by decide +kernel
theorem dX7_ifRaked_29 : decode cX7_ifRaked 29 = .ok (.iload_n 1, 1) := by decide +kernel
theorem dX7_ifRaked_30 : decode cX7_ifRaked 30 = .ok (.iload_n 2, 1) := by decide +kernel
theorem dX7_ifRaked_31 : decode cX7_ifRaked 31 = .ok (.iconst (-1), 1) := by decide +kernel
theorem dX7_ifRaked_32 : decode cX7_ifRaked 32 = .ok (.invokevirtual 281, 3) := by decide +kernel
theorem dX7_ifRaked_35 : decode cX7_ifRaked 35 = .ok (.ireturn, 1) := by decide +kernel
theorem dX7_bestRake_0 : decode cX7_bestRake 0 = .ok (.aload_n 0, 1) := by decide +kernel
theorem dX7_bestRake_1 : decode cX7_bestRake 1 = .ok (.getfield 10, 3) := by decide +kernel
theorem dX7_bestRake_4 : decode cX7_bestRake 4 = .ok (.invokevirtual 284, 3) := by decide +kernel
theorem dX7_bestRake_7 : decode cX7_bestRake 7 = .ok (.ireturn, 1) := by decide +kernel
theorem dX7_ifLoosened_0 : decode cX7_ifLoosened 0 = .ok (.aload_n 0, 1) := by decide +kernel
theorem dX7_ifLoosened_1 : decode cX7_ifLoosened 1 = .ok (.iload_n 1, 1) := by decide +kernel
theorem dX7_ifLoosened_2 : decode cX7_ifLoosened 2 = .ok (.iload_n 2, 1) := by decide +kernel
theorem dX7_ifLoosened_3 : decode cX7_ifLoosened 3 = .ok (.invokevirtual 117, 3) := by decide +kernel
theorem dX7_ifLoosened_6 : decode cX7_ifLoosened 6 = .ok (.aload_n 0, 1) := by decide +kernel
theorem dX7_ifLoosened_7 : decode cX7_ifLoosened 7 = .ok (.getfield 10, 3) := by decide +kernel
theorem dX7_ifLoosened_10 : decode cX7_ifLoosened 10 = .ok (.iload_n 1, 1) := by decide +kernel
theorem dX7_ifLoosened_11 : decode cX7_ifLoosened 11 = .ok (.iload_n 2, 1) := by decide +kernel
theorem dX7_ifLoosened_12 : decode cX7_ifLoosened 12 = .ok (.invokevirtual 287, 3) := by decide +kernel
theorem dX7_ifLoosened_15 : decode cX7_ifLoosened 15 = .ok (.ireturn, 1) := by decide +kernel
theorem dX7_late_0 : decode cX7_late 0 = .ok (.aload_n 0, 1) := by decide +kernel
theorem dX7_late_1 : decode cX7_late 1 = .ok (.getfield 10, 3) := by decide +kernel
theorem dX7_late_4 : decode cX7_late 4 = .ok (.getfield 33, 3) := by decide +kernel
theorem dX7_late_7 : decode cX7_late 7 = .ok (.aload_n 0, 1) := by decide +kernel
theorem dX7_late_8 : decode cX7_late 8 = .ok (.getfield 10, 3) := by decide +kernel
theorem dX7_late_11 : decode cX7_late 11 = .ok (.getfield 223, 3) := by decide +kernel
theorem dX7_late_14 : decode cX7_late 14 = .ok (.invokevirtual 290, 3) := by decide +kernel
theorem dX7_late_17 : decode cX7_late 17 = .ok (.ireturn, 1) := by decide +kernel
theorem dX7_ifRested_0 : decode cX7_ifRested 0 = .ok (.aload_n 0, 1) := by decide +kernel
theorem dX7_ifRested_1 : decode cX7_ifRested 1 = .ok (.iload_n 1, 1) := by decide +kernel
theorem dX7_ifRested_2 : decode cX7_ifRested 2 = .ok (.invokevirtual 57, 3) := by decide +kernel
theorem dX7_ifRested_5 : decode cX7_ifRested 5 = .ok (.aload_n 0, 1) := by decide +kernel
theorem dX7_ifRested_6 : decode cX7_ifRested 6 = .ok (.getfield 10, 3) := by decide +kernel
theorem dX7_ifRested_9 : decode cX7_ifRested 9 = .ok (.iload_n 1, 1) := by decide +kernel
theorem dX7_ifRested_10 : decode cX7_ifRested 10 = .ok (.invokevirtual 293, 3) := by decide +kernel
theorem dX7_ifRested_13 : decode cX7_ifRested 13 = .ok (.ireturn, 1) := by decide +kernel
theorem dX7_ifAllRested_0 : decode cX7_ifAllRested 0 = .ok (.aload_n 0, 1) := by decide +kernel
theorem dX7_ifAllRested_1 : decode cX7_ifAllRested 1 = .ok (.getfield 10, 3) := by decide +kernel
theorem dX7_ifAllRested_4 : decode cX7_ifAllRested 4 = .ok (.invokevirtual 296, 3) := by decide +kernel
theorem dX7_ifAllRested_7 : decode cX7_ifAllRested 7 = .ok (.ireturn, 1) := by decide +kernel
theorem dX7_mostHeld_0 : decode cX7_mostHeld 0 = .ok (.aload_n 0, 1) := by decide +kernel
theorem dX7_mostHeld_1 : decode cX7_mostHeld 1 = .ok (.getfield 10, 3) := by decide +kernel
theorem dX7_mostHeld_4 : decode cX7_mostHeld 4 = .ok (.invokevirtual 299, 3) := by decide +kernel
theorem dX7_mostHeld_7 : decode cX7_mostHeld 7 = .ok (.ireturn, 1) := by decide +kernel
theorem dX7_burntShare_0 : decode cX7_burntShare 0 = .ok (.aload_n 0, 1) := by decide +kernel
theorem dX7_burntShare_1 : decode cX7_burntShare 1 = .ok (.getfield 10, 3) := by decide +kernel
theorem dX7_burntShare_4 : decode cX7_burntShare 4 = .ok (.getfield 107, 3) := by decide +kernel
theorem dX7_burntShare_7 : decode cX7_burntShare 7 = .ok (.iconst 2, 1) := by decide +kernel
theorem dX7_burntShare_8 : decode cX7_burntShare 8 = .ok (.invokevirtual 302, 3) := by decide +kernel
theorem dX7_burntShare_11 : decode cX7_burntShare 11 = .ok (.istore_n 1, 1) := by decide +kernel
theorem dX7_burntShare_12 : decode cX7_burntShare 12 = .ok (.iload_n 1, 1) := by decide +kernel
theorem dX7_burntShare_13 : decode cX7_burntShare 13 = .ok (.aload_n 0, 1) := by decide +kernel
theorem dX7_burntShare_14 : decode cX7_burntShare 14 = .ok (.getfield 10, 3) := by decide +kernel
theorem dX7_burntShare_17 : decode cX7_burntShare 17 = .ok (.getfield 107, 3) := by decide +kernel
theorem dX7_burntShare_20 : decode cX7_burntShare 20 = .ok (.iconst 1, 1) := by decide +kernel
theorem dX7_burntShare_21 : decode cX7_burntShare 21 = .ok (.invokevirtual 302, 3) := by decide +kernel
theorem dX7_burntShare_24 : decode cX7_burntShare 24 = .ok (.iadd, 1) := by decide +kernel
theorem dX7_burntShare_25 : decode cX7_burntShare 25 = .ok (.istore_n 2, 1) := by decide +kernel
theorem dX7_burntShare_26 : decode cX7_burntShare 26 = .ok (.iload_n 2, 1) := by decide +kernel
theorem dX7_burntShare_27 : decode cX7_burntShare 27 = .ok (.ifCond .ne 7, 3) := by decide +kernel
theorem dX7_burntShare_30 : decode cX7_burntShare 30 = .ok (.dconst 1, 1) := by decide +kernel
theorem dX7_burntShare_31 : decode cX7_burntShare 31 = .ok (.goto 8, 3) := by decide +kernel
theorem dX7_burntShare_34 : decode cX7_burntShare 34 = .ok (.iload_n 1, 1) := by decide +kernel
theorem dX7_burntShare_35 : decode cX7_burntShare 35 = .ok (.i2d, 1) := by decide +kernel
theorem dX7_burntShare_36 : decode cX7_burntShare 36 = .ok (.iload_n 2, 1) := by decide +kernel
theorem dX7_burntShare_37 : decode cX7_burntShare 37 = .ok (.i2d, 1) := by decide +kernel
theorem dX7_burntShare_38 : decode cX7_burntShare 38 = .ok (.ddiv, 1) := by decide +kernel
theorem dX7_burntShare_39 : decode cX7_burntShare 39 = .ok (.dreturn, 1) := by decide +kernel
theorem dX7_fullness_0 : decode cX7_fullness 0 = .ok (.aload_n 0, 1) := by decide +kernel
theorem dX7_fullness_1 : decode cX7_fullness 1 = .ok (.getfield 10, 3) := by decide +kernel
theorem dX7_fullness_4 : decode cX7_fullness 4 = .ok (.getfield 305, 3) := by decide +kernel
theorem dX7_fullness_7 : decode cX7_fullness 7 = .ok (.aload_n 0, 1) := by decide +kernel
theorem dX7_fullness_8 : decode cX7_fullness 8 = .ok (.getfield 10, 3) := by decide +kernel
theorem dX7_fullness_11 : decode cX7_fullness 11 = .ok (.getfield 33, 3) := by decide +kernel
theorem dX7_fullness_14 : decode cX7_fullness 14 = .ok (.invokevirtual 61, 3) := by decide +kernel
theorem dX7_fullness_17 : decode cX7_fullness 17 = .ok (.imul, 1) := by decide +kernel
theorem dX7_fullness_18 : decode cX7_fullness 18 = .ok (.istore_n 1, 1) := by decide +kernel
theorem dX7_fullness_19 : decode cX7_fullness 19 = .ok (.iload_n 1, 1) := by decide +kernel
theorem dX7_fullness_20 : decode cX7_fullness 20 = .ok (.ifCond .gt 7, 3) := by decide +kernel
theorem dX7_fullness_23 : decode cX7_fullness 23 = .ok (.fconst 0, 1) := by decide +kernel
theorem dX7_fullness_24 : decode cX7_fullness 24 = .ok (.goto 18, 3) := by decide +kernel
theorem dX7_fullness_27 : decode cX7_fullness 27 = .ok (.aload_n 0, 1) := by decide +kernel
theorem dX7_fullness_28 : decode cX7_fullness 28 = .ok (.getfield 10, 3) := by decide +kernel
theorem dX7_fullness_31 : decode cX7_fullness 31 = .ok (.getfield 107, 3) := by decide +kernel
theorem dX7_fullness_34 : decode cX7_fullness 34 = .ok (.iconst 1, 1) := by decide +kernel
theorem dX7_fullness_35 : decode cX7_fullness 35 = .ok (.invokevirtual 302, 3) := by decide +kernel
theorem dX7_fullness_38 : decode cX7_fullness 38 = .ok (.i2f, 1) := by decide +kernel
theorem dX7_fullness_39 : decode cX7_fullness 39 = .ok (.iload_n 1, 1) := by decide +kernel
theorem dX7_fullness_40 : decode cX7_fullness 40 = .ok (.i2f, 1) := by decide +kernel
theorem dX7_fullness_41 : decode cX7_fullness 41 = .ok (.fdiv, 1) := by decide +kernel
theorem dX7_fullness_42 : decode cX7_fullness 42 = .ok (.freturn, 1) := by decide +kernel
theorem dX7_needChild_0 : decode cX7_needChild 0 = .ok (.aload_n 0, 1) := by decide +kernel
theorem dX7_needChild_1 : decode cX7_needChild 1 = .ok (.getfield 10, 3) := by decide +kernel
theorem dX7_needChild_4 : decode cX7_needChild 4 = .ok (.getfield 33, 3) := by decide +kernel
theorem dX7_needChild_7 : decode cX7_needChild 7 = .ok (.iload_n 1, 1) := by decide +kernel
theorem dX7_needChild_8 : decode cX7_needChild 8 = .ok (.invokevirtual 321, 3) := by decide +kernel
theorem dX7_needChild_11 : decode cX7_needChild 11 = .ok (.ifCond .ne 14, 3) := by decide +kernel
theorem dX7_needChild_14 : decode cX7_needChild 14 = .ok (.new 343, 3) := by decide +kernel
theorem dX7_needChild_17 : decode cX7_needChild 17 = .ok (.dup, 1) := by decide +kernel
theorem dX7_needChild_18 : decode cX7_needChild 18 = .ok (.ldc_w 345, 3) := by decide +kernel
theorem dX7_needChild_21 : decode cX7_needChild 21 = .ok (.invokespecial 347, 3) := by decide +kernel
theorem dX7_needChild_24 : decode cX7_needChild 24 = .ok (.athrow, 1) := by decide +kernel
theorem dX7_needChild_25 : decode cX7_needChild 25 = .ok (.return_, 1) := by decide +kernel
theorem dX7_needHook_0 : decode cX7_needHook 0 = .ok (.aload_n 0, 1) := by decide +kernel
theorem dX7_needHook_1 : decode cX7_needHook 1 = .ok (.iload_n 1, 1) := by decide +kernel
theorem dX7_needHook_2 : decode cX7_needHook 2 = .ok (.invokevirtual 57, 3) := by decide +kernel
theorem dX7_needHook_5 : decode cX7_needHook 5 = .ok (.iload_n 2, 1) := by decide +kernel
theorem dX7_needHook_6 : decode cX7_needHook 6 = .ok (.ifCond .lt 8, 3) := by decide +kernel
theorem dX7_needHook_9 : decode cX7_needHook 9 = .ok (.iload_n 2, 1) := by decide +kernel
theorem dX7_needHook_10 : decode cX7_needHook 10 = .ok (.iconst 3, 1) := by decide +kernel
theorem dX7_needHook_11 : decode cX7_needHook 11 = .ok (.if_icmp .lt 14, 3) := by decide +kernel
theorem dX7_needHook_14 : decode cX7_needHook 14 = .ok (.new 343, 3) := by decide +kernel
theorem dX7_needHook_17 : decode cX7_needHook 17 = .ok (.dup, 1) := by decide +kernel
theorem dX7_needHook_18 : decode cX7_needHook 18 = .ok (.ldc_w 348, 3) := by decide +kernel
theorem dX7_needHook_21 : decode cX7_needHook 21 = .ok (.invokespecial 347, 3) := by decide +kernel
theorem dX7_needHook_24 : decode cX7_needHook 24 = .ok (.athrow, 1) := by decide +kernel
theorem dX7_needHook_25 : decode cX7_needHook 25 = .ok (.return_, 1) := by decide +kernel
theorem dX7_needLeaf_0 : decode cX7_needLeaf 0 = .ok (.iload_n 1, 1) := by decide +kernel
theorem dX7_needLeaf_1 : decode cX7_needLeaf 1 = .ok (.ifCond .lt 17, 3) := by decide +kernel
theorem dX7_needLeaf_4 : decode cX7_needLeaf 4 = .ok (.iload_n 1, 1) := by decide +kernel
theorem dX7_needLeaf_5 : decode cX7_needLeaf 5 = .ok (.aload_n 0, 1) := by decide +kernel
theorem dX7_needLeaf_6 : decode cX7_needLeaf 6 = .ok (.getfield 10, 3) := by decide +kernel
theorem dX7_needLeaf_9 : decode cX7_needLeaf 9 = .ok (.getfield 107, 3) := by decide +kernel
theorem dX7_needLeaf_12 : decode cX7_needLeaf 12 = .ok (.getfield 314, 3) := by decide +kernel
theorem dX7_needLeaf_15 : decode cX7_needLeaf 15 = .ok (.if_icmp .lt 14, 3) := by decide +kernel
theorem dX7_needLeaf_18 : decode cX7_needLeaf 18 = .ok (.new 343, 3) := by decide +kernel
theorem dX7_needLeaf_21 : decode cX7_needLeaf 21 = .ok (.dup, 1) := by decide +kernel
theorem dX7_needLeaf_22 : decode cX7_needLeaf 22 = .ok (.ldc_w 350, 3) := by decide +kernel
theorem dX7_needLeaf_25 : decode cX7_needLeaf 25 = .ok (.invokespecial 347, 3) := by decide +kernel
theorem dX7_needLeaf_28 : decode cX7_needLeaf 28 = .ok (.athrow, 1) := by decide +kernel
theorem dX7_needLeaf_29 : decode cX7_needLeaf 29 = .ok (.return_, 1) := by decide +kernel
theorem dX7_needBranch_0 : decode cX7_needBranch 0 = .ok (.iload_n 0, 1) := by decide +kernel
theorem dX7_needBranch_1 : decode cX7_needBranch 1 = .ok (.ifCond .lt 9, 3) := by decide +kernel
theorem dX7_needBranch_4 : decode cX7_needBranch 4 = .ok (.iload_n 0, 1) := by decide +kernel
theorem dX7_needBranch_5 : decode cX7_needBranch 5 = .ok (.bipush 12, 2) := by decide +kernel
theorem dX7_needBranch_7 : decode cX7_needBranch 7 = .ok (.if_icmp .lt 14, 3) := by decide +kernel
theorem dX7_needBranch_10 : decode cX7_needBranch 10 = .ok (.new 343, 3) := by decide +kernel
theorem dX7_needBranch_13 : decode cX7_needBranch 13 = .ok (.dup, 1) := by decide +kernel
theorem dX7_needBranch_14 : decode cX7_needBranch 14 = .ok (.ldc_w 352, 3) := by decide +kernel
theorem dX7_needBranch_17 : decode cX7_needBranch 17 = .ok (.invokespecial 347, 3) := by decide +kernel
theorem dX7_needBranch_20 : decode cX7_needBranch 20 = .ok (.athrow, 1) := by decide +kernel
theorem dX7_needBranch_21 : decode cX7_needBranch 21 = .ok (.return_, 1) := by decide +kernel
theorem dX7_needSetting_0 : decode cX7_needSetting 0 = .ok (.iload_n 0, 1) := by decide +kernel
theorem dX7_needSetting_1 : decode cX7_needSetting 1 = .ok (.ifCond .lt 8, 3) := by decide +kernel
theorem dX7_needSetting_4 : decode cX7_needSetting 4 = .ok (.iload_n 0, 1) := by decide +kernel
theorem dX7_needSetting_5 : decode cX7_needSetting 5 = .ok (.iconst 2, 1) := by decide +kernel
theorem dX7_needSetting_6 : decode cX7_needSetting 6 = .ok (.if_icmp .lt 14, 3) := by decide +kernel
theorem dX7_needSetting_9 : decode cX7_needSetting 9 = .ok (.new 343, 3) := by decide +kernel
theorem dX7_needSetting_12 : decode cX7_needSetting 12 = .ok (.dup, 1) := by decide +kernel
theorem dX7_needSetting_13 : decode cX7_needSetting 13 = .ok (.ldc_w 354, 3) := by decide +kernel
theorem dX7_needSetting_16 : decode cX7_needSetting 16 = .ok (.invokespecial 347, 3) := by decide +kernel
theorem dX7_needSetting_19 : decode cX7_needSetting 19 = .ok (.athrow, 1) := by decide +kernel
theorem dX7_needSetting_20 : decode cX7_needSetting 20 = .ok (.return_, 1) := by decide +kernel
theorem dX7_needColour_0 : decode cX7_needColour 0 = .ok (.iload_n 0, 1) := by decide +kernel
theorem dX7_needColour_1 : decode cX7_needColour 1 = .ok (.ifCond .lt 9, 3) := by decide +kernel
theorem dX7_needColour_4 : decode cX7_needColour 4 = .ok (.iload_n 0, 1) := by decide +kernel
theorem dX7_needColour_5 : decode cX7_needColour 5 = .ok (.bipush 10, 2) := by decide +kernel
theorem dX7_needColour_7 : decode cX7_needColour 7 = .ok (.if_icmp .lt 14, 3) := by decide +kernel
theorem dX7_needColour_10 : decode cX7_needColour 10 = .ok (.new 181, 3) := by decide +kernel
theorem dX7_needColour_13 : decode cX7_needColour 13 = .ok (.dup, 1) := by decide +kernel
theorem dX7_needColour_14 : decode cX7_needColour 14 = .ok (.ldc_w 356, 3) := by decide +kernel
theorem dX7_needColour_17 : decode cX7_needColour 17 = .ok (.invokespecial 185, 3) := by decide +kernel
theorem dX7_needColour_20 : decode cX7_needColour 20 = .ok (.athrow, 1) := by decide +kernel
theorem dX7_needColour_21 : decode cX7_needColour 21 = .ok (.return_, 1) := by decide +kernel
theorem dX7_needWhat_0 : decode cX7_needWhat 0 = .ok (.iload_n 0, 1) := by decide +kernel
theorem dX7_needWhat_1 : decode cX7_needWhat 1 = .ok (.ifCond .lt 8, 3) := by decide +kernel
theorem dX7_needWhat_4 : decode cX7_needWhat 4 = .ok (.iload_n 0, 1) := by decide +kernel
theorem dX7_needWhat_5 : decode cX7_needWhat 5 = .ok (.iload_n 1, 1) := by decide +kernel
theorem dX7_needWhat_6 : decode cX7_needWhat 6 = .ok (.if_icmp .le 14, 3) := by decide +kernel
theorem dX7_needWhat_9 : decode cX7_needWhat 9 = .ok (.new 181, 3) := by decide +kernel
theorem dX7_needWhat_12 : decode cX7_needWhat 12 = .ok (.dup, 1) := by decide +kernel
theorem dX7_needWhat_13 : decode cX7_needWhat 13 = .ok (.ldc_w 358, 3) := by decide +kernel
theorem dX7_needWhat_16 : decode cX7_needWhat 16 = .ok (.invokespecial 185, 3) := by decide +kernel
theorem dX7_needWhat_19 : decode cX7_needWhat 19 = .ok (.athrow, 1) := by decide +kernel
theorem dX7_needWhat_20 : decode cX7_needWhat 20 = .ok (.return_, 1) := by decide +kernel
theorem dX7_isValueOf_0 : decode cX7_isValueOf 0 = .ok (.iload_n 0, 1) := by decide +kernel
theorem dX7_isValueOf_1 : decode cX7_isValueOf 1 = .ok (.ifCond .ne 20, 3) := by decide +kernel
theorem dX7_isValueOf_4 : decode cX7_isValueOf 4 = .ok (.iload_n 1, 1) := by decide +kernel
theorem dX7_isValueOf_5 : decode cX7_isValueOf 5 = .ok (.iconst 1, 1) := by decide +kernel
theorem dX7_isValueOf_6 : decode cX7_isValueOf 6 = .ok (.if_icmp .lt 13, 3) := by decide +kernel
theorem dX7_isValueOf_9 : decode cX7_isValueOf 9 = .ok (.iload_n 1, 1) := by decide +kernel
theorem dX7_isValueOf_10 : decode cX7_isValueOf 10 = .ok (.bipush 20, 2) := by decide +kernel
theorem dX7_isValueOf_12 : decode cX7_isValueOf 12 = .ok (.if_icmp .gt 7, 3) := by decide +kernel
theorem dX7_isValueOf_15 : decode cX7_isValueOf 15 = .ok (.iconst 1, 1) := by decide +kernel
theorem dX7_isValueOf_16 : decode cX7_isValueOf 16 = .ok (.goto 4, 3) := by decide +kernel
theorem dX7_isValueOf_19 : decode cX7_isValueOf 19 = .ok (.iconst 0, 1) := by decide +kernel
theorem dX7_isValueOf_20 : decode cX7_isValueOf 20 = .ok (.ireturn, 1) := by decide +kernel
theorem dX7_isValueOf_21 : decode cX7_isValueOf 21 = .ok (.iload_n 1, 1) := by decide +kernel
theorem dX7_isValueOf_22 : decode cX7_isValueOf 22 = .ok (.ifCond .eq 8, 3) := by decide +kernel
theorem dX7_isValueOf_25 : decode cX7_isValueOf 25 = .ok (.iload_n 1, 1) := by decide +kernel
theorem dX7_isValueOf_26 : decode cX7_isValueOf 26 = .ok (.iconst 1, 1) := by decide +kernel
theorem dX7_isValueOf_27 : decode cX7_isValueOf 27 = .ok (.if_icmp .ne 7, 3) := by decide +kernel
theorem dX7_isValueOf_30 : decode cX7_isValueOf 30 = .ok (.iconst 1, 1) := by decide +kernel
theorem dX7_isValueOf_31 : decode cX7_isValueOf 31 = .ok (.goto 4, 3) := by decide +kernel
theorem dX7_isValueOf_34 : decode cX7_isValueOf 34 = .ok (.iconst 0, 1) := by decide +kernel
theorem dX7_isValueOf_35 : decode cX7_isValueOf 35 = .ok (.ireturn, 1) := by decide +kernel
theorem dX7_counted_0 : decode cX7_counted 0 = .ok (.iload_n 1, 1) := by decide +kernel
theorem dX7_counted_1 : decode cX7_counted 1 = .ok (.bipush 15, 2) := by decide +kernel
theorem dX7_counted_3 : decode cX7_counted 3 = .ok (.if_icmp .ne 13, 3) := by decide +kernel
theorem dX7_counted_6 : decode cX7_counted 6 = .ok (.aload_n 0, 1) := by decide +kernel
theorem dX7_counted_7 : decode cX7_counted 7 = .ok (.getfield 22, 3) := by decide +kernel
theorem dX7_counted_10 : decode cX7_counted 10 = .ok (.invokevirtual 229, 3) := by decide +kernel
theorem dX7_counted_13 : decode cX7_counted 13 = .ok (.goto 11, 3) := by decide +kernel
theorem dX7_counted_16 : decode cX7_counted 16 = .ok (.aload_n 0, 1) := by decide +kernel
theorem dX7_counted_17 : decode cX7_counted 17 = .ok (.getfield 10, 3) := by decide +kernel
theorem dX7_counted_20 : decode cX7_counted 20 = .ok (.iload_n 1, 1) := by decide +kernel
theorem dX7_counted_21 : decode cX7_counted 21 = .ok (.invokevirtual 369, 3) := by decide +kernel
theorem dX7_counted_24 : decode cX7_counted 24 = .ok (.ireturn, 1) := by decide +kernel
theorem dJ9_max_7cf53_0 : decode cJ9_max_7cf53 0 = .ok (.iload_n 0, 1) := by decide +kernel
theorem dJ9_max_7cf53_1 : decode cJ9_max_7cf53 1 = .ok (.iload_n 1, 1) := by decide +kernel
theorem dJ9_max_7cf53_2 : decode cJ9_max_7cf53 2 = .ok (.if_icmp .lt 7, 3) := by decide +kernel
theorem dJ9_max_7cf53_5 : decode cJ9_max_7cf53 5 = .ok (.iload_n 0, 1) := by decide +kernel
theorem dJ9_max_7cf53_6 : decode cJ9_max_7cf53 6 = .ok (.goto 4, 3) := by decide +kernel
theorem dJ9_max_7cf53_9 : decode cJ9_max_7cf53 9 = .ok (.iload_n 1, 1) := by decide +kernel
theorem dJ9_max_7cf53_10 : decode cJ9_max_7cf53 10 = .ok (.ireturn, 1) := by decide +kernel
theorem dJ9_min_7cf53_0 : decode cJ9_min_7cf53 0 = .ok (.iload_n 0, 1) := by decide +kernel
theorem dJ9_min_7cf53_1 : decode cJ9_min_7cf53 1 = .ok (.iload_n 1, 1) := by decide +kernel
theorem dJ9_min_7cf53_2 : decode cJ9_min_7cf53 2 = .ok (.if_icmp .gt 7, 3) := by decide +kernel
theorem dJ9_min_7cf53_5 : decode cJ9_min_7cf53 5 = .ok (.iload_n 0, 1) := by decide +kernel
theorem dJ9_min_7cf53_6 : decode cJ9_min_7cf53 6 = .ok (.goto 4, 3) := by decide +kernel
theorem dJ9_min_7cf53_9 : decode cJ9_min_7cf53 9 = .ok (.iload_n 1, 1) := by decide +kernel
theorem dJ9_min_7cf53_10 : decode cJ9_min_7cf53 10 = .ok (.ireturn, 1) := by decide +kernel
