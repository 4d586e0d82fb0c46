theorem dX7_init_0 : decode cX7_init 0 = .ok (.aload_n 0, 1) := by decide +kernel
theorem dX7_init_1 : decode cX7_init 1 = .ok (.invokespecial 1, 3) := by decide +kernel
theorem dX7_init_4 : decode cX7_init 4 = .ok (.aload_n 0, 1) := by decide +kernel
theorem dX7_init_5 : decode cX7_init 5 = .ok (.new 7, 3) := by decide +kernel
theorem dX7_init_8 : decode cX7_init 8 = .ok (.dup, 1) := by decide +kernel
theorem dX7_init_9 : decode cX7_init 9 = .ok (.invokespecial 9, 3) := by decide +kernel
theorem dX7_init_12 : decode cX7_init 12 = .ok (.putfield 10, 3) := by decide +kernel
theorem dX7_init_15 : decode cX7_init 15 = .ok (.aload_n 0, 1) := by decide +kernel
theorem dX7_init_16 : decode cX7_init 16 = .ok (.new 7, 3) := by decide +kernel
theorem dX7_init_19 : decode cX7_init 19 = .ok (.dup, 1) := by decide +kernel
theorem dX7_init_20 : decode cX7_init 20 = .ok (.invokespecial 9, 3) := by decide +kernel
theorem dX7_init_23 : decode cX7_init 23 = .ok (.putfield 16, 3) := by decide +kernel
theorem dX7_init_26 : decode cX7_init 26 = .ok (.aload_n 0, 1) := by decide +kernel
theorem dX7_init_27 : decode cX7_init 27 = .ok (.new 19, 3) := by decide +kernel
theorem dX7_init_30 : decode cX7_init 30 = .ok (.dup, 1) := by decide +kernel
theorem dX7_init_31 : decode cX7_init 31 = .ok (.invokespecial 21, 3) := by decide +kernel
theorem dX7_init_34 : decode cX7_init 34 = .ok (.putfield 22, 3) := by decide +kernel
theorem dX7_init_37 : decode cX7_init 37 = .ok (.aload_n 0, 1) := by decide +kernel
theorem dX7_init_38 : decode cX7_init 38 = .ok (.new 26, 3) := by decide +kernel
theorem dX7_init_41 : decode cX7_init 41 = .ok (.dup, 1) := by decide +kernel
theorem dX7_init_42 : decode cX7_init 42 = .ok (.invokespecial 28, 3) := by decide +kernel
theorem dX7_init_45 : decode cX7_init 45 = .ok (.putfield 29, 3) := by decide +kernel
theorem dX7_init_48 : decode cX7_init 48 = .ok (.return_, 1) := by decide +kernel
theorem dX7_come_0 : decode cX7_come 0 = .ok (.aload_n 0, 1) := by decide +kernel
theorem dX7_come_1 : decode cX7_come 1 = .ok (.getfield 10, 3) := by decide +kernel
theorem dX7_come_4 : decode cX7_come 4 = .ok (.getfield 33, 3) := by decide +kernel
theorem dX7_come_7 : decode cX7_come 7 = .ok (.invokevirtual 37, 3) := by decide +kernel
theorem dX7_come_10 : decode cX7_come 10 = .ok (.iconst (-1), 1) := by decide +kernel
theorem dX7_come_11 : decode cX7_come 11 = .ok (.if_icmp .ne 13, 3) := by decide +kernel
theorem dX7_come_14 : decode cX7_come 14 = .ok (.new 43, 3) := by decide +kernel
theorem dX7_come_17 : decode cX7_come 17 = .ok (.dup, 1) := by decide +kernel
theorem dX7_come_18 : decode cX7_come 18 = .ok (.ldc 45, 2) := by decide +kernel
theorem dX7_come_20 : decode cX7_come 20 = .ok (.invokespecial 47, 3) := by decide +kernel
theorem dX7_come_23 : decode cX7_come 23 = .ok (.athrow, 1) := by decide +kernel
theorem dX7_come_24 : decode cX7_come 24 = .ok (.aload_n 0, 1) := by decide +kernel
theorem dX7_come_25 : decode cX7_come 25 = .ok (.getfield 22, 3) := by decide +kernel
theorem dX7_come_28 : decode cX7_come 28 = .ok (.aload_n 0, 1) := by decide +kernel
theorem dX7_come_29 : decode cX7_come 29 = .ok (.getfield 10, 3) := by decide +kernel
theorem dX7_come_32 : decode cX7_come 32 = .ok (.invokevirtual 50, 3) := by decide +kernel
theorem dX7_come_35 : decode cX7_come 35 = .ok (.aload_n 0, 1) := by decide +kernel
theorem dX7_come_36 : decode cX7_come 36 = .ok (.getfield 10, 3) := by decide +kernel
theorem dX7_come_39 : decode cX7_come 39 = .ok (.invokevirtual 54, 3) := by decide +kernel
theorem dX7_come_42 : decode cX7_come 42 = .ok (.ireturn, 1) := by decide +kernel
theorem dX7_leave_0 : decode cX7_leave 0 = .ok (.aload_n 0, 1) := by decide +kernel
theorem dX7_leave_1 : decode cX7_leave 1 = .ok (.iload_n 1, 1) := by decide +kernel
theorem dX7_leave_2 : decode cX7_leave 2 = .ok (.invokevirtual 57, 3) := by decide +kernel
theorem dX7_leave_5 : decode cX7_leave 5 = .ok (.aload_n 0, 1) := by decide +kernel
theorem dX7_leave_6 : decode cX7_leave 6 = .ok (.getfield 10, 3) := by decide +kernel
theorem dX7_leave_9 : decode cX7_leave 9 = .ok (.getfield 33, 3) := by decide +kernel
theorem dX7_leave_12 : decode cX7_leave 12 = .ok (.invokevirtual 61, 3) := by decide +kernel
theorem dX7_leave_15 : decode cX7_leave 15 = .ok (.iconst 1, 1) := by decide +kernel
theorem dX7_leave_16 : decode cX7_leave 16 = .ok (.if_icmp .gt 13, 3) := by decide +kernel
theorem dX7_leave_19 : decode cX7_leave 19 = .ok (.new 43, 3) := by decide +kernel
theorem dX7_leave_22 : decode cX7_leave 22 = .ok (.dup, 1) := by decide +kernel
theorem dX7_leave_23 : decode cX7_leave 23 = .ok (.ldc 64, 2) := by decide +kernel
theorem dX7_leave_25 : decode cX7_leave 25 = .ok (.invokespecial 47, 3) := by decide +kernel
theorem dX7_leave_28 : decode cX7_leave 28 = .ok (.athrow, 1) := by decide +kernel
theorem dX7_leave_29 : decode cX7_leave 29 = .ok (.aload_n 0, 1) := by decide +kernel
theorem dX7_leave_30 : decode cX7_leave 30 = .ok (.getfield 22, 3) := by decide +kernel
theorem dX7_leave_33 : decode cX7_leave 33 = .ok (.aload_n 0, 1) := by decide +kernel
theorem dX7_leave_34 : decode cX7_leave 34 = .ok (.getfield 10, 3) := by decide +kernel
theorem dX7_leave_37 : decode cX7_leave 37 = .ok (.invokevirtual 50, 3) := by decide +kernel
theorem dX7_leave_40 : decode cX7_leave 40 = .ok (.aload_n 0, 1) := by decide +kernel
theorem dX7_leave_41 : decode cX7_leave 41 = .ok (.getfield 10, 3) := by decide +kernel
theorem dX7_leave_44 : decode cX7_leave 44 = .ok (.iload_n 1, 1) := by decide +kernel
theorem dX7_leave_45 : decode cX7_leave 45 = .ok (.invokevirtual 66, 3) := by decide +kernel
theorem dX7_leave_48 : decode cX7_leave 48 = .ok (.ireturn, 1) := by decide +kernel
theorem dX7_enter_0 : decode cX7_enter 0 = .ok (.aload_n 0, 1) := by decide +kernel
theorem dX7_enter_1 : decode cX7_enter 1 = .ok (.iload_n 1, 1) := by decide +kernel
theorem dX7_enter_2 : decode cX7_enter 2 = .ok (.invokevirtual 57, 3) := by decide +kernel
theorem dX7_enter_5 : decode cX7_enter 5 = .ok (.aload_n 0, 1) := by decide +kernel
theorem dX7_enter_6 : decode cX7_enter 6 = .ok (.getfield 10, 3) := by decide +kernel
theorem dX7_enter_9 : decode cX7_enter 9 = .ok (.iload_n 1, 1) := by decide +kernel
theorem dX7_enter_10 : decode cX7_enter 10 = .ok (.invokevirtual 70, 3) := by decide +kernel
theorem dX7_enter_13 : decode cX7_enter 13 = .ok (.ifCond .ne 13, 3) := by decide +kernel
theorem dX7_enter_16 : decode cX7_enter 16 = .ok (.new 43, 3) := by decide +kernel
theorem dX7_enter_19 : decode cX7_enter 19 = .ok (.dup, 1) := by decide +kernel
theorem dX7_enter_20 : decode cX7_enter 20 = .ok (.ldc 74, 2) := by decide +kernel
theorem dX7_enter_22 : decode cX7_enter 22 = .ok (.invokespecial 47, 3) := by decide +kernel
theorem dX7_enter_25 : decode cX7_enter 25 = .ok (.athrow, 1) := by decide +kernel
theorem dX7_enter_26 : decode cX7_enter 26 = .ok (.aload_n 0, 1) := by decide +kernel
theorem dX7_enter_27 : decode cX7_enter 27 = .ok (.getfield 22, 3) := by decide +kernel
theorem dX7_enter_30 : decode cX7_enter 30 = .ok (.aload_n 0, 1) := by decide +kernel
theorem dX7_enter_31 : decode cX7_enter 31 = .ok (.getfield 10, 3) := by decide +kernel
theorem dX7_enter_34 : decode cX7_enter 34 = .ok (.invokevirtual 50, 3) := by decide +kernel
theorem dX7_enter_37 : decode cX7_enter 37 = .ok (.aload_n 0, 1) := by decide +kernel
theorem dX7_enter_38 : decode cX7_enter 38 = .ok (.getfield 10, 3) := by decide +kernel
theorem dX7_enter_41 : decode cX7_enter 41 = .ok (.iload_n 1, 1) := by decide +kernel
theorem dX7_enter_42 : decode cX7_enter 42 = .ok (.invokevirtual 76, 3) := by decide +kernel
theorem dX7_enter_45 : decode cX7_enter 45 = .ok (.ireturn, 1) := by decide +kernel
theorem dX7_rest_0 : decode cX7_rest 0 = .ok (.aload_n 0, 1) := by decide +kernel
theorem dX7_rest_1 : decode cX7_rest 1 = .ok (.iload_n 1, 1) := by decide +kernel
theorem dX7_rest_2 : decode cX7_rest 2 = .ok (.invokevirtual 57, 3) := by decide +kernel
theorem dX7_rest_5 : decode cX7_rest 5 = .ok (.aload_n 0, 1) := by decide +kernel
theorem dX7_rest_6 : decode cX7_rest 6 = .ok (.getfield 10, 3) := by decide +kernel
theorem dX7_rest_9 : decode cX7_rest 9 = .ok (.iload_n 1, 1) := by decide +kernel
theorem dX7_rest_10 : decode cX7_rest 10 = .ok (.invokevirtual 79, 3) := by decide +kernel
theorem dX7_rest_13 : decode cX7_rest 13 = .ok (.ifCond .ne 13, 3) := by decide +kernel
theorem dX7_rest_16 : decode cX7_rest 16 = .ok (.new 43, 3) := by decide +kernel
theorem dX7_rest_19 : decode cX7_rest 19 = .ok (.dup, 1) := by decide +kernel
theorem dX7_rest_20 : decode cX7_rest 20 = .ok (.ldc 82, 2) := by decide +kernel
theorem dX7_rest_22 : decode cX7_rest 22 = .ok (.invokespecial 47, 3) := by decide +kernel
theorem dX7_rest_25 : decode cX7_rest 25 = .ok (.athrow, 1) := by decide +kernel
theorem dX7_rest_26 : decode cX7_rest 26 = .ok (.aload_n 0, 1) := by decide +kernel
theorem dX7_rest_27 : decode cX7_rest 27 = .ok (.getfield 22, 3) := by decide +kernel
theorem dX7_rest_30 : decode cX7_rest 30 = .ok (.aload_n 0, 1) := by decide +kernel
theorem dX7_rest_31 : decode cX7_rest 31 = .ok (.getfield 10, 3) := by decide +kernel
theorem dX7_rest_34 : decode cX7_rest 34 = .ok (.invokevirtual 50, 3) := by decide +kernel
theorem dX7_rest_37 : decode cX7_rest 37 = .ok (.aload_n 0, 1) := by decide +kernel
theorem dX7_rest_38 : decode cX7_rest 38 = .ok (.getfield 10, 3) := by decide +kernel
theorem dX7_rest_41 : decode cX7_rest 41 = .ok (.iload_n 1, 1) := by decide +kernel
theorem dX7_rest_42 : decode cX7_rest 42 = .ok (.invokevirtual 84, 3) := by decide +kernel
theorem dX7_rest_45 : decode cX7_rest 45 = .ok (.ireturn, 1) := by decide +kernel
theorem dX7_ring_0 : decode cX7_ring 0 = .ok (.aload_n 0, 1) := by decide +kernel
theorem dX7_ring_1 : decode cX7_ring 1 = .ok (.getfield 10, 3) := by decide +kernel
theorem dX7_ring_4 : decode cX7_ring 4 = .ok (.invokevirtual 87, 3) := by decide +kernel
theorem dX7_ring_7 : decode cX7_ring 7 = .ok (.ifCond .ne 13, 3) := by decide +kernel
theorem dX7_ring_10 : decode cX7_ring 10 = .ok (.new 43, 3) := by decide +kernel
theorem dX7_ring_13 : decode cX7_ring 13 = .ok (.dup, 1) := by decide +kernel
theorem dX7_ring_14 : decode cX7_ring 14 = .ok (.ldc 91, 2) := by decide +kernel
theorem dX7_ring_16 : decode cX7_ring 16 = .ok (.invokespecial 47, 3) := by decide +kernel
theorem dX7_ring_19 : decode cX7_ring 19 = .ok (.athrow, 1) := by decide +kernel
theorem dX7_ring_20 : decode cX7_ring 20 = .ok (.aload_n 0, 1) := by decide +kernel
theorem dX7_ring_21 : decode cX7_ring 21 = .ok (.getfield 22, 3) := by decide +kernel
theorem dX7_ring_24 : decode cX7_ring 24 = .ok (.aload_n 0, 1) := by decide +kernel
theorem dX7_ring_25 : decode cX7_ring 25 = .ok (.getfield 10, 3) := by decide +kernel
theorem dX7_ring_28 : decode cX7_ring 28 = .ok (.invokevirtual 50, 3) := by decide +kernel
theorem dX7_ring_31 : decode cX7_ring 31 = .ok (.aload_n 0, 1) := by decide +kernel
theorem dX7_ring_32 : decode cX7_ring 32 = .ok (.getfield 10, 3) := by decide +kernel
theorem dX7_ring_35 : decode cX7_ring 35 = .ok (.invokevirtual 93, 3) := by decide +kernel
theorem dX7_ring_38 : decode cX7_ring 38 = .ok (.ireturn, 1) := by decide +kernel
theorem dX7_grow_0 : decode cX7_grow 0 = .ok (.iload_n 1, 1) := by decide +kernel
theorem dX7_grow_1 : decode cX7_grow 1 = .ok (.invokestatic 96, 3) := by decide +kernel
theorem dX7_grow_4 : decode cX7_grow 4 = .ok (.iload_n 2, 1) := by decide +kernel
theorem dX7_grow_5 : decode cX7_grow 5 = .ok (.invokestatic 99, 3) := by decide +kernel
theorem dX7_grow_8 : decode cX7_grow 8 = .ok (.aload_n 0, 1) := by decide +kernel
theorem dX7_grow_9 : decode cX7_grow 9 = .ok (.getfield 10, 3) := by decide +kernel
theorem dX7_grow_12 : decode cX7_grow 12 = .ok (.iload_n 1, 1) := by decide +kernel
theorem dX7_grow_13 : decode cX7_grow 13 = .ok (.invokevirtual 102, 3) := by decide +kernel
theorem dX7_grow_16 : decode cX7_grow 16 = .ok (.ifCond .ne 13, 3) := by decide +kernel
theorem dX7_grow_19 : decode cX7_grow 19 = .ok (.new 43, 3) := by decide +kernel
theorem dX7_grow_22 : decode cX7_grow 22 = .ok (.dup, 1) := by decide +kernel
theorem dX7_grow_23 : decode cX7_grow 23 = .ok (.ldc 105, 2) := by decide +kernel
theorem dX7_grow_25 : decode cX7_grow 25 = .ok (.invokespecial 47, 3) := by decide +kernel
theorem dX7_grow_28 : decode cX7_grow 28 = .ok (.athrow, 1) := by decide +kernel
theorem dX7_grow_29 : decode cX7_grow 29 = .ok (.aload_n 0, 1) := by decide +kernel
theorem dX7_grow_30 : decode cX7_grow 30 = .ok (.getfield 22, 3) := by decide +kernel
theorem dX7_grow_33 : decode cX7_grow 33 = .ok (.aload_n 0, 1) := by decide +kernel
theorem dX7_grow_34 : decode cX7_grow 34 = .ok (.getfield 10, 3) := by decide +kernel
theorem dX7_grow_37 : decode cX7_grow 37 = .ok (.invokevirtual 50, 3) := by decide +kernel
theorem dX7_grow_40 : decode cX7_grow 40 = .ok (.aload_n 0, 1) := by decide +kernel
theorem dX7_grow_41 : decode cX7_grow 41 = .ok (.getfield 10, 3) := by decide +kernel
theorem dX7_grow_44 : decode cX7_grow 44 = .ok (.getfield 107, 3) := by decide +kernel
theorem dX7_grow_47 : decode cX7_grow 47 = .ok (.iload_n 1, 1) := by decide +kernel
theorem dX7_grow_48 : decode cX7_grow 48 = .ok (.iload_n 2, 1) := by decide +kernel
theorem dX7_grow_49 : decode cX7_grow 49 = .ok (.invokevirtual 111, 3) := by decide +kernel
theorem dX7_grow_52 : decode cX7_grow 52 = .ok (.ireturn, 1) := by decide +kernel
theorem dX7_note_0 : decode cX7_note 0 = .ok (.aload_n 0, 1) := by decide +kernel
theorem dX7_note_1 : decode cX7_note 1 = .ok (.iload_n 1, 1) := by decide +kernel
theorem dX7_note_2 : decode cX7_note 2 = .ok (.iload_n 2, 1) := by decide +kernel
theorem dX7_note_3 : decode cX7_note 3 = .ok (.invokevirtual 117, 3) := by decide +kernel
theorem dX7_note_6 : decode cX7_note 6 = .ok (.iload_n 3, 1) := by decide +kernel
theorem dX7_note_7 : decode cX7_note 7 = .ok (.invokestatic 96, 3) := by decide +kernel
theorem dX7_note_10 : decode cX7_note 10 = .ok (.aload_n 0, 1) := by decide +kernel
theorem dX7_note_11 : decode cX7_note 11 = .ok (.getfield 10, 3) := by decide +kernel
theorem dX7_note_14 : decode cX7_note 14 = .ok (.iload_n 1, 1) := by decide +kernel
theorem dX7_note_15 : decode cX7_note 15 = .ok (.iload_n 2, 1) := by decide +kernel
theorem dX7_note_16 : decode cX7_note 16 = .ok (.iload_n 3, 1) := by decide +kernel
theorem dX7_note_17 : decode cX7_note 17 = .ok (.invokevirtual 121, 3) := by decide +kernel
theorem dX7_note_20 : decode cX7_note 20 = .ok (.ifCond .ne 13, 3) := by decide +kernel
theorem dX7_note_23 : decode cX7_note 23 = .ok (.new 43, 3) := by decide +kernel
theorem dX7_note_26 : decode cX7_note 26 = .ok (.dup, 1) := by decide +kernel
theorem dX7_note_27 : decode cX7_note 27 = .ok (.ldc 125, 2) := by decide +kernel
theorem dX7_note_29 : decode cX7_note 29 = .ok (.invokespecial 47, 3) := by decide +kernel
theorem dX7_note_32 : decode cX7_note 32 = .ok (.athrow, 1) := by decide +kernel
theorem dX7_note_33 : decode cX7_note 33 = .ok (.aload_n 0, 1) := by decide +kernel
theorem dX7_note_34 : decode cX7_note 34 = .ok (.getfield 22, 3) := by decide +kernel
theorem dX7_note_37 : decode cX7_note 37 = .ok (.aload_n 0, 1) := by decide +kernel
theorem dX7_note_38 : decode cX7_note 38 = .ok (.getfield 10, 3) := by decide +kernel
theorem dX7_note_41 : decode cX7_note 41 = .ok (.invokevirtual 50, 3) := by decide +kernel
theorem dX7_note_44 : decode cX7_note 44 = .ok (.aload_n 0, 1) := by decide +kernel
theorem dX7_note_45 : decode cX7_note 45 = .ok (.getfield 10, 3) := by decide +kernel
theorem dX7_note_48 : decode cX7_note 48 = .ok (.iload_n 1, 1) := by decide +kernel
theorem dX7_note_49 : decode cX7_note 49 = .ok (.iload_n 2, 1) := by decide +kernel
theorem dX7_note_50 : decode cX7_note 50 = .ok (.iload_n 3, 1) := by decide +kernel
theorem dX7_note_51 : decode cX7_note 51 = .ok (.invokevirtual 127, 3) := by decide +kernel
theorem dX7_note_54 : decode cX7_note 54 = .ok (.ireturn, 1) := by decide +kernel
theorem dX7_pin_0 : decode cX7_pin 0 = .ok (.aload_n 0, 1) := by decide +kernel
theorem dX7_pin_1 : decode cX7_pin 1 = .ok (.iload_n 1, 1) := by decide +kernel
theorem dX7_pin_2 : decode cX7_pin 2 = .ok (.iload_n 2, 1) := by decide +kernel
theorem dX7_pin_3 : decode cX7_pin 3 = .ok (.invokevirtual 117, 3) := by decide +kernel
theorem dX7_pin_6 : decode cX7_pin 6 = .ok (.aload_n 0, 1) := by decide +kernel
theorem dX7_pin_7 : decode cX7_pin 7 = .ok (.getfield 10, 3) := by decide +kernel
theorem dX7_pin_10 : decode cX7_pin 10 = .ok (.iload_n 1, 1) := by decide +kernel
theorem dX7_pin_11 : decode cX7_pin 11 = .ok (.iload_n 2, 1) := by decide +kernel
theorem dX7_pin_12 : decode cX7_pin 12 = .ok (.invokevirtual 131, 3) := by decide +kernel
theorem dX7_pin_15 : decode cX7_pin 15 = .ok (.ifCond .ne 13, 3) := by decide +kernel
theorem dX7_pin_18 : decode cX7_pin 18 = .ok (.new 43, 3) := by decide +kernel
theorem dX7_pin_21 : decode cX7_pin 21 = .ok (.dup, 1) := by decide +kernel
theorem dX7_pin_22 : decode cX7_pin 22 = .ok (.ldc 135, 2) := by decide +kernel
theorem dX7_pin_24 : decode cX7_pin 24 = .ok (.invokespecial 47, 3) := by decide +kernel
theorem dX7_pin_27 : decode cX7_pin 27 = .ok (.athrow, 1) := by decide +kernel
theorem dX7_pin_28 : decode cX7_pin 28 = .ok (.aload_n 0, 1) := by decide +kernel
theorem dX7_pin_29 : decode cX7_pin 29 = .ok (.getfield 22, 3) := by decide +kernel
theorem dX7_pin_32 : decode cX7_pin 32 = .ok (.aload_n 0, 1) := by decide +kernel
theorem dX7_pin_33 : decode cX7_pin 33 = .ok (.getfield 10, 3) := by decide +kernel
theorem dX7_pin_36 : decode cX7_pin 36 = .ok (.invokevirtual 50, 3) := by decide +kernel
theorem dX7_pin_39 : decode cX7_pin 39 = .ok (.aload_n 0, 1) := by decide +kernel
theorem dX7_pin_40 : decode cX7_pin 40 = .ok (.getfield 10, 3) := by decide +kernel
theorem dX7_pin_43 : decode cX7_pin 43 = .ok (.iload_n 1, 1) := by decide +kernel
theorem dX7_pin_44 : decode cX7_pin 44 = .ok (.iload_n 2, 1) := by decide +kernel
theorem dX7_pin_45 : decode cX7_pin 45 = .ok (.invokevirtual 137, 3) := by decide +kernel
theorem dX7_pin_48 : decode cX7_pin 48 = .ok (.ireturn, 1) := by decide +kernel
theorem dX7_loosen_0 : decode cX7_loosen 0 = .ok (.aload_n 0, 1) := by decide +kernel
theorem dX7_loosen_1 : decode cX7_loosen 1 = .ok (.iload_n 1, 1) := by decide +kernel
theorem dX7_loosen_2 : decode cX7_loosen 2 = .ok (.iload_n 2, 1) := by decide +kernel
theorem dX7_loosen_3 : decode cX7_loosen 3 = .ok (.invokevirtual 117, 3) := by decide +kernel
theorem dX7_loosen_6 : decode cX7_loosen 6 = .ok (.aload_n 0, 1) := by decide +kernel
theorem dX7_loosen_7 : decode cX7_loosen 7 = .ok (.getfield 10, 3) := by decide +kernel
theorem dX7_loosen_10 : decode cX7_loosen 10 = .ok (.iload_n 1, 1) := by decide +kernel
theorem dX7_loosen_11 : decode cX7_loosen 11 = .ok (.iload_n 2, 1) := by decide +kernel
theorem dX7_loosen_12 : decode cX7_loosen 12 = .ok (.invokevirtual 140, 3) := by decide +kernel
theorem dX7_loosen_15 : decode cX7_loosen 15 = .ok (.ifCond .ne 13, 3) := by decide +kernel
theorem dX7_loosen_18 : decode cX7_loosen 18 = .ok (.new 43, 3) := by decide +kernel
theorem dX7_loosen_21 : decode cX7_loosen 21 = .ok (.dup, 1) := by decide +kernel
theorem dX7_loosen_22 : decode cX7_loosen 22 = .ok (.ldc 143, 2) := by decide +kernel
theorem dX7_loosen_24 : decode cX7_loosen 24 = .ok (.invokespecial 47, 3) := by decide +kernel
theorem dX7_loosen_27 : decode cX7_loosen 27 = .ok (.athrow, 1) := by decide +kernel
theorem dX7_loosen_28 : decode cX7_loosen 28 = .ok (.aload_n 0, 1) := by decide +kernel
theorem dX7_loosen_29 : decode cX7_loosen 29 = .ok (.getfield 22, 3) := by decide +kernel
theorem dX7_loosen_32 : decode cX7_loosen 32 = .ok (.aload_n 0, 1) := by decide +kernel
theorem dX7_loosen_33 : decode cX7_loosen 33 = .ok (.getfield 10, 3) := by decide +kernel
theorem dX7_loosen_36 : decode cX7_loosen 36 = .ok (.invokevirtual 50, 3) := by decide +kernel
theorem dX7_loosen_39 : decode cX7_loosen 39 = .ok (.aload_n 0, 1) := by decide +kernel
theorem dX7_loosen_40 : decode cX7_loosen 40 = .ok (.getfield 10, 3) := by decide +kernel
theorem dX7_loosen_43 : decode cX7_loosen 43 = .ok (.iload_n 1, 1) := by decide +kernel
theorem dX7_loosen_44 : decode cX7_loosen 44 = .ok (.iload_n 2, 1) := by decide +kernel
theorem dX7_loosen_45 : decode cX7_loosen 45 = .ok (.invokevirtual 145, 3) := by decide +kernel
theorem dX7_loosen_48 : decode cX7_loosen 48 = .ok (.ireturn, 1) := by decide +kernel
theorem dX7_look_0 : decode cX7_look 0 = .ok (.aload_n 0, 1) := by decide +kernel
theorem dX7_look_1 : decode cX7_look 1 = .ok (.iload_n 1, 1) := by decide +kernel
theorem dX7_look_2 : decode cX7_look 2 = .ok (.iload_n 2, 1) := by decide +kernel
theorem dX7_look_3 : decode cX7_look 3 = .ok (.invokevirtual 117, 3) := by decide +kernel
theorem dX7_look_6 : decode cX7_look 6 = .ok (.aload_n 0, 1) := by decide +kernel
theorem dX7_look_7 : decode cX7_look 7 = .ok (.getfield 10, 3) := by decide +kernel
theorem dX7_look_10 : decode cX7_look 10 = .ok (.iload_n 1, 1) := by decide +kernel
theorem dX7_look_11 : decode cX7_look 11 = .ok (.iload_n 2, 1) := by decide +kernel
theorem dX7_look_12 : decode cX7_look 12 = .ok (.invokevirtual 140, 3) := by decide +kernel
theorem dX7_look_15 : decode cX7_look 15 = .ok (.ifCond .ne 13, 3) := by decide +kernel
theorem dX7_look_18 : decode cX7_look 18 = .ok (.new 43, 3) := by decide +kernel
theorem dX7_look_21 : decode cX7_look 21 = .ok (.dup, 1) := by decide +kernel
theorem dX7_look_22 : decode cX7_look 22 = .ok (.ldc 143, 2) := by decide +kernel
theorem dX7_look_24 : decode cX7_look 24 = .ok (.invokespecial 47, 3) := by decide +kernel
theorem dX7_look_27 : decode cX7_look 27 = .ok (.athrow, 1) := by decide +kernel
theorem dX7_look_28 : decode cX7_look 28 = .ok (.aload_n 0, 1) := by decide +kernel
theorem dX7_look_29 : decode cX7_look 29 = .ok (.getfield 22, 3) := by decide +kernel
theorem dX7_look_32 : decode cX7_look 32 = .ok (.aload_n 0, 1) := by decide +kernel
theorem dX7_look_33 : decode cX7_look 33 = .ok (.getfield 10, 3) := by decide +kernel
theorem dX7_look_36 : decode cX7_look 36 = .ok (.invokevirtual 50, 3) := by decide +kernel
theorem dX7_look_39 : decode cX7_look 39 = .ok (.aload_n 0, 1) := by decide +kernel
theorem dX7_look_40 : decode cX7_look 40 = .ok (.getfield 10, 3) := by decide +kernel
theorem dX7_look_43 : decode cX7_look 43 = .ok (.iload_n 1, 1) := by decide +kernel
theorem dX7_look_44 : decode cX7_look 44 = .ok (.iload_n 2, 1) := by decide +kernel
theorem dX7_look_45 : decode cX7_look 45 = .ok (.invokevirtual 148, 3) := by decide +kernel
theorem dX7_look_48 : decode cX7_look 48 = .ok (.ireturn, 1) := by decide +kernel
theorem dX7_take_0 : decode cX7_take 0 = .ok (.aload_n 0, 1) := by decide +kernel
theorem dX7_take_1 : decode cX7_take 1 = .ok (.iload_n 1, 1) := by decide +kernel
theorem dX7_take_2 : decode cX7_take 2 = .ok (.invokevirtual 57, 3) := by decide +kernel
theorem dX7_take_5 : decode cX7_take 5 = .ok (.iload_n 2, 1) := by decide +kernel
theorem dX7_take_6 : decode cX7_take 6 = .ok (.invokestatic 96, 3) := by decide +kernel
theorem dX7_take_9 : decode cX7_take 9 = .ok (.aload_n 0, 1) := by decide +kernel
theorem dX7_take_10 : decode cX7_take 10 = .ok (.getfield 10, 3) := by decide +kernel
theorem dX7_take_13 : decode cX7_take 13 = .ok (.iload_n 1, 1) := by decide +kernel
theorem dX7_take_14 : decode cX7_take 14 = .ok (.iload_n 2, 1) := by decide +kernel
theorem dX7_take_15 : decode cX7_take 15 = .ok (.invokevirtual 151, 3) := by decide +kernel
theorem dX7_take_18 : decode cX7_take 18 = .ok (.ifCond .ne 13, 3) := by decide +kernel
theorem dX7_take_21 : decode cX7_take 21 = .ok (.new 43, 3) := by decide +kernel
theorem dX7_take_24 : decode cX7_take 24 = .ok (.dup, 1) := by decide +kernel
theorem dX7_take_25 : decode cX7_take 25 = .ok (.ldc 154, 2) := by decide +kernel
theorem dX7_take_27 : decode cX7_take 27 = .ok (.invokespecial 47, 3) := by decide +kernel
theorem dX7_take_30 : decode cX7_take 30 = .ok (.athrow, 1) := by decide +kernel
theorem dX7_take_31 : decode cX7_take 31 = .ok (.aload_n 0, 1) := by decide +kernel
theorem dX7_take_32 : decode cX7_take 32 = .ok (.getfield 22, 3) := by decide +kernel
theorem dX7_take_35 : decode cX7_take 35 = .ok (.aload_n 0, 1) := by decide +kernel
theorem dX7_take_36 : decode cX7_take 36 = .ok (.getfield 10, 3) := by decide +kernel
theorem dX7_take_39 : decode cX7_take 39 = .ok (.invokevirtual 50, 3) := by decide +kernel
theorem dX7_take_42 : decode cX7_take 42 = .ok (.aload_n 0, 1) := by decide +kernel
theorem dX7_take_43 : decode cX7_take 43 = .ok (.getfield 10, 3) := by decide +kernel
theorem dX7_take_46 : decode cX7_take 46 = .ok (.iload_n 1, 1) := by decide +kernel
theorem dX7_take_47 : decode cX7_take 47 = .ok (.iload_n 2, 1) := by decide +kernel
theorem dX7_take_48 : decode cX7_take 48 = .ok (.invokevirtual 156, 3) := by decide +kernel
theorem dX7_take_51 : decode cX7_take 51 = .ok (.ireturn, 1) := by decide +kernel
theorem dX7_swap_0 : decode cX7_swap 0 = .ok (.aload_n 0, 1) := by decide +kernel
theorem dX7_swap_1 : decode cX7_swap 1 = .ok (.iload_n 1, 1) := by decide +kernel
theorem dX7_swap_2 : decode cX7_swap 2 = .ok (.invokevirtual 57, 3) := by decide +kernel
theorem dX7_swap_5 : decode cX7_swap 5 = .ok (.iload_n 2, 1) := by decide +kernel
theorem dX7_swap_6 : decode cX7_swap 6 = .ok (.invokestatic 96, 3) := by decide +kernel
theorem dX7_swap_9 : decode cX7_swap 9 = .ok (.iload_n 3, 1) := by decide +kernel
theorem dX7_swap_10 : decode cX7_swap 10 = .ok (.invokestatic 99, 3) := by decide +kernel
theorem dX7_swap_13 : decode cX7_swap 13 = .ok (.aload_n 0, 1) := by decide +kernel
theorem dX7_swap_14 : decode cX7_swap 14 = .ok (.getfield 10, 3) := by decide +kernel
theorem dX7_swap_17 : decode cX7_swap 17 = .ok (.iload_n 1, 1) := by decide +kernel
theorem dX7_swap_18 : decode cX7_swap 18 = .ok (.iload_n 2, 1) := by decide +kernel
theorem dX7_swap_19 : decode cX7_swap 19 = .ok (.invokevirtual 159, 3) := by decide +kernel
theorem dX7_swap_22 : decode cX7_swap 22 = .ok (.ifCond .ne 13, 3) := by decide +kernel
theorem dX7_swap_25 : decode cX7_swap 25 = .ok (.new 43, 3) := by decide +kernel
theorem dX7_swap_28 : decode cX7_swap 28 = .ok (.dup, 1) := by decide +kernel
theorem dX7_swap_29 : decode cX7_swap 29 = .ok (.ldc 162, 2) := by decide +kernel
theorem dX7_swap_31 : decode cX7_swap 31 = .ok (.invokespecial 47, 3) := by decide +kernel
theorem dX7_swap_34 : decode cX7_swap 34 = .ok (.athrow, 1) := by decide +kernel
theorem dX7_swap_35 : decode cX7_swap 35 = .ok (.aload_n 0, 1) := by decide +kernel
theorem dX7_swap_36 : decode cX7_swap 36 = .ok (.getfield 22, 3) := by decide +kernel
theorem dX7_swap_39 : decode cX7_swap 39 = .ok (.aload_n 0, 1) := by decide +kernel
theorem dX7_swap_40 : decode cX7_swap 40 = .ok (.getfield 10, 3) := by decide +kernel
theorem dX7_swap_43 : decode cX7_swap 43 = .ok (.invokevirtual 50, 3) := by decide +kernel
theorem dX7_swap_46 : decode cX7_swap 46 = .ok (.aload_n 0, 1) := by decide +kernel
theorem dX7_swap_47 : decode cX7_swap 47 = .ok (.getfield 10, 3) := by decide +kernel
theorem dX7_swap_50 : decode cX7_swap 50 = .ok (.iload_n 1, 1) := by decide +kernel
theorem dX7_swap_51 : decode cX7_swap 51 = .ok (.iload_n 2, 1) := by decide +kernel
theorem dX7_swap_52 : decode cX7_swap 52 = .ok (.iload_n 3, 1) := by decide +kernel
theorem dX7_swap_53 : decode cX7_swap 53 = .ok (.invokevirtual 164, 3) := by decide +kernel
theorem dX7_swap_56 : decode cX7_swap 56 = .ok (.ireturn, 1) := by decide +kernel
theorem dX7_rake_0 : decode cX7_rake 0 = .ok (.aload_n 0, 1) := by decide +kernel
theorem dX7_rake_1 : decode cX7_rake 1 = .ok (.iload_n 1, 1) := by decide +kernel
theorem dX7_rake_2 : decode cX7_rake 2 = .ok (.invokevirtual 57, 3) := by decide +kernel
theorem dX7_rake_5 : decode cX7_rake 5 = .ok (.aload_n 0, 1) := by decide +kernel
theorem dX7_rake_6 : decode cX7_rake 6 = .ok (.getfield 10, 3) := by decide +kernel
theorem dX7_rake_9 : decode cX7_rake 9 = .ok (.iload_n 1, 1) := by decide +kernel
theorem dX7_rake_10 : decode cX7_rake 10 = .ok (.invokevirtual 167, 3) := by decide +kernel
theorem dX7_rake_13 : decode cX7_rake 13 = .ok (.ifCond .ne 13, 3) := by decide +kernel
theorem dX7_rake_16 : decode cX7_rake 16 = .ok (.new 43, 3) := by decide +kernel
theorem dX7_rake_19 : decode cX7_rake 19 = .ok (.dup, 1) := by decide +kernel
theorem dX7_rake_20 : decode cX7_rake 20 = .ok (.ldc 170, 2) := by decide +kernel
theorem dX7_rake_22 : decode cX7_rake 22 = .ok (.invokespecial 47, 3) := by decide +kernel
theorem dX7_rake_25 : decode cX7_rake 25 = .ok (.athrow, 1) := by decide +kernel
theorem dX7_rake_26 : decode cX7_rake 26 = .ok (.aload_n 0, 1) := by decide +kernel
theorem dX7_rake_27 : decode cX7_rake 27 = .ok (.getfield 22, 3) := by decide +kernel
theorem dX7_rake_30 : decode cX7_rake 30 = .ok (.aload_n 0, 1) := by decide +kernel
theorem dX7_rake_31 : decode cX7_rake 31 = .ok (.getfield 10, 3) := by decide +kernel
theorem dX7_rake_34 : decode cX7_rake 34 = .ok (.invokevirtual 50, 3) := by decide +kernel
theorem dX7_rake_37 : decode cX7_rake 37 = .ok (.aload_n 0, 1) := by decide +kernel
theorem dX7_rake_38 : decode cX7_rake 38 = .ok (.getfield 10, 3) := by decide +kernel
theorem dX7_rake_41 : decode cX7_rake 41 = .ok (.iload_n 1, 1) := by decide +kernel
theorem dX7_rake_42 : decode cX7_rake 42 = .ok (.invokevirtual 172, 3) := by decide +kernel
theorem dX7_rake_45 : decode cX7_rake 45 = .ok (.ireturn, 1) := by decide +kernel
theorem dX7_set_0 : decode cX7_set 0 = .ok (.iload_n 1, 1) := by decide +kernel
theorem dX7_set_1 : decode cX7_set 1 = .ok (.invokestatic 175, 3) := by decide +kernel
theorem dX7_set_4 : decode cX7_set 4 = .ok (.iload_n 1, 1) := by decide +kernel
theorem dX7_set_5 : decode cX7_set 5 = .ok (.iload_n 2, 1) := by decide +kernel
theorem dX7_set_6 : decode cX7_set 6 = .ok (.invokestatic 178, 3) := by decide +kernel
theorem dX7_set_9 : decode cX7_set 9 = .ok (.ifCond .ne 13, 3) := by decide +kernel
theorem dX7_set_12 : decode cX7_set 12 = .ok (.new 181, 3) := by decide +kernel
theorem dX7_set_15 : decode cX7_set 15 = .ok (.dup, 1) := by decide +kernel
theorem dX7_set_16 : decode cX7_set 16 = .ok (.ldc 183, 2) := by decide +kernel
theorem dX7_set_18 : decode cX7_set 18 = .ok (.invokespecial 185, 3) := by decide +kernel
theorem dX7_set_21 : decode cX7_set 21 = .ok (.athrow, 1) := by decide +kernel
theorem dX7_set_22 : decode cX7_set 22 = .ok (.aload_n 0, 1) := by decide +kernel
theorem dX7_set_23 : decode cX7_set 23 = .ok (.getfield 22, 3) := by decide +kernel
theorem dX7_set_26 : decode cX7_set 26 = .ok (.aload_n 0, 1) := by decide +kernel
theorem dX7_set_27 : decode cX7_set 27 = .ok (.getfield 10, 3) := by decide +kernel
theorem dX7_set_30 : decode cX7_set 30 = .ok (.invokevirtual 50, 3) := by decide +kernel
theorem dX7_set_33 : decode cX7_set 33 = .ok (.aload_n 0, 1) := by decide +kernel
theorem dX7_set_34 : decode cX7_set 34 = .ok (.getfield 10, 3) := by decide +kernel
theorem dX7_set_37 : decode cX7_set 37 = .ok (.iload_n 1, 1) := by decide +kernel
theorem dX7_set_38 : decode cX7_set 38 = .ok (.iload_n 2, 1) := by decide +kernel
theorem dX7_set_39 : decode cX7_set 39 = .ok (.invokevirtual 186, 3) := by decide +kernel
theorem dX7_set_42 : decode cX7_set 42 = .ok (.ireturn, 1) := by decide +kernel
theorem dX7_append_0 : decode cX7_append 0 = .ok (.iload_n 1, 1) := by decide +kernel
theorem dX7_append_1 : decode cX7_append 1 = .ok (.bipush 33, 2) := by decide +kernel
theorem dX7_append_3 : decode cX7_append 3 = .ok (.if_icmp .lt 9, 3) := by decide +kernel
theorem dX7_append_6 : decode cX7_append 6 = .ok (.iload_n 1, 1) := by decide +kernel
theorem dX7_append_7 : decode cX7_append 7 = .ok (.bipush 126, 2) := by decide +kernel
theorem dX7_append_9 : decode cX7_append 9 = .ok (.if_icmp .le 13, 3) := by decide +kernel
theorem dX7_append_12 : decode cX7_append 12 = .ok (.new 181, 3) := by decide +kernel
theorem dX7_append_15 : decode cX7_append 15 = .ok (.dup, 1) := by decide +kernel
theorem dX7_append_16 : decode cX7_append 16 = .ok (.ldc 189, 2) := by decide +kernel
theorem dX7_append_18 : decode cX7_append 18 = .ok (.invokespecial 185, 3) := by decide +kernel
theorem dX7_append_21 : decode cX7_append 21 = .ok (.athrow, 1) := by decide +kernel
theorem dX7_append_22 : decode cX7_append 22 = .ok (.aload_n 0, 1) := by decide +kernel
theorem dX7_append_23 : decode cX7_append 23 = .ok (.getfield 29, 3) := by decide +kernel
theorem dX7_append_26 : decode cX7_append 26 = .ok (.invokevirtual 191, 3) := by decide +kernel
theorem dX7_append_29 : decode cX7_append 29 = .ok (.bipush 60, 2) := by decide +kernel
theorem dX7_append_31 : decode cX7_append 31 = .ok (.if_icmp .lt 13, 3) := by decide +kernel
theorem dX7_append_34 : decode cX7_append 34 = .ok (.new 43, 3) := by decide +kernel
theorem dX7_append_37 : decode cX7_append 37 = .ok (.dup, 1) := by decide +kernel
theorem dX7_append_38 : decode cX7_append 38 = .ok (.ldc 194, 2) := by decide +kernel
theorem dX7_append_40 : decode cX7_append 40 = .ok (.invokespecial 47, 3) := by decide +kernel
theorem dX7_append_43 : decode cX7_append 43 = .ok (.athrow, 1) := by decide +kernel
theorem dX7_append_44 : decode cX7_append 44 = .ok (.aload_n 0, 1) := by decide +kernel
theorem dX7_append_45 : decode cX7_append 45 = .ok (.getfield 29, 3) := by decide +kernel
theorem dX7_append_48 : decode cX7_append 48 = .ok (.iload_n 1, 1) := by decide +kernel
theorem dX7_append_49 : decode cX7_append 49 = .ok (.invokevirtual 196, 3) := by decide +kernel
theorem dX7_append_52 : decode cX7_append 52 = .ok (.ireturn, 1) := by decide +kernel
theorem dX7_clearBuffer_0 : decode cX7_clearBuffer 0 = .ok (.aload_n 0, 1) := by decide +kernel
theorem dX7_clearBuffer_1 : decode cX7_clearBuffer 1 = .ok (.getfield 29, 3) := by decide +kernel
theorem dX7_clearBuffer_4 : decode cX7_clearBuffer 4 = .ok (.invokevirtual 199, 3) := by decide +kernel
theorem dX7_clearBuffer_7 : decode cX7_clearBuffer 7 = .ok (.ireturn, 1) := by decide +kernel
theorem dX7_firstError_0 : decode cX7_firstError 0 = .ok (.aload_n 0, 1) := by decide +kernel
theorem dX7_firstError_1 : decode cX7_firstError 1 = .ok (.getfield 29, 3) := by decide +kernel
theorem dX7_firstError_4 : decode cX7_firstError 4 = .ok (.invokevirtual 202, 3) := by decide +kernel
theorem dX7_firstError_7 : decode cX7_firstError 7 = .ok (.ireturn, 1) := by decide +kernel
theorem dX7_obey_0 : decode cX7_obey 0 = .ok (.aload_n 0, 1) := by decide +kernel
theorem dX7_obey_1 : decode cX7_obey 1 = .ok (.getfield 29, 3) := by decide +kernel
theorem dX7_obey_4 : decode cX7_obey 4 = .ok (.invokevirtual 205, 3) := by decide +kernel
theorem dX7_obey_7 : decode cX7_obey 7 = .ok (.ifCond .ne 13, 3) := by decide +kernel
theorem dX7_obey_10 : decode cX7_obey 10 = .ok (.new 181, 3) := by decide +kernel
theorem dX7_obey_13 : decode cX7_obey 13 = .ok (.dup, 1) := by decide +kernel
theorem dX7_obey_14 : decode cX7_obey 14 = .ok (.ldc 208, 2) := by decide +kernel
theorem dX7_obey_16 : decode cX7_obey 16 = .ok (.invokespecial 185, 3) := by decide +kernel
theorem dX7_obey_19 : decode cX7_obey 19 = .ok (.athrow, 1) := by decide +kernel
theorem dX7_obey_20 : decode cX7_obey 20 = .ok (.aload_n 0, 1) := by decide +kernel
theorem dX7_obey_21 : decode cX7_obey 21 = .ok (.getfield 22, 3) := by decide +kernel
theorem dX7_obey_24 : decode cX7_obey 24 = .ok (.aload_n 0, 1) := by decide +kernel
theorem dX7_obey_25 : decode cX7_obey 25 = .ok (.getfield 10, 3) := by decide +kernel
theorem dX7_obey_28 : decode cX7_obey 28 = .ok (.invokevirtual 50, 3) := by decide +kernel
theorem dX7_obey_31 : decode cX7_obey 31 = .ok (.iconst 0, 1) := by decide +kernel
theorem dX7_obey_32 : decode cX7_obey 32 = .ok (.istore_n 1, 1) := by decide +kernel
theorem dX7_obey_33 : decode cX7_obey 33 = .ok (.iconst 0, 1) := by decide +kernel
theorem dX7_obey_34 : decode cX7_obey 34 = .ok (.istore_n 2, 1) := by decide +kernel
theorem dX7_obey_35 : decode cX7_obey 35 = .ok (.iload_n 2, 1) := by decide +kernel
theorem dX7_obey_36 : decode cX7_obey 36 = .ok (.aload_n 0, 1) := by decide +kernel
theorem dX7_obey_37 : decode cX7_obey 37 = .ok (.getfield 29, 3) := by decide +kernel
theorem dX7_obey_40 : decode cX7_obey 40 = .ok (.invokevirtual 191, 3) := by decide +kernel
theorem dX7_obey_43 : decode cX7_obey 43 = .ok (.if_icmp .ge 35, 3) := by decide +kernel
theorem dX7_obey_46 : decode cX7_obey 46 = .ok (.aload_n 0, 1) := by decide +kernel
theorem dX7_obey_47 : decode cX7_obey 47 = .ok (.getfield 29, 3) := by decide +kernel
theorem dX7_obey_50 : decode cX7_obey 50 = .ok (.iload_n 2, 1) := by decide +kernel
theorem dX7_obey_51 : decode cX7_obey 51 = .ok (.invokevirtual 210, 3) := by decide +kernel
theorem dX7_obey_54 : decode cX7_obey 54 = .ok (.ifCond .eq 18, 3) := by decide +kernel
theorem dX7_obey_57 : decode cX7_obey 57 = .ok (.aload_n 0, 1) := by decide +kernel
theorem dX7_obey_58 : decode cX7_obey 58 = .ok (.iload_n 2, 1) := by decide +kernel
theorem dX7_obey_59 : decode cX7_obey 59 = .ok (.invokevirtual 213, 3) := by decide +kernel
theorem dX7_obey_62 : decode cX7_obey 62 = .ok (.iconst (-1), 1) := by decide +kernel
theorem dX7_obey_63 : decode cX7_obey 63 = .ok (.if_icmp .ne 6, 3) := by decide +kernel
theorem dX7_obey_66 : decode cX7_obey 66 = .ok (.goto 12, 3) := by decide +kernel
theorem dX7_obey_69 : decode cX7_obey 69 = .ok (.iinc 1 1, 3) := by decide +kernel
theorem dX7_obey_72 : decode cX7_obey 72 = .ok (.iinc 2 1, 3) := by decide +kernel
theorem dX7_obey_75 : decode cX7_obey 75 = .ok (.goto (-40), 3) := by decide +kernel
theorem dX7_obey_78 : decode cX7_obey 78 = .ok (.aload_n 0, 1) := by decide +kernel
theorem dX7_obey_79 : decode cX7_obey 79 = .ok (.getfield 29, 3) := by decide +kernel
theorem dX7_obey_82 : decode cX7_obey 82 = .ok (.invokevirtual 199, 3) := by decide +kernel
theorem dX7_obey_85 : decode cX7_obey 85 = .ok (.pop, 1) := by decide +kernel
theorem dX7_obey_86 : decode cX7_obey 86 = .ok (.iload_n 1, 1) := by decide +kernel
theorem dX7_obey_87 : decode cX7_obey 87 = .ok (.ireturn, 1) := by decide +kernel
theorem dX7_keep_0 : decode cX7_keep 0 = .ok (.aload_n 0, 1) := by decide +kernel
theorem dX7_keep_1 : decode cX7_keep 1 = .ok (.getfield 16, 3) := by decide +kernel
theorem dX7_keep_4 : decode cX7_keep 4 = .ok (.aload_n 0, 1) := by decide +kernel
theorem dX7_keep_5 : decode cX7_keep 5 = .ok (.getfield 10, 3) := by decide +kernel
theorem dX7_keep_8 : decode cX7_keep 8 = .ok (.invokevirtual 216, 3) := by decide +kernel
theorem dX7_keep_11 : decode cX7_keep 11 = .ok (.aload_n 0, 1) := by decide +kernel
theorem dX7_keep_12 : decode cX7_keep 12 = .ok (.iconst 1, 1) := by decide +kernel
theorem dX7_keep_13 : decode cX7_keep 13 = .ok (.putfield 219, 3) := by decide +kernel
theorem dX7_keep_16 : decode cX7_keep 16 = .ok (.aload_n 0, 1) := by decide +kernel
theorem dX7_keep_17 : decode cX7_keep 17 = .ok (.getfield 10, 3) := by decide +kernel
theorem dX7_keep_20 : decode cX7_keep 20 = .ok (.getfield 223, 3) := by decide +kernel
theorem dX7_keep_23 : decode cX7_keep 23 = .ok (.ireturn, 1) := by decide +kernel
theorem dX7_goBack_0 : decode cX7_goBack 0 = .ok (.aload_n 0, 1) := by decide +kernel
theorem dX7_goBack_1 : decode cX7_goBack 1 = .ok (.getfield 219, 3) := by decide +kernel
theorem dX7_goBack_4 : decode cX7_goBack 4 = .ok (.ifCond .ne 13, 3) := by decide +kernel
theorem dX7_goBack_7 : decode cX7_goBack 7 = .ok (.new 43, 3) := by decide +kernel
theorem dX7_goBack_10 : decode cX7_goBack 10 = .ok (.dup, 1) := by decide +kernel
theorem dX7_goBack_11 : decode cX7_goBack 11 = .ok (.ldc 227, 2) := by decide +kernel
theorem dX7_goBack_13 : decode cX7_goBack 13 = .ok (.invokespecial 47, 3) := by decide +kernel
theorem dX7_goBack_16 : decode cX7_goBack 16 = .ok (.athrow, 1) := by decide +kernel
theorem dX7_goBack_17 : decode cX7_goBack 17 = .ok (.aload_n 0, 1) := by decide +kernel
theorem dX7_goBack_18 : decode cX7_goBack 18 = .ok (.getfield 22, 3) := by decide +kernel
theorem dX7_goBack_21 : decode cX7_goBack 21 = .ok (.aload_n 0, 1) := by decide +kernel
theorem dX7_goBack_22 : decode cX7_goBack 22 = .ok (.getfield 10, 3) := by decide +kernel
theorem dX7_goBack_25 : decode cX7_goBack 25 = .ok (.invokevirtual 50, 3) := by decide +kernel
theorem dX7_goBack_28 : decode cX7_goBack 28 = .ok (.aload_n 0, 1) := by decide +kernel
theorem dX7_goBack_29 : decode cX7_goBack 29 = .ok (.getfield 10, 3) := by decide +kernel
theorem dX7_goBack_32 : decode cX7_goBack 32 = .ok (.aload_n 0, 1) := by decide +kernel
theorem dX7_goBack_33 : decode cX7_goBack 33 = .ok (.getfield 16, 3) := by decide +kernel
theorem dX7_goBack_36 : decode cX7_goBack 36 = .ok (.invokevirtual 216, 3) := by decide +kernel
theorem dX7_goBack_39 : decode cX7_goBack 39 = .ok (.aload_n 0, 1) := by decide +kernel
theorem dX7_goBack_40 : decode cX7_goBack 40 = .ok (.getfield 10, 3) := by decide +kernel
theorem dX7_goBack_43 : decode cX7_goBack 43 = .ok (.getfield 223, 3) := by decide +kernel
theorem dX7_goBack_46 : decode cX7_goBack 46 = .ok (.ireturn, 1) := by decide +kernel
theorem dX7_undo_0 : decode cX7_undo 0 = .ok (.aload_n 0, 1) := by decide +kernel
theorem dX7_undo_1 : decode cX7_undo 1 = .ok (.getfield 22, 3) := by decide +kernel
theorem dX7_undo_4 : decode cX7_undo 4 = .ok (.invokevirtual 229, 3) := by decide +kernel
theorem dX7_undo_7 : decode cX7_undo 7 = .ok (.ifCond .ne 13, 3) := by decide +kernel
theorem dX7_undo_10 : decode cX7_undo 10 = .ok (.new 43, 3) := by decide +kernel
theorem dX7_undo_13 : decode cX7_undo 13 = .ok (.dup, 1) := by decide +kernel
theorem dX7_undo_14 : decode cX7_undo 14 = .ok (.ldc 230, 2) := by decide +kernel
theorem dX7_undo_16 : decode cX7_undo 16 = .ok (.invokespecial 47, 3) := by decide +kernel
theorem dX7_undo_19 : decode cX7_undo 19 = .ok (.athrow, 1) := by decide +kernel
theorem dX7_undo_20 : decode cX7_undo 20 = .ok (.aload_n 0, 1) := by decide +kernel
theorem dX7_undo_21 : decode cX7_undo 21 = .ok (.getfield 22, 3) := by decide +kernel
theorem dX7_undo_24 : decode cX7_undo 24 = .ok (.aload_n 0, 1) := by decide +kernel
theorem dX7_undo_25 : decode cX7_undo 25 = .ok (.getfield 10, 3) := by decide +kernel
theorem dX7_undo_28 : decode cX7_undo 28 = .ok (.invokevirtual 232, 3) := by decide +kernel
theorem dX7_undo_31 : decode cX7_undo 31 = .ok (.aload_n 0, 1) := by decide +kernel
theorem dX7_undo_32 : decode cX7_undo 32 = .ok (.getfield 22, 3) := by decide +kernel
theorem dX7_undo_35 : decode cX7_undo 35 = .ok (.invokevirtual 229, 3) := by decide +kernel
theorem dX7_undo_38 : decode cX7_undo 38 = .ok (.ireturn, 1) := by decide +kernel
theorem dX7_branch_0 : decode cX7_branch 0 = .ok (.iload_n 1, 1) := by decide +kernel
theorem dX7_branch_1 : decode cX7_branch 1 = .ok (.invokestatic 96, 3) := by decide +kernel
theorem dX7_branch_4 : decode cX7_branch 4 = .ok (.aload_n 0, 1) := by decide +kernel
theorem dX7_branch_5 : decode cX7_branch 5 = .ok (.getfield 10, 3) := by decide +kernel
theorem dX7_branch_8 : decode cX7_branch 8 = .ok (.getfield 107, 3) := by decide +kernel
theorem dX7_branch_11 : decode cX7_branch 11 = .ok (.getfield 235, 3) := by decide +kernel
theorem dX7_branch_14 : decode cX7_branch 14 = .ok (.iload_n 1, 1) := by decide +kernel
theorem dX7_branch_15 : decode cX7_branch 15 = .ok (.invokevirtual 239, 3) := by decide +kernel
theorem dX7_branch_18 : decode cX7_branch 18 = .ok (.ireturn, 1) := by decide +kernel
theorem dX7_leaf_0 : decode cX7_leaf 0 = .ok (.aload_n 0, 1) := by decide +kernel
theorem dX7_leaf_1 : decode cX7_leaf 1 = .ok (.iload_n 1, 1) := by decide +kernel
theorem dX7_leaf_2 : decode cX7_leaf 2 = .ok (.invokevirtual 244, 3) := by decide +kernel
theorem dX7_leaf_5 : decode cX7_leaf 5 = .ok (.iload_n 2, 1) := by decide +kernel
theorem dX7_leaf_6 : decode cX7_leaf 6 = .ok (.bipush 7, 2) := by decide +kernel
theorem dX7_leaf_8 : decode cX7_leaf 8 = .ok (.invokestatic 247, 3) := by decide +kernel
theorem dX7_leaf_11 : decode cX7_leaf 11 = .ok (.aload_n 0, 1) := by decide +kernel
theorem dX7_leaf_12 : decode cX7_leaf 12 = .ok (.getfield 10, 3) := by decide +kernel
theorem dX7_leaf_15 : decode cX7_leaf 15 = .ok (.iload_n 1, 1) := by decide +kernel
theorem dX7_leaf_16 : decode cX7_leaf 16 = .ok (.iload_n 2, 1) := by decide +kernel
theorem dX7_leaf_17 : decode cX7_leaf 17 = .ok (.invokevirtual 250, 3) := by decide +kernel
theorem dX7_leaf_20 : decode cX7_leaf 20 = .ok (.ireturn, 1) := by decide +kernel
theorem dX7_child_0 : decode cX7_child 0 = .ok (.aload_n 0, 1) := by decide +kernel
theorem dX7_child_1 : decode cX7_child 1 = .ok (.iload_n 1, 1) := by decide +kernel
theorem dX7_child_2 : decode cX7_child 2 = .ok (.invokevirtual 57, 3) := by decide +kernel
theorem dX7_child_5 : decode cX7_child 5 = .ok (.iload_n 2, 1) := by decide +kernel
theorem dX7_child_6 : decode cX7_child 6 = .ok (.bipush 7, 2) := by decide +kernel
theorem dX7_child_8 : decode cX7_child 8 = .ok (.invokestatic 247, 3) := by decide +kernel
theorem dX7_child_11 : decode cX7_child 11 = .ok (.aload_n 0, 1) := by decide +kernel
theorem dX7_child_12 : decode cX7_child 12 = .ok (.getfield 10, 3) := by decide +kernel
theorem dX7_child_15 : decode cX7_child 15 = .ok (.iload_n 1, 1) := by decide +kernel
theorem dX7_child_16 : decode cX7_child 16 = .ok (.iload_n 2, 1) := by decide +kernel
theorem dX7_child_17 : decode cX7_child 17 = .ok (.invokevirtual 253, 3) := by decide +kernel
theorem dX7_child_20 : decode cX7_child 20 = .ok (.ireturn, 1) := by decide +kernel
theorem dX7_hook_0 : decode cX7_hook 0 = .ok (.aload_n 0, 1) := by decide +kernel
theorem dX7_hook_1 : decode cX7_hook 1 = .ok (.iload_n 1, 1) := by decide +kernel
theorem dX7_hook_2 : decode cX7_hook 2 = .ok (.iload_n 2, 1) := by decide +kernel
theorem dX7_hook_3 : decode cX7_hook 3 = .ok (.invokevirtual 117, 3) := by decide +kernel
theorem dX7_hook_6 : decode cX7_hook 6 = .ok (.iload_n 3, 1) := by decide +kernel
theorem dX7_hook_7 : decode cX7_hook 7 = .ok (.iconst 2, 1) := by decide +kernel
theorem dX7_hook_8 : decode cX7_hook 8 = .ok (.invokestatic 247, 3) := by decide +kernel
theorem dX7_hook_11 : decode cX7_hook 11 = .ok (.aload_n 0, 1) := by decide +kernel
theorem dX7_hook_12 : decode cX7_hook 12 = .ok (.getfield 10, 3) := by decide +kernel
theorem dX7_hook_15 : decode cX7_hook 15 = .ok (.getfield 256, 3) := by decide +kernel
theorem dX7_hook_18 : decode cX7_hook 18 = .ok (.iload_n 1, 1) := by decide +kernel
theorem dX7_hook_19 : decode cX7_hook 19 = .ok (.iload_n 2, 1) := by decide +kernel
theorem dX7_hook_20 : decode cX7_hook 20 = .ok (.iload_n 3, 1) := by decide +kernel
theorem dX7_hook_21 : decode cX7_hook 21 = .ok (.invokevirtual 260, 3) := by decide +kernel
theorem dX7_hook_24 : decode cX7_hook 24 = .ok (.ireturn, 1) := by decide +kernel
theorem dX7_heap_0 : decode cX7_heap 0 = .ok (.aload_n 0, 1) := by decide +kernel
theorem dX7_heap_1 : decode cX7_heap 1 = .ok (.iload_n 1, 1) := by decide +kernel
theorem dX7_heap_2 : decode cX7_heap 2 = .ok (.invokevirtual 57, 3) := by decide +kernel
theorem dX7_heap_5 : decode cX7_heap 5 = .ok (.iload_n 2, 1) := by decide +kernel
theorem dX7_heap_6 : decode cX7_heap 6 = .ok (.ifCond .ge 14, 3) := by decide +kernel
theorem dX7_heap_9 : decode cX7_heap 9 = .ok (.new 181, 3) := by decide +kernel
theorem dX7_heap_12 : decode cX7_heap 12 = .ok (.dup, 1) := by decide +kernel
theorem dX7_heap_13 : decode cX7_heap 13 = .ok (.ldc_w 265, 3) := by decide +kernel
theorem dX7_heap_16 : decode cX7_heap 16 = .ok (.invokespecial 185, 3) := by decide +kernel
theorem dX7_heap_19 : decode cX7_heap 19 = .ok (.athrow, 1) := by decide +kernel
theorem dX7_heap_20 : decode cX7_heap 20 = .ok (.aload_n 0, 1) := by decide +kernel
theorem dX7_heap_21 : decode cX7_heap 21 = .ok (.getfield 10, 3) := by decide +kernel
theorem dX7_heap_24 : decode cX7_heap 24 = .ok (.getfield 33, 3) := by decide +kernel
theorem dX7_heap_27 : decode cX7_heap 27 = .ok (.iload_n 1, 1) := by decide +kernel
theorem dX7_heap_28 : decode cX7_heap 28 = .ok (.iload_n 2, 1) := by decide +kernel
theorem dX7_heap_29 : decode cX7_heap 29 = .ok (.invokevirtual 267, 3) := by decide +kernel
theorem dX7_heap_32 : decode cX7_heap 32 = .ok (.ireturn, 1) := by decide +kernel
theorem dX7_count_0 : decode cX7_count 0 = .ok (.iload_n 1, 1) := by decide +kernel
theorem dX7_count_1 : decode cX7_count 1 = .ok (.bipush 15, 2) := by decide +kernel
theorem dX7_count_3 : decode cX7_count 3 = .ok (.invokestatic 247, 3) := by decide +kernel
theorem dX7_count_6 : decode cX7_count 6 = .ok (.aload_n 0, 1) := by decide +kernel
theorem dX7_count_7 : decode cX7_count 7 = .ok (.iload_n 1, 1) := by decide +kernel
theorem dX7_count_8 : decode cX7_count 8 = .ok (.invokevirtual 270, 3) := by decide +kernel
theorem dX7_count_11 : decode cX7_count 11 = .ok (.ireturn, 1) := by decide +kernel
theorem dX7_setting_0 : decode cX7_setting 0 = .ok (.iload_n 1, 1) := by decide +kernel
theorem dX7_setting_1 : decode cX7_setting 1 = .ok (.invokestatic 175, 3) := by decide +kernel
theorem dX7_setting_4 : decode cX7_setting 4 = .ok (.aload_n 0, 1) := by decide +kernel
theorem dX7_setting_5 : decode cX7_setting 5 = .ok (.getfield 10, 3) := by decide +kernel
theorem dX7_setting_8 : decode cX7_setting 8 = .ok (.iload_n 1, 1) := by decide +kernel
theorem dX7_setting_9 : decode cX7_setting 9 = .ok (.invokevirtual 273, 3) := by decide +kernel
theorem dX7_setting_12 : decode cX7_setting 12 = .ok (.ireturn, 1) := by decide +kernel
theorem dX7_why_0 : decode cX7_why 0 = .ok (.aload_n 0, 1) := by decide +kernel
theorem dX7_why_1 : decode cX7_why 1 = .ok (.iload_n 1, 1) := by decide +kernel
theorem dX7_why_2 : decode cX7_why 2 = .ok (.invokevirtual 244, 3) := by decide +kernel
theorem dX7_why_5 : decode cX7_why 5 = .ok (.aload_n 0, 1) := by decide +kernel
theorem dX7_why_6 : decode cX7_why 6 = .ok (.getfield 10, 3) := by decide +kernel
theorem dX7_why_9 : decode cX7_why 9 = .ok (.iload_n 1, 1) := by decide +kernel
theorem dX7_why_10 : decode cX7_why 10 = .ok (.invokevirtual 276, 3) := by decide +kernel
theorem dX7_why_13 : decode cX7_why 13 = .ok (.ireturn, 1) := by decide +kernel
theorem dX7_ifRaked_0 : decode cX7_ifRaked 0 = .ok (.aload_n 0, 1) := by decide +kernel
theorem dX7_ifRaked_1 : decode cX7_ifRaked 1 = .ok (.iload_n 1, 1) := by decide +kernel
theorem dX7_ifRaked_2 : decode cX7_ifRaked 2 = .ok (.invokevirtual 57, 3) := by decide +kernel
theorem dX7_ifRaked_5 : decode cX7_ifRaked 5 = .ok (.iload_n 2, 1) := by decide +kernel
theorem dX7_ifRaked_6 : decode cX7_ifRaked 6 = .ok (.ifCond .eq 19, 3) := by decide +kernel
theorem dX7_ifRaked_9 : decode cX7_ifRaked 9 = .ok (.iload_n 2, 1) := by decide +kernel
theorem dX7_ifRaked_10 : decode cX7_ifRaked 10 = .ok (.iconst 1, 1) := by decide +kernel
theorem dX7_ifRaked_11 : decode cX7_ifRaked 11 = .ok (.if_icmp .eq 14, 3) := by decide +kernel
theorem dX7_ifRaked_14 : decode cX7_ifRaked 14 = .ok (.new 181, 3) := by decide +kernel
theorem dX7_ifRaked_17 : decode cX7_ifRaked 17 = .ok (.dup, 1) := by decide +kernel
theorem dX7_ifRaked_18 : decode cX7_ifRaked 18 = .ok (.ldc_w 279, 3) := by decide +kernel
theorem dX7_ifRaked_21 : decode cX7_ifRaked 21 = .ok (.invokespecial 185, 3) := by decide +kernel
theorem dX7_ifRaked_24 : decode cX7_ifRaked 24 = .ok (.athrow, 1) := by decide +kernel
theorem dX7_ifRaked_25 : decode cX7_ifRaked 25 = .ok (.aload_n 0, 1) := by decide +kernel
theorem dX7_ifRaked_26 : decode cX7_ifRaked 26 = .ok (.getfield 10, 3) := by decide +kernel
theorem dX7_ifRaked_29 : decode cX7_ifRaked 29 = .ok (.iload_n 1, 1) := by decide +kernel
theorem dX7_ifRaked_30 : decode cX7_ifRaked 30 = .ok (.iload_n 2, 1) := by decide +kernel
theorem dX7_ifRaked_31 : decode cX7_ifRaked 31 = .ok (.iconst (-1), 1) := by decide +kernel
theorem dX7_ifRaked_32 : decode cX7_ifRaked 32 = .ok (.invokevirtual 281, 3) := by decide +kernel
theorem dX7_ifRaked_35 : decode cX7_ifRaked 35 = .ok (.ireturn, 1) := by decide +kernel
theorem dX7_bestRake_0 : decode cX7_bestRake 0 = .ok (.aload_n 0, 1) := by decide +kernel
theorem dX7_bestRake_1 : decode cX7_bestRake 1 = .ok (.getfield 10, 3) := by decide +kernel
theorem dX7_bestRake_4 : decode cX7_bestRake 4 = .ok (.invokevirtual 284, 3) := by decide +kernel
theorem dX7_bestRake_7 : decode cX7_bestRake 7 = .ok (.ireturn, 1) := by decide +kernel
theorem dX7_ifLoosened_0 : decode cX7_ifLoosened 0 = .ok (.aload_n 0, 1) := by decide +kernel
theorem dX7_ifLoosened_1 : decode cX7_ifLoosened 1 = .ok (.iload_n 1, 1) := by decide +kernel
theorem dX7_ifLoosened_2 : decode cX7_ifLoosened 2 = .ok (.iload_n 2, 1) := by decide +kernel
theorem dX7_ifLoosened_3 : decode cX7_ifLoosened 3 = .ok (.invokevirtual 117, 3) := by decide +kernel
theorem dX7_ifLoosened_6 : decode cX7_ifLoosened 6 = .ok (.aload_n 0, 1) := by decide +kernel
theorem dX7_ifLoosened_7 : decode cX7_ifLoosened 7 = .ok (.getfield 10, 3) := by decide +kernel
theorem dX7_ifLoosened_10 : decode cX7_ifLoosened 10 = .ok (.iload_n 1, 1) := by decide +kernel
theorem dX7_ifLoosened_11 : decode cX7_ifLoosened 11 = .ok (.iload_n 2, 1) := by decide +kernel
theorem dX7_ifLoosened_12 : decode cX7_ifLoosened 12 = .ok (.invokevirtual 287, 3) := by decide +kernel
theorem dX7_ifLoosened_15 : decode cX7_ifLoosened 15 = .ok (.ireturn, 1) := by decide +kernel
theorem dX7_late_0 : decode cX7_late 0 = .ok (.aload_n 0, 1) := by decide +kernel
theorem dX7_late_1 : decode cX7_late 1 = .ok (.getfield 10, 3) := by decide +kernel
theorem dX7_late_4 : decode cX7_late 4 = .ok (.getfield 33, 3) := by decide +kernel
theorem dX7_late_7 : decode cX7_late 7 = .ok (.aload_n 0, 1) := by decide +kernel
theorem dX7_late_8 : decode cX7_late 8 = .ok (.getfield 10, 3) := by decide +kernel
theorem dX7_late_11 : decode cX7_late 11 = .ok (.getfield 223, 3) := by decide +kernel
theorem dX7_late_14 : decode cX7_late 14 = .ok (.invokevirtual 290, 3) := by decide +kernel
theorem dX7_late_17 : decode cX7_late 17 = .ok (.ireturn, 1) := by decide +kernel
theorem dX7_ifRested_0 : decode cX7_ifRested 0 = .ok (.aload_n 0, 1) := by decide +kernel
theorem dX7_ifRested_1 : decode cX7_ifRested 1 = .ok (.iload_n 1, 1) := by decide +kernel
theorem dX7_ifRested_2 : decode cX7_ifRested 2 = .ok (.invokevirtual 57, 3) := by decide +kernel
theorem dX7_ifRested_5 : decode cX7_ifRested 5 = .ok (.aload_n 0, 1) := by decide +kernel
theorem dX7_ifRested_6 : decode cX7_ifRested 6 = .ok (.getfield 10, 3) := by decide +kernel
theorem dX7_ifRested_9 : decode cX7_ifRested 9 = .ok (.iload_n 1, 1) := by decide +kernel
theorem dX7_ifRested_10 : decode cX7_ifRested 10 = .ok (.invokevirtual 293, 3) := by decide +kernel
theorem dX7_ifRested_13 : decode cX7_ifRested 13 = .ok (.ireturn, 1) := by decide +kernel
theorem dX7_ifAllRested_0 : decode cX7_ifAllRested 0 = .ok (.aload_n 0, 1) := by decide +kernel
theorem dX7_ifAllRested_1 : decode cX7_ifAllRested 1 = .ok (.getfield 10, 3) := by decide +kernel
theorem dX7_ifAllRested_4 : decode cX7_ifAllRested 4 = .ok (.invokevirtual 296, 3) := by decide +kernel
theorem dX7_ifAllRested_7 : decode cX7_ifAllRested 7 = .ok (.ireturn, 1) := by decide +kernel
theorem dX7_mostHeld_0 : decode cX7_mostHeld 0 = .ok (.aload_n 0, 1) := by decide +kernel
theorem dX7_mostHeld_1 : decode cX7_mostHeld 1 = .ok (.getfield 10, 3) := by decide +kernel
theorem dX7_mostHeld_4 : decode cX7_mostHeld 4 = .ok (.invokevirtual 299, 3) := by decide +kernel
theorem dX7_mostHeld_7 : decode cX7_mostHeld 7 = .ok (.ireturn, 1) := by decide +kernel
theorem dX7_burntShare_0 : decode cX7_burntShare 0 = .ok (.aload_n 0, 1) := by decide +kernel
theorem dX7_burntShare_1 : decode cX7_burntShare 1 = .ok (.getfield 10, 3) := by decide +kernel
theorem dX7_burntShare_4 : decode cX7_burntShare 4 = .ok (.getfield 107, 3) := by decide +kernel
theorem dX7_burntShare_7 : decode cX7_burntShare 7 = .ok (.iconst 2, 1) := by decide +kernel
theorem dX7_burntShare_8 : decode cX7_burntShare 8 = .ok (.invokevirtual 302, 3) := by decide +kernel
theorem dX7_burntShare_11 : decode cX7_burntShare 11 = .ok (.istore_n 1, 1) := by decide +kernel
theorem dX7_burntShare_12 : decode cX7_burntShare 12 = .ok (.iload_n 1, 1) := by decide +kernel
theorem dX7_burntShare_13 : decode cX7_burntShare 13 = .ok (.aload_n 0, 1) := by decide +kernel
theorem dX7_burntShare_14 : decode cX7_burntShare 14 = .ok (.getfield 10, 3) := by decide +kernel
theorem dX7_burntShare_17 : decode cX7_burntShare 17 = .ok (.getfield 107, 3) := by decide +kernel
theorem dX7_burntShare_20 : decode cX7_burntShare 20 = .ok (.iconst 1, 1) := by decide +kernel
theorem dX7_burntShare_21 : decode cX7_burntShare 21 = .ok (.invokevirtual 302, 3) := by decide +kernel
theorem dX7_burntShare_24 : decode cX7_burntShare 24 = .ok (.iadd, 1) := by decide +kernel
theorem dX7_burntShare_25 : decode cX7_burntShare 25 = .ok (.istore_n 2, 1) := by decide +kernel
theorem dX7_burntShare_26 : decode cX7_burntShare 26 = .ok (.iload_n 2, 1) := by decide +kernel
theorem dX7_burntShare_27 : decode cX7_burntShare 27 = .ok (.ifCond .ne 7, 3) := by decide +kernel
theorem dX7_burntShare_30 : decode cX7_burntShare 30 = .ok (.dconst 1, 1) := by decide +kernel
theorem dX7_burntShare_31 : decode cX7_burntShare 31 = .ok (.goto 8, 3) := by decide +kernel
theorem dX7_burntShare_34 : decode cX7_burntShare 34 = .ok (.iload_n 1, 1) := by decide +kernel
theorem dX7_burntShare_35 : decode cX7_burntShare 35 = .ok (.i2d, 1) := by decide +kernel
theorem dX7_burntShare_36 : decode cX7_burntShare 36 = .ok (.iload_n 2, 1) := by decide +kernel
theorem dX7_burntShare_37 : decode cX7_burntShare 37 = .ok (.i2d, 1) := by decide +kernel
theorem dX7_burntShare_38 : decode cX7_burntShare 38 = .ok (.ddiv, 1) := by decide +kernel
theorem dX7_burntShare_39 : decode cX7_burntShare 39 = .ok (.dreturn, 1) := by decide +kernel
theorem dX7_fullness_0 : decode cX7_fullness 0 = .ok (.aload_n 0, 1) := by decide +kernel
theorem dX7_fullness_1 : decode cX7_fullness 1 = .ok (.getfield 10, 3) := by decide +kernel
theorem dX7_fullness_4 : decode cX7_fullness 4 = .ok (.getfield 305, 3) := by decide +kernel
theorem dX7_fullness_7 : decode cX7_fullness 7 = .ok (.aload_n 0, 1) := by decide +kernel
theorem dX7_fullness_8 : decode cX7_fullness 8 = .ok (.getfield 10, 3) := by decide +kernel
theorem dX7_fullness_11 : decode cX7_fullness 11 = .ok (.getfield 33, 3) := by decide +kernel
theorem dX7_fullness_14 : decode cX7_fullness 14 = .ok (.invokevirtual 61, 3) := by decide +kernel
theorem dX7_fullness_17 : decode cX7_fullness 17 = .ok (.imul, 1) := by decide +kernel
theorem dX7_fullness_18 : decode cX7_fullness 18 = .ok (.istore_n 1, 1) := by decide +kernel
theorem dX7_fullness_19 : decode cX7_fullness 19 = .ok (.iload_n 1, 1) := by decide +kernel
theorem dX7_fullness_20 : decode cX7_fullness 20 = .ok (.ifCond .gt 7, 3) := by decide +kernel
theorem dX7_fullness_23 : decode cX7_fullness 23 = .ok (.fconst 0, 1) := by decide +kernel
theorem dX7_fullness_24 : decode cX7_fullness 24 = .ok (.goto 18, 3) := by decide +kernel
theorem dX7_fullness_27 : decode cX7_fullness 27 = .ok (.aload_n 0, 1) := by decide +kernel
theorem dX7_fullness_28 : decode cX7_fullness 28 = .ok (.getfield 10, 3) := by decide +kernel
theorem dX7_fullness_31 : decode cX7_fullness 31 = .ok (.getfield 107, 3) := by decide +kernel
theorem dX7_fullness_34 : decode cX7_fullness 34 = .ok (.iconst 1, 1) := by decide +kernel
theorem dX7_fullness_35 : decode cX7_fullness 35 = .ok (.invokevirtual 302, 3) := by decide +kernel
theorem dX7_fullness_38 : decode cX7_fullness 38 = .ok (.i2f, 1) := by decide +kernel
theorem dX7_fullness_39 : decode cX7_fullness 39 = .ok (.iload_n 1, 1) := by decide +kernel
theorem dX7_fullness_40 : decode cX7_fullness 40 = .ok (.i2f, 1) := by decide +kernel
theorem dX7_fullness_41 : decode cX7_fullness 41 = .ok (.fdiv, 1) := by decide +kernel
theorem dX7_fullness_42 : decode cX7_fullness 42 = .ok (.freturn, 1) := by decide +kernel
theorem dX7_digest_0 : decode cX7_digest 0 = .ok (.ldc2_w 308, 3) := by decide +kernel
theorem dX7_digest_3 : decode cX7_digest 3 = .ok (.lstore_n 1, 1) := by decide +kernel
theorem dX7_digest_4 : decode cX7_digest 4 = .ok (.iconst 0, 1) := by decide +kernel
theorem dX7_digest_5 : decode cX7_digest 5 = .ok (.istore_n 3, 1) := by decide +kernel
theorem dX7_digest_6 : decode cX7_digest 6 = .ok (.iload_n 3, 1) := by decide +kernel
theorem dX7_digest_7 : decode cX7_digest 7 = .ok (.bipush 15, 2) := by decide +kernel
theorem dX7_digest_9 : decode cX7_digest 9 = .ok (.if_icmp .gt 20, 3) := by decide +kernel
theorem dX7_digest_12 : decode cX7_digest 12 = .ok (.lload_n 1, 1) := by decide +kernel
theorem dX7_digest_13 : decode cX7_digest 13 = .ok (.aload_n 0, 1) := by decide +kernel
theorem dX7_digest_14 : decode cX7_digest 14 = .ok (.iload_n 3, 1) := by decide +kernel
theorem dX7_digest_15 : decode cX7_digest 15 = .ok (.invokevirtual 270, 3) := by decide +kernel
theorem dX7_digest_18 : decode cX7_digest 18 = .ok (.i2l, 1) := by decide +kernel
theorem dX7_digest_19 : decode cX7_digest 19 = .ok (.invokestatic 310, 3) := by decide +kernel
theorem dX7_digest_22 : decode cX7_digest 22 = .ok (.lstore_n 1, 1) := by decide +kernel
theorem dX7_digest_23 : decode cX7_digest 23 = .ok (.iinc 3 1, 3) := by decide +kernel
theorem dX7_digest_26 : decode cX7_digest 26 = .ok (.goto (-20), 3) := by decide +kernel
theorem dX7_digest_29 : decode cX7_digest 29 = .ok (.iconst 0, 1) := by decide +kernel
theorem dX7_digest_30 : decode cX7_digest 30 = .ok (.istore_n 3, 1) := by decide +kernel
theorem dX7_digest_31 : decode cX7_digest 31 = .ok (.iload_n 3, 1) := by decide +kernel
theorem dX7_digest_32 : decode cX7_digest 32 = .ok (.iconst 2, 1) := by decide +kernel
theorem dX7_digest_33 : decode cX7_digest 33 = .ok (.if_icmp .ge 23, 3) := by decide +kernel
theorem dX7_digest_36 : decode cX7_digest 36 = .ok (.lload_n 1, 1) := by decide +kernel
theorem dX7_digest_37 : decode cX7_digest 37 = .ok (.aload_n 0, 1) := by decide +kernel
theorem dX7_digest_38 : decode cX7_digest 38 = .ok (.getfield 10, 3) := by decide +kernel
theorem dX7_digest_41 : decode cX7_digest 41 = .ok (.iload_n 3, 1) := by decide +kernel
theorem dX7_digest_42 : decode cX7_digest 42 = .ok (.invokevirtual 273, 3) := by decide +kernel
theorem dX7_digest_45 : decode cX7_digest 45 = .ok (.i2l, 1) := by decide +kernel
theorem dX7_digest_46 : decode cX7_digest 46 = .ok (.invokestatic 310, 3) := by decide +kernel
theorem dX7_digest_49 : decode cX7_digest 49 = .ok (.lstore_n 1, 1) := by decide +kernel
theorem dX7_digest_50 : decode cX7_digest 50 = .ok (.iinc 3 1, 3) := by decide +kernel
theorem dX7_digest_53 : decode cX7_digest 53 = .ok (.goto (-22), 3) := by decide +kernel
theorem dX7_digest_56 : decode cX7_digest 56 = .ok (.iconst 0, 1) := by decide +kernel
theorem dX7_digest_57 : decode cX7_digest 57 = .ok (.istore_n 3, 1) := by decide +kernel
theorem dX7_digest_58 : decode cX7_digest 58 = .ok (.iload_n 3, 1) := by decide +kernel
theorem dX7_digest_59 : decode cX7_digest 59 = .ok (.bipush 12, 2) := by decide +kernel
theorem dX7_digest_61 : decode cX7_digest 61 = .ok (.if_icmp .ge 29, 3) := by decide +kernel
theorem dX7_digest_64 : decode cX7_digest 64 = .ok (.lload_n 1, 1) := by decide +kernel
theorem dX7_digest_65 : decode cX7_digest 65 = .ok (.aload_n 0, 1) := by decide +kernel
theorem dX7_digest_66 : decode cX7_digest 66 = .ok (.getfield 10, 3) := by decide +kernel
theorem dX7_digest_69 : decode cX7_digest 69 = .ok (.getfield 107, 3) := by decide +kernel
theorem dX7_digest_72 : decode cX7_digest 72 = .ok (.getfield 235, 3) := by decide +kernel
theorem dX7_digest_75 : decode cX7_digest 75 = .ok (.iload_n 3, 1) := by decide +kernel
theorem dX7_digest_76 : decode cX7_digest 76 = .ok (.invokevirtual 239, 3) := by decide +kernel
theorem dX7_digest_79 : decode cX7_digest 79 = .ok (.i2l, 1) := by decide +kernel
theorem dX7_digest_80 : decode cX7_digest 80 = .ok (.invokestatic 310, 3) := by decide +kernel
theorem dX7_digest_83 : decode cX7_digest 83 = .ok (.lstore_n 1, 1) := by decide +kernel
theorem dX7_digest_84 : decode cX7_digest 84 = .ok (.iinc 3 1, 3) := by decide +kernel
theorem dX7_digest_87 : decode cX7_digest 87 = .ok (.goto (-29), 3) := by decide +kernel
theorem dX7_digest_90 : decode cX7_digest 90 = .ok (.iconst 0, 1) := by decide +kernel
theorem dX7_digest_91 : decode cX7_digest 91 = .ok (.istore_n 3, 1) := by decide +kernel
theorem dX7_digest_92 : decode cX7_digest 92 = .ok (.iload_n 3, 1) := by decide +kernel
theorem dX7_digest_93 : decode cX7_digest 93 = .ok (.aload_n 0, 1) := by decide +kernel
theorem dX7_digest_94 : decode cX7_digest 94 = .ok (.getfield 10, 3) := by decide +kernel
theorem dX7_digest_97 : decode cX7_digest 97 = .ok (.getfield 107, 3) := by decide +kernel
theorem dX7_digest_100 : decode cX7_digest 100 = .ok (.getfield 314, 3) := by decide +kernel
theorem dX7_digest_103 : decode cX7_digest 103 = .ok (.if_icmp .ge 22, 3) := by decide +kernel
theorem dX7_digest_106 : decode cX7_digest 106 = .ok (.iload_n 3, 1) := by decide +kernel
theorem dX7_digest_107 : decode cX7_digest 107 = .ok (.bipush 120, 2) := by decide +kernel
theorem dX7_digest_109 : decode cX7_digest 109 = .ok (.if_icmp .ge 16, 3) := by decide +kernel
theorem dX7_digest_112 : decode cX7_digest 112 = .ok (.aload_n 0, 1) := by decide +kernel
theorem dX7_digest_113 : decode cX7_digest 113 = .ok (.lload_n 1, 1) := by decide +kernel
theorem dX7_digest_114 : decode cX7_digest 114 = .ok (.iload_n 3, 1) := by decide +kernel
theorem dX7_digest_115 : decode cX7_digest 115 = .ok (.invokevirtual 317, 3) := by decide +kernel
theorem dX7_digest_118 : decode cX7_digest 118 = .ok (.lstore_n 1, 1) := by decide +kernel
theorem dX7_digest_119 : decode cX7_digest 119 = .ok (.iinc 3 1, 3) := by decide +kernel
theorem dX7_digest_122 : decode cX7_digest 122 = .ok (.goto (-30), 3) := by decide +kernel
theorem dX7_digest_125 : decode cX7_digest 125 = .ok (.iconst 0, 1) := by decide +kernel
theorem dX7_digest_126 : decode cX7_digest 126 = .ok (.istore_n 3, 1) := by decide +kernel
theorem dX7_digest_127 : decode cX7_digest 127 = .ok (.iload_n 3, 1) := by decide +kernel
theorem dX7_digest_128 : decode cX7_digest 128 = .ok (.iconst 5, 1) := by decide +kernel
theorem dX7_digest_129 : decode cX7_digest 129 = .ok (.if_icmp .ge 30, 3) := by decide +kernel
theorem dX7_digest_132 : decode cX7_digest 132 = .ok (.aload_n 0, 1) := by decide +kernel
theorem dX7_digest_133 : decode cX7_digest 133 = .ok (.getfield 10, 3) := by decide +kernel
theorem dX7_digest_136 : decode cX7_digest 136 = .ok (.getfield 33, 3) := by decide +kernel
theorem dX7_digest_139 : decode cX7_digest 139 = .ok (.iload_n 3, 1) := by decide +kernel
theorem dX7_digest_140 : decode cX7_digest 140 = .ok (.invokevirtual 321, 3) := by decide +kernel
theorem dX7_digest_143 : decode cX7_digest 143 = .ok (.ifCond .eq 10, 3) := by decide +kernel
theorem dX7_digest_146 : decode cX7_digest 146 = .ok (.aload_n 0, 1) := by decide +kernel
theorem dX7_digest_147 : decode cX7_digest 147 = .ok (.lload_n 1, 1) := by decide +kernel
theorem dX7_digest_148 : decode cX7_digest 148 = .ok (.iload_n 3, 1) := by decide +kernel
theorem dX7_digest_149 : decode cX7_digest 149 = .ok (.invokevirtual 324, 3) := by decide +kernel
theorem dX7_digest_152 : decode cX7_digest 152 = .ok (.lstore_n 1, 1) := by decide +kernel
theorem dX7_digest_153 : decode cX7_digest 153 = .ok (.iinc 3 1, 3) := by decide +kernel
theorem dX7_digest_156 : decode cX7_digest 156 = .ok (.goto (-29), 3) := by decide +kernel
theorem dX7_digest_159 : decode cX7_digest 159 = .ok (.lload_n 1, 1) := by decide +kernel
theorem dX7_digest_160 : decode cX7_digest 160 = .ok (.aload_n 0, 1) := by decide +kernel
theorem dX7_digest_161 : decode cX7_digest 161 = .ok (.getfield 10, 3) := by decide +kernel
theorem dX7_digest_164 : decode cX7_digest 164 = .ok (.invokevirtual 284, 3) := by decide +kernel
theorem dX7_digest_167 : decode cX7_digest 167 = .ok (.i2l, 1) := by decide +kernel
theorem dX7_digest_168 : decode cX7_digest 168 = .ok (.invokestatic 310, 3) := by decide +kernel
theorem dX7_digest_171 : decode cX7_digest 171 = .ok (.lstore_n 1, 1) := by decide +kernel
theorem dX7_digest_172 : decode cX7_digest 172 = .ok (.lload_n 1, 1) := by decide +kernel
theorem dX7_digest_173 : decode cX7_digest 173 = .ok (.aload_n 0, 1) := by decide +kernel
theorem dX7_digest_174 : decode cX7_digest 174 = .ok (.getfield 10, 3) := by decide +kernel
theorem dX7_digest_177 : decode cX7_digest 177 = .ok (.getfield 33, 3) := by decide +kernel
theorem dX7_digest_180 : decode cX7_digest 180 = .ok (.aload_n 0, 1) := by decide +kernel
theorem dX7_digest_181 : decode cX7_digest 181 = .ok (.getfield 10, 3) := by decide +kernel
theorem dX7_digest_184 : decode cX7_digest 184 = .ok (.getfield 223, 3) := by decide +kernel
theorem dX7_digest_187 : decode cX7_digest 187 = .ok (.invokevirtual 290, 3) := by decide +kernel
theorem dX7_digest_190 : decode cX7_digest 190 = .ok (.i2l, 1) := by decide +kernel
theorem dX7_digest_191 : decode cX7_digest 191 = .ok (.invokestatic 310, 3) := by decide +kernel
theorem dX7_digest_194 : decode cX7_digest 194 = .ok (.lstore_n 1, 1) := by decide +kernel
theorem dX7_digest_195 : decode cX7_digest 195 = .ok (.lload_n 1, 1) := by decide +kernel
theorem dX7_digest_196 : decode cX7_digest 196 = .ok (.aload_n 0, 1) := by decide +kernel
theorem dX7_digest_197 : decode cX7_digest 197 = .ok (.getfield 10, 3) := by decide +kernel
theorem dX7_digest_200 : decode cX7_digest 200 = .ok (.invokevirtual 296, 3) := by decide +kernel
theorem dX7_digest_203 : decode cX7_digest 203 = .ok (.i2l, 1) := by decide +kernel
theorem dX7_digest_204 : decode cX7_digest 204 = .ok (.invokestatic 310, 3) := by decide +kernel
theorem dX7_digest_207 : decode cX7_digest 207 = .ok (.lstore_n 1, 1) := by decide +kernel
theorem dX7_digest_208 : decode cX7_digest 208 = .ok (.lload_n 1, 1) := by decide +kernel
theorem dX7_digest_209 : decode cX7_digest 209 = .ok (.aload_n 0, 1) := by decide +kernel
theorem dX7_digest_210 : decode cX7_digest 210 = .ok (.getfield 10, 3) := by decide +kernel
theorem dX7_digest_213 : decode cX7_digest 213 = .ok (.invokevirtual 299, 3) := by decide +kernel
theorem dX7_digest_216 : decode cX7_digest 216 = .ok (.i2l, 1) := by decide +kernel
theorem dX7_digest_217 : decode cX7_digest 217 = .ok (.invokestatic 310, 3) := by decide +kernel
theorem dX7_digest_220 : decode cX7_digest 220 = .ok (.lstore_n 1, 1) := by decide +kernel
theorem dX7_digest_221 : decode cX7_digest 221 = .ok (.lload_n 1, 1) := by decide +kernel
theorem dX7_digest_222 : decode cX7_digest 222 = .ok (.aload_n 0, 1) := by decide +kernel
theorem dX7_digest_223 : decode cX7_digest 223 = .ok (.invokevirtual 327, 3) := by decide +kernel
theorem dX7_digest_226 : decode cX7_digest 226 = .ok (.bipush 52, 2) := by decide +kernel
theorem dX7_digest_228 : decode cX7_digest 228 = .ok (.sipush 1023, 3) := by decide +kernel
theorem dX7_digest_231 : decode cX7_digest 231 = .ok (.invokestatic 331, 3) := by decide +kernel
theorem dX7_digest_234 : decode cX7_digest 234 = .ok (.invokestatic 310, 3) := by decide +kernel
theorem dX7_digest_237 : decode cX7_digest 237 = .ok (.lstore_n 1, 1) := by decide +kernel
theorem dX7_digest_238 : decode cX7_digest 238 = .ok (.lload_n 1, 1) := by decide +kernel
theorem dX7_digest_239 : decode cX7_digest 239 = .ok (.aload_n 0, 1) := by decide +kernel
theorem dX7_digest_240 : decode cX7_digest 240 = .ok (.invokevirtual 335, 3) := by decide +kernel
theorem dX7_digest_243 : decode cX7_digest 243 = .ok (.f2d, 1) := by decide +kernel
theorem dX7_digest_244 : decode cX7_digest 244 = .ok (.bipush 23, 2) := by decide +kernel
theorem dX7_digest_246 : decode cX7_digest 246 = .ok (.bipush 127, 2) := by decide +kernel
theorem dX7_digest_248 : decode cX7_digest 248 = .ok (.invokestatic 331, 3) := by decide +kernel
theorem dX7_digest_251 : decode cX7_digest 251 = .ok (.invokestatic 310, 3) := by decide +kernel
theorem dX7_digest_254 : decode cX7_digest 254 = .ok (.lstore_n 1, 1) := by decide +kernel
theorem dX7_digest_255 : decode cX7_digest 255 = .ok (.lload_n 1, 1) := by decide +kernel
theorem dX7_digest_256 : decode cX7_digest 256 = .ok (.aload_n 0, 1) := by decide +kernel
theorem dX7_digest_257 : decode cX7_digest 257 = .ok (.getfield 219, 3) := by decide +kernel
theorem dX7_digest_260 : decode cX7_digest 260 = .ok (.ifCond .eq 7, 3) := by decide +kernel
theorem dX7_digest_263 : decode cX7_digest 263 = .ok (.lconst 1, 1) := by decide +kernel
theorem dX7_digest_264 : decode cX7_digest 264 = .ok (.goto 4, 3) := by decide +kernel
theorem dX7_digest_267 : decode cX7_digest 267 = .ok (.lconst 0, 1) := by decide +kernel
theorem dX7_digest_268 : decode cX7_digest 268 = .ok (.invokestatic 310, 3) := by decide +kernel
theorem dX7_digest_271 : decode cX7_digest 271 = .ok (.lstore_n 1, 1) := by decide +kernel
theorem dX7_digest_272 : decode cX7_digest 272 = .ok (.aload_n 0, 1) := by decide +kernel
theorem dX7_digest_273 : decode cX7_digest 273 = .ok (.lload_n 1, 1) := by decide +kernel
theorem dX7_digest_274 : decode cX7_digest 274 = .ok (.invokevirtual 339, 3) := by decide +kernel
theorem dX7_digest_277 : decode cX7_digest 277 = .ok (.lreturn, 1) := by decide +kernel
theorem dX7_needChild_0 : decode cX7_needChild 0 = .ok (.aload_n 0, 1) := by decide +kernel
theorem dX7_needChild_1 : decode cX7_needChild 1 = .ok (.getfield 10, 3) := by decide +kernel
theorem dX7_needChild_4 : decode cX7_needChild 4 = .ok (.getfield 33, 3) := by decide +kernel
theorem dX7_needChild_7 : decode cX7_needChild 7 = .ok (.iload_n 1, 1) := by decide +kernel
theorem dX7_needChild_8 : decode cX7_needChild 8 = .ok (.invokevirtual 321, 3) := by decide +kernel
theorem dX7_needChild_11 : decode cX7_needChild 11 = .ok (.ifCond .ne 14, 3) := by decide +kernel
theorem dX7_needChild_14 : decode cX7_needChild 14 = .ok (.new 343, 3) := by decide +kernel
theorem dX7_needChild_17 : decode cX7_needChild 17 = .ok (.dup, 1) := by decide +kernel
theorem dX7_needChild_18 : decode cX7_needChild 18 = .ok (.ldc_w 345, 3) := by decide +kernel
theorem dX7_needChild_21 : decode cX7_needChild 21 = .ok (.invokespecial 347, 3) := by decide +kernel
theorem dX7_needChild_24 : decode cX7_needChild 24 = .ok (.athrow, 1) := by decide +kernel
theorem dX7_needChild_25 : decode cX7_needChild 25 = .ok (.return_, 1) := by decide +kernel
theorem dX7_needHook_0 : decode cX7_needHook 0 = .ok (.aload_n 0, 1) := by decide +kernel
theorem dX7_needHook_1 : decode cX7_needHook 1 = .ok (.iload_n 1, 1) := by decide +kernel
theorem dX7_needHook_2 : decode cX7_needHook 2 = .ok (.invokevirtual 57, 3) := by decide +kernel
theorem dX7_needHook_5 : decode cX7_needHook 5 = .ok (.iload_n 2, 1) := by decide +kernel
theorem dX7_needHook_6 : decode cX7_needHook 6 = .ok (.ifCond .lt 8, 3) := by decide +kernel
theorem dX7_needHook_9 : decode cX7_needHook 9 = .ok (.iload_n 2, 1) := by decide +kernel
theorem dX7_needHook_10 : decode cX7_needHook 10 = .ok (.iconst 3, 1) := by decide +kernel
theorem dX7_needHook_11 : decode cX7_needHook 11 = .ok (.if_icmp .lt 14, 3) := by decide +kernel
theorem dX7_needHook_14 : decode cX7_needHook 14 = .ok (.new 343, 3) := by decide +kernel
theorem dX7_needHook_17 : decode cX7_needHook 17 = .ok (.dup, 1) := by decide +kernel
theorem dX7_needHook_18 : decode cX7_needHook 18 = .ok (.ldc_w 348, 3) := by decide +kernel
theorem dX7_needHook_21 : decode cX7_needHook 21 = .ok (.invokespecial 347, 3) := by decide +kernel
theorem dX7_needHook_24 : decode cX7_needHook 24 = .ok (.athrow, 1) := by decide +kernel
theorem dX7_needHook_25 : decode cX7_needHook 25 = .ok (.return_, 1) := by decide +kernel
theorem dX7_needLeaf_0 : decode cX7_needLeaf 0 = .ok (.iload_n 1, 1) := by decide +kernel
theorem dX7_needLeaf_1 : decode cX7_needLeaf 1 = .ok (.ifCond .lt 17, 3) := by decide +kernel
theorem dX7_needLeaf_4 : decode cX7_needLeaf 4 = .ok (.iload_n 1, 1) := by decide +kernel
theorem dX7_needLeaf_5 : decode cX7_needLeaf 5 = .ok (.aload_n 0, 1) := by decide +kernel
theorem dX7_needLeaf_6 : decode cX7_needLeaf 6 = .ok (.getfield 10, 3) := by decide +kernel
theorem dX7_needLeaf_9 : decode cX7_needLeaf 9 = .ok (.getfield 107, 3) := by decide +kernel
theorem dX7_needLeaf_12 : decode cX7_needLeaf 12 = .ok (.getfield 314, 3) := by decide +kernel
theorem dX7_needLeaf_15 : decode cX7_needLeaf 15 = .ok (.if_icmp .lt 14, 3) := by decide +kernel
theorem dX7_needLeaf_18 : decode cX7_needLeaf 18 = .ok (.new 343, 3) := by decide +kernel
theorem dX7_needLeaf_21 : decode cX7_needLeaf 21 = .ok (.dup, 1) := by decide +kernel
theorem dX7_needLeaf_22 : decode cX7_needLeaf 22 = .ok (.ldc_w 350, 3) := by decide +kernel
theorem dX7_needLeaf_25 : decode cX7_needLeaf 25 = .ok (.invokespecial 347, 3) := by decide +kernel
theorem dX7_needLeaf_28 : decode cX7_needLeaf 28 = .ok (.athrow, 1) := by decide +kernel
theorem dX7_needLeaf_29 : decode cX7_needLeaf 29 = .ok (.return_, 1) := by decide +kernel
theorem dX7_needBranch_0 : decode cX7_needBranch 0 = .ok (.iload_n 0, 1) := by decide +kernel
theorem dX7_needBranch_1 : decode cX7_needBranch 1 = .ok (.ifCond .lt 9, 3) := by decide +kernel
theorem dX7_needBranch_4 : decode cX7_needBranch 4 = .ok (.iload_n 0, 1) := by decide +kernel
theorem dX7_needBranch_5 : decode cX7_needBranch 5 = .ok (.bipush 12, 2) := by decide +kernel
theorem dX7_needBranch_7 : decode cX7_needBranch 7 = .ok (.if_icmp .lt 14, 3) := by decide +kernel
theorem dX7_needBranch_10 : decode cX7_needBranch 10 = .ok (.new 343, 3) := by decide +kernel
theorem dX7_needBranch_13 : decode cX7_needBranch 13 = .ok (.dup, 1) := by decide +kernel
theorem dX7_needBranch_14 : decode cX7_needBranch 14 = .ok (.ldc_w 352, 3) := by decide +kernel
theorem dX7_needBranch_17 : decode cX7_needBranch 17 = .ok (.invokespecial 347, 3) := by decide +kernel
theorem dX7_needBranch_20 : decode cX7_needBranch 20 = .ok (.athrow, 1) := by decide +kernel
theorem dX7_needBranch_21 : decode cX7_needBranch 21 = .ok (.return_, 1) := by decide +kernel
theorem dX7_needSetting_0 : decode cX7_needSetting 0 = .ok (.iload_n 0, 1) := by decide +kernel
theorem dX7_needSetting_1 : decode cX7_needSetting 1 = .ok (.ifCond .lt 8, 3) := by decide +kernel
theorem dX7_needSetting_4 : decode cX7_needSetting 4 = .ok (.iload_n 0, 1) := by decide +kernel
theorem dX7_needSetting_5 : decode cX7_needSetting 5 = .ok (.iconst 2, 1) := by decide +kernel
theorem dX7_needSetting_6 : decode cX7_needSetting 6 = .ok (.if_icmp .lt 14, 3) := by decide +kernel
theorem dX7_needSetting_9 : decode cX7_needSetting 9 = .ok (.new 343, 3) := by decide +kernel
theorem dX7_needSetting_12 : decode cX7_needSetting 12 = .ok (.dup, 1) := by decide +kernel
theorem dX7_needSetting_13 : decode cX7_needSetting 13 = .ok (.ldc_w 354, 3) := by decide +kernel
theorem dX7_needSetting_16 : decode cX7_needSetting 16 = .ok (.invokespecial 347, 3) := by decide +kernel
theorem dX7_needSetting_19 : decode cX7_needSetting 19 = .ok (.athrow, 1) := by decide +kernel
theorem dX7_needSetting_20 : decode cX7_needSetting 20 = .ok (.return_, 1) := by decide +kernel
theorem dX7_needColour_0 : decode cX7_needColour 0 = .ok (.iload_n 0, 1) := by decide +kernel
theorem dX7_needColour_1 : decode cX7_needColour 1 = .ok (.ifCond .lt 9, 3) := by decide +kernel
theorem dX7_needColour_4 : decode cX7_needColour 4 = .ok (.iload_n 0, 1) := by decide +kernel
theorem dX7_needColour_5 : decode cX7_needColour 5 = .ok (.bipush 10, 2) := by decide +kernel
theorem dX7_needColour_7 : decode cX7_needColour 7 = .ok (.if_icmp .lt 14, 3) := by decide +kernel
theorem dX7_needColour_10 : decode cX7_needColour 10 = .ok (.new 181, 3) := by decide +kernel
theorem dX7_needColour_13 : decode cX7_needColour 13 = .ok (.dup, 1) := by decide +kernel
theorem dX7_needColour_14 : decode cX7_needColour 14 = .ok (.ldc_w 356, 3) := by decide +kernel
theorem dX7_needColour_17 : decode cX7_needColour 17 = .ok (.invokespecial 185, 3) := by decide +kernel
theorem dX7_needColour_20 : decode cX7_needColour 20 = .ok (.athrow, 1) := by decide +kernel
theorem dX7_needColour_21 : decode cX7_needColour 21 = .ok (.return_, 1) := by decide +kernel
theorem dX7_needWhat_0 : decode cX7_needWhat 0 = .ok (.iload_n 0, 1) := by decide +kernel
theorem dX7_needWhat_1 : decode cX7_needWhat 1 = .ok (.ifCond .lt 8, 3) := by decide +kernel
theorem dX7_needWhat_4 : decode cX7_needWhat 4 = .ok (.iload_n 0, 1) := by decide +kernel
theorem dX7_needWhat_5 : decode cX7_needWhat 5 = .ok (.iload_n 1, 1) := by decide +kernel
theorem dX7_needWhat_6 : decode cX7_needWhat 6 = .ok (.if_icmp .le 14, 3) := by decide +kernel
theorem dX7_needWhat_9 : decode cX7_needWhat 9 = .ok (.new 181, 3) := by decide +kernel
theorem dX7_needWhat_12 : decode cX7_needWhat 12 = .ok (.dup, 1) := by decide +kernel
theorem dX7_needWhat_13 : decode cX7_needWhat 13 = .ok (.ldc_w 358, 3) := by decide +kernel
theorem dX7_needWhat_16 : decode cX7_needWhat 16 = .ok (.invokespecial 185, 3) := by decide +kernel
theorem dX7_needWhat_19 : decode cX7_needWhat 19 = .ok (.athrow, 1) := by decide +kernel
theorem dX7_needWhat_20 : decode cX7_needWhat 20 = .ok (.return_, 1) := by decide +kernel
theorem dX7_isValueOf_0 : decode cX7_isValueOf 0 = .ok (.iload_n 0, 1) := by decide +kernel
theorem dX7_isValueOf_1 : decode cX7_isValueOf 1 = .ok (.ifCond .ne 20, 3) := by decide +kernel
theorem dX7_isValueOf_4 : decode cX7_isValueOf 4 = .ok (.iload_n 1, 1) := by decide +kernel
theorem dX7_isValueOf_5 : decode cX7_isValueOf 5 = .ok (.iconst 1, 1) := by decide +kernel
theorem dX7_isValueOf_6 : decode cX7_isValueOf 6 = .ok (.if_icmp .lt 13, 3) := by decide +kernel
theorem dX7_isValueOf_9 : decode cX7_isValueOf 9 = .ok (.iload_n 1, 1) := by decide +kernel
theorem dX7_isValueOf_10 : decode cX7_isValueOf 10 = .ok (.bipush 20, 2) := by decide +kernel
theorem dX7_isValueOf_12 : decode cX7_isValueOf 12 = .ok (.if_icmp .gt 7, 3) := by decide +kernel
theorem dX7_isValueOf_15 : decode cX7_isValueOf 15 = .ok (.iconst 1, 1) := by decide +kernel
theorem dX7_isValueOf_16 : decode cX7_isValueOf 16 = .ok (.goto 4, 3) := by decide +kernel
theorem dX7_isValueOf_19 : decode cX7_isValueOf 19 = .ok (.iconst 0, 1) := by decide +kernel
theorem dX7_isValueOf_20 : decode cX7_isValueOf 20 = .ok (.ireturn, 1) := by decide +kernel
theorem dX7_isValueOf_21 : decode cX7_isValueOf 21 = .ok (.iload_n 1, 1) := by decide +kernel
theorem dX7_isValueOf_22 : decode cX7_isValueOf 22 = .ok (.ifCond .eq 8, 3) := by decide +kernel
theorem dX7_isValueOf_25 : decode cX7_isValueOf 25 = .ok (.iload_n 1, 1) := by decide +kernel
theorem dX7_isValueOf_26 : decode cX7_isValueOf 26 = .ok (.iconst 1, 1) := by decide +kernel
theorem dX7_isValueOf_27 : decode cX7_isValueOf 27 = .ok (.if_icmp .ne 7, 3) := by decide +kernel
theorem dX7_isValueOf_30 : decode cX7_isValueOf 30 = .ok (.iconst 1, 1) := by decide +kernel
theorem dX7_isValueOf_31 : decode cX7_isValueOf 31 = .ok (.goto 4, 3) := by decide +kernel
theorem dX7_isValueOf_34 : decode cX7_isValueOf 34 = .ok (.iconst 0, 1) := by decide +kernel
theorem dX7_isValueOf_35 : decode cX7_isValueOf 35 = .ok (.ireturn, 1) := by decide +kernel
theorem dX7_carryOut_0 : decode cX7_carryOut 0 = .ok (.aload_n 0, 1) := by decide +kernel
theorem dX7_carryOut_1 : decode cX7_carryOut 1 = .ok (.getfield 29, 3) := by decide +kernel
theorem dX7_carryOut_4 : decode cX7_carryOut 4 = .ok (.iload_n 1, 1) := by decide +kernel
theorem dX7_carryOut_5 : decode cX7_carryOut 5 = .ok (.iconst 1, 1) := by decide +kernel
theorem dX7_carryOut_6 : decode cX7_carryOut 6 = .ok (.iadd, 1) := by decide +kernel
theorem dX7_carryOut_7 : decode cX7_carryOut 7 = .ok (.invokevirtual 360, 3) := by decide +kernel
theorem dX7_carryOut_10 : decode cX7_carryOut 10 = .ok (.istore_n 2, 1) := by decide +kernel
theorem dX7_carryOut_11 : decode cX7_carryOut 11 = .ok (.aload_n 0, 1) := by decide +kernel
theorem dX7_carryOut_12 : decode cX7_carryOut 12 = .ok (.getfield 29, 3) := by decide +kernel
theorem dX7_carryOut_15 : decode cX7_carryOut 15 = .ok (.iload_n 1, 1) := by decide +kernel
theorem dX7_carryOut_16 : decode cX7_carryOut 16 = .ok (.iconst 2, 1) := by decide +kernel
theorem dX7_carryOut_17 : decode cX7_carryOut 17 = .ok (.iadd, 1) := by decide +kernel
theorem dX7_carryOut_18 : decode cX7_carryOut 18 = .ok (.invokevirtual 360, 3) := by decide +kernel
theorem dX7_carryOut_21 : decode cX7_carryOut 21 = .ok (.istore_n 3, 1) := by decide +kernel
theorem dX7_carryOut_22 : decode cX7_carryOut 22 = .ok (.aload_n 0, 1) := by decide +kernel
theorem dX7_carryOut_23 : decode cX7_carryOut 23 = .ok (.getfield 29, 3) := by decide +kernel
theorem dX7_carryOut_26 : decode cX7_carryOut 26 = .ok (.iload_n 1, 1) := by decide +kernel
theorem dX7_carryOut_27 : decode cX7_carryOut 27 = .ok (.iconst 2, 1) := by decide +kernel
theorem dX7_carryOut_28 : decode cX7_carryOut 28 = .ok (.iadd, 1) := by decide +kernel
theorem dX7_carryOut_29 : decode cX7_carryOut 29 = .ok (.invokevirtual 363, 3) := by decide +kernel
theorem dX7_carryOut_32 : decode cX7_carryOut 32 = .ok (.istore 4, 2) := by decide +kernel
theorem dX7_carryOut_34 : decode cX7_carryOut 34 = .ok (.aload_n 0, 1) := by decide +kernel
theorem dX7_carryOut_35 : decode cX7_carryOut 35 = .ok (.getfield 29, 3) := by decide +kernel
theorem dX7_carryOut_38 : decode cX7_carryOut 38 = .ok (.iload_n 1, 1) := by decide +kernel
theorem dX7_carryOut_39 : decode cX7_carryOut 39 = .ok (.invokevirtual 366, 3) := by decide +kernel
theorem dX7_carryOut_42 : decode cX7_carryOut 42 = .ok (.tableswitch 385 101 122 #[102, 385, 310, 385, 385, 385, 361, 385, 385, 150, 385, 192, 385, 385, 385, 244, 385, 385, 272, 218, 385, 126], 102) := by decide +kernel
theorem dX7_carryOut_144 : decode cX7_carryOut 144 = .ok (.aload_n 0, 1) := by decide +kernel
theorem dX7_carryOut_145 : decode cX7_carryOut 145 = .ok (.getfield 10, 3) := by decide +kernel
theorem dX7_carryOut_148 : decode cX7_carryOut 148 = .ok (.iload_n 2, 1) := by decide +kernel
theorem dX7_carryOut_149 : decode cX7_carryOut 149 = .ok (.invokevirtual 70, 3) := by decide +kernel
theorem dX7_carryOut_152 : decode cX7_carryOut 152 = .ok (.ifCond .eq 14, 3) := by decide +kernel
theorem dX7_carryOut_155 : decode cX7_carryOut 155 = .ok (.aload_n 0, 1) := by decide +kernel
theorem dX7_carryOut_156 : decode cX7_carryOut 156 = .ok (.getfield 10, 3) := by decide +kernel
theorem dX7_carryOut_159 : decode cX7_carryOut 159 = .ok (.iload_n 2, 1) := by decide +kernel
theorem dX7_carryOut_160 : decode cX7_carryOut 160 = .ok (.invokevirtual 76, 3) := by decide +kernel
theorem dX7_carryOut_163 : decode cX7_carryOut 163 = .ok (.goto 4, 3) := by decide +kernel
theorem dX7_carryOut_166 : decode cX7_carryOut 166 = .ok (.iconst (-1), 1) := by decide +kernel
theorem dX7_carryOut_167 : decode cX7_carryOut 167 = .ok (.ireturn, 1) := by decide +kernel
theorem dX7_carryOut_168 : decode cX7_carryOut 168 = .ok (.aload_n 0, 1) := by decide +kernel
theorem dX7_carryOut_169 : decode cX7_carryOut 169 = .ok (.getfield 10, 3) := by decide +kernel
theorem dX7_carryOut_172 : decode cX7_carryOut 172 = .ok (.iload_n 2, 1) := by decide +kernel
theorem dX7_carryOut_173 : decode cX7_carryOut 173 = .ok (.invokevirtual 79, 3) := by decide +kernel
theorem dX7_carryOut_176 : decode cX7_carryOut 176 = .ok (.ifCond .eq 14, 3) := by decide +kernel
theorem dX7_carryOut_179 : decode cX7_carryOut 179 = .ok (.aload_n 0, 1) := by decide +kernel
theorem dX7_carryOut_180 : decode cX7_carryOut 180 = .ok (.getfield 10, 3) := by decide +kernel
theorem dX7_carryOut_183 : decode cX7_carryOut 183 = .ok (.iload_n 2, 1) := by decide +kernel
theorem dX7_carryOut_184 : decode cX7_carryOut 184 = .ok (.invokevirtual 84, 3) := by decide +kernel
theorem dX7_carryOut_187 : decode cX7_carryOut 187 = .ok (.goto 4, 3) := by decide +kernel
theorem dX7_carryOut_190 : decode cX7_carryOut 190 = .ok (.iconst (-1), 1) := by decide +kernel
theorem dX7_carryOut_191 : decode cX7_carryOut 191 = .ok (.ireturn, 1) := by decide +kernel
theorem dX7_carryOut_192 : decode cX7_carryOut 192 = .ok (.aload_n 0, 1) := by decide +kernel
theorem dX7_carryOut_193 : decode cX7_carryOut 193 = .ok (.getfield 29, 3) := by decide +kernel
theorem dX7_carryOut_196 : decode cX7_carryOut 196 = .ok (.iload_n 1, 1) := by decide +kernel
theorem dX7_carryOut_197 : decode cX7_carryOut 197 = .ok (.iconst 3, 1) := by decide +kernel
theorem dX7_carryOut_198 : decode cX7_carryOut 198 = .ok (.iadd, 1) := by decide +kernel
theorem dX7_carryOut_199 : decode cX7_carryOut 199 = .ok (.invokevirtual 363, 3) := by decide +kernel
theorem dX7_carryOut_202 : decode cX7_carryOut 202 = .ok (.istore 4, 2) := by decide +kernel
theorem dX7_carryOut_204 : decode cX7_carryOut 204 = .ok (.aload_n 0, 1) := by decide +kernel
theorem dX7_carryOut_205 : decode cX7_carryOut 205 = .ok (.getfield 10, 3) := by decide +kernel
theorem dX7_carryOut_208 : decode cX7_carryOut 208 = .ok (.iload_n 2, 1) := by decide +kernel
theorem dX7_carryOut_209 : decode cX7_carryOut 209 = .ok (.iload_n 3, 1) := by decide +kernel
theorem dX7_carryOut_210 : decode cX7_carryOut 210 = .ok (.iload 4, 2) := by decide +kernel
theorem dX7_carryOut_212 : decode cX7_carryOut 212 = .ok (.invokevirtual 121, 3) := by decide +kernel
theorem dX7_carryOut_215 : decode cX7_carryOut 215 = .ok (.ifCond .eq 17, 3) := by decide +kernel
theorem dX7_carryOut_218 : decode cX7_carryOut 218 = .ok (.aload_n 0, 1) := by decide +kernel
theorem dX7_carryOut_219 : decode cX7_carryOut 219 = .ok (.getfield 10, 3) := by decide +kernel
theorem dX7_carryOut_222 : decode cX7_carryOut 222 = .ok (.iload_n 2, 1) := by decide +kernel
theorem dX7_carryOut_223 : decode cX7_carryOut 223 = .ok (.iload_n 3, 1) := by decide +kernel
theorem dX7_carryOut_224 : decode cX7_carryOut 224 = .ok (.iload 4, 2) := by decide +kernel
theorem dX7_carryOut_226 : decode cX7_carryOut 226 = .ok (.invokevirtual 127, 3) := by decide +kernel
theorem dX7_carryOut_229 : decode cX7_carryOut 229 = .ok (.goto 4, 3) := by decide +kernel
theorem dX7_carryOut_232 : decode cX7_carryOut 232 = .ok (.iconst (-1), 1) := by decide +kernel
theorem dX7_carryOut_233 : decode cX7_carryOut 233 = .ok (.ireturn, 1) := by decide +kernel
theorem dX7_carryOut_234 : decode cX7_carryOut 234 = .ok (.aload_n 0, 1) := by decide +kernel
theorem dX7_carryOut_235 : decode cX7_carryOut 235 = .ok (.getfield 10, 3) := by decide +kernel
theorem dX7_carryOut_238 : decode cX7_carryOut 238 = .ok (.iload_n 2, 1) := by decide +kernel
theorem dX7_carryOut_239 : decode cX7_carryOut 239 = .ok (.iload_n 3, 1) := by decide +kernel
theorem dX7_carryOut_240 : decode cX7_carryOut 240 = .ok (.invokevirtual 131, 3) := by decide +kernel
theorem dX7_carryOut_243 : decode cX7_carryOut 243 = .ok (.ifCond .eq 15, 3) := by decide +kernel
theorem dX7_carryOut_246 : decode cX7_carryOut 246 = .ok (.aload_n 0, 1) := by decide +kernel
theorem dX7_carryOut_247 : decode cX7_carryOut 247 = .ok (.getfield 10, 3) := by decide +kernel
theorem dX7_carryOut_250 : decode cX7_carryOut 250 = .ok (.iload_n 2, 1) := by decide +kernel
theorem dX7_carryOut_251 : decode cX7_carryOut 251 = .ok (.iload_n 3, 1) := by decide +kernel
theorem dX7_carryOut_252 : decode cX7_carryOut 252 = .ok (.invokevirtual 137, 3) := by decide +kernel
theorem dX7_carryOut_255 : decode cX7_carryOut 255 = .ok (.goto 4, 3) := by decide +kernel
theorem dX7_carryOut_258 : decode cX7_carryOut 258 = .ok (.iconst (-1), 1) := by decide +kernel
theorem dX7_carryOut_259 : decode cX7_carryOut 259 = .ok (.ireturn, 1) := by decide +kernel
theorem dX7_carryOut_260 : decode cX7_carryOut 260 = .ok (.aload_n 0, 1) := by decide +kernel
theorem dX7_carryOut_261 : decode cX7_carryOut 261 = .ok (.getfield 10, 3) := by decide +kernel
theorem dX7_carryOut_264 : decode cX7_carryOut 264 = .ok (.iload_n 2, 1) := by decide +kernel
theorem dX7_carryOut_265 : decode cX7_carryOut 265 = .ok (.iload_n 3, 1) := by decide +kernel
theorem dX7_carryOut_266 : decode cX7_carryOut 266 = .ok (.invokevirtual 140, 3) := by decide +kernel
theorem dX7_carryOut_269 : decode cX7_carryOut 269 = .ok (.ifCond .eq 15, 3) := by decide +kernel
theorem dX7_carryOut_272 : decode cX7_carryOut 272 = .ok (.aload_n 0, 1) := by decide +kernel
theorem dX7_carryOut_273 : decode cX7_carryOut 273 = .ok (.getfield 10, 3) := by decide +kernel
theorem dX7_carryOut_276 : decode cX7_carryOut 276 = .ok (.iload_n 2, 1) := by decide +kernel
theorem dX7_carryOut_277 : decode cX7_carryOut 277 = .ok (.iload_n 3, 1) := by decide +kernel
theorem dX7_carryOut_278 : decode cX7_carryOut 278 = .ok (.invokevirtual 145, 3) := by decide +kernel
theorem dX7_carryOut_281 : decode cX7_carryOut 281 = .ok (.goto 4, 3) := by decide +kernel
theorem dX7_carryOut_284 : decode cX7_carryOut 284 = .ok (.iconst (-1), 1) := by decide +kernel
theorem dX7_carryOut_285 : decode cX7_carryOut 285 = .ok (.ireturn, 1) := by decide +kernel
theorem dX7_carryOut_286 : decode cX7_carryOut 286 = .ok (.aload_n 0, 1) := by decide +kernel
theorem dX7_carryOut_287 : decode cX7_carryOut 287 = .ok (.getfield 10, 3) := by decide +kernel
theorem dX7_carryOut_290 : decode cX7_carryOut 290 = .ok (.iload_n 2, 1) := by decide +kernel
theorem dX7_carryOut_291 : decode cX7_carryOut 291 = .ok (.iload 4, 2) := by decide +kernel
theorem dX7_carryOut_293 : decode cX7_carryOut 293 = .ok (.invokevirtual 151, 3) := by decide +kernel
theorem dX7_carryOut_296 : decode cX7_carryOut 296 = .ok (.ifCond .eq 16, 3) := by decide +kernel
theorem dX7_carryOut_299 : decode cX7_carryOut 299 = .ok (.aload_n 0, 1) := by decide +kernel
theorem dX7_carryOut_300 : decode cX7_carryOut 300 = .ok (.getfield 10, 3) := by decide +kernel
theorem dX7_carryOut_303 : decode cX7_carryOut 303 = .ok (.iload_n 2, 1) := by decide +kernel
theorem dX7_carryOut_304 : decode cX7_carryOut 304 = .ok (.iload 4, 2) := by decide +kernel
theorem dX7_carryOut_306 : decode cX7_carryOut 306 = .ok (.invokevirtual 156, 3) := by decide +kernel
theorem dX7_carryOut_309 : decode cX7_carryOut 309 = .ok (.goto 4, 3) := by decide +kernel
theorem dX7_carryOut_312 : decode cX7_carryOut 312 = .ok (.iconst (-1), 1) := by decide +kernel
theorem dX7_carryOut_313 : decode cX7_carryOut 313 = .ok (.ireturn, 1) := by decide +kernel
theorem dX7_carryOut_314 : decode cX7_carryOut 314 = .ok (.aload_n 0, 1) := by decide +kernel
theorem dX7_carryOut_315 : decode cX7_carryOut 315 = .ok (.getfield 10, 3) := by decide +kernel
theorem dX7_carryOut_318 : decode cX7_carryOut 318 = .ok (.iload_n 2, 1) := by decide +kernel
theorem dX7_carryOut_319 : decode cX7_carryOut 319 = .ok (.iload 4, 2) := by decide +kernel
theorem dX7_carryOut_321 : decode cX7_carryOut 321 = .ok (.invokevirtual 159, 3) := by decide +kernel
theorem dX7_carryOut_324 : decode cX7_carryOut 324 = .ok (.ifCond .eq 26, 3) := by decide +kernel
theorem dX7_carryOut_327 : decode cX7_carryOut 327 = .ok (.aload_n 0, 1) := by decide +kernel
theorem dX7_carryOut_328 : decode cX7_carryOut 328 = .ok (.getfield 10, 3) := by decide +kernel
theorem dX7_carryOut_331 : decode cX7_carryOut 331 = .ok (.iload_n 2, 1) := by decide +kernel
theorem dX7_carryOut_332 : decode cX7_carryOut 332 = .ok (.iload 4, 2) := by decide +kernel
theorem dX7_carryOut_334 : decode cX7_carryOut 334 = .ok (.aload_n 0, 1) := by decide +kernel
theorem dX7_carryOut_335 : decode cX7_carryOut 335 = .ok (.getfield 29, 3) := by decide +kernel
theorem dX7_carryOut_338 : decode cX7_carryOut 338 = .ok (.iload_n 1, 1) := by decide +kernel
theorem dX7_carryOut_339 : decode cX7_carryOut 339 = .ok (.iconst 3, 1) := by decide +kernel
theorem dX7_carryOut_340 : decode cX7_carryOut 340 = .ok (.iadd, 1) := by decide +kernel
theorem dX7_carryOut_341 : decode cX7_carryOut 341 = .ok (.invokevirtual 360, 3) := by decide +kernel
theorem dX7_carryOut_344 : decode cX7_carryOut 344 = .ok (.invokevirtual 164, 3) := by decide +kernel
theorem dX7_carryOut_347 : decode cX7_carryOut 347 = .ok (.goto 4, 3) := by decide +kernel
theorem dX7_carryOut_350 : decode cX7_carryOut 350 = .ok (.iconst (-1), 1) := by decide +kernel
theorem dX7_carryOut_351 : decode cX7_carryOut 351 = .ok (.ireturn, 1) := by decide +kernel
theorem dX7_carryOut_352 : decode cX7_carryOut 352 = .ok (.aload_n 0, 1) := by decide +kernel
theorem dX7_carryOut_353 : decode cX7_carryOut 353 = .ok (.getfield 29, 3) := by decide +kernel
theorem dX7_carryOut_356 : decode cX7_carryOut 356 = .ok (.iload_n 1, 1) := by decide +kernel
theorem dX7_carryOut_357 : decode cX7_carryOut 357 = .ok (.iconst 1, 1) := by decide +kernel
theorem dX7_carryOut_358 : decode cX7_carryOut 358 = .ok (.iadd, 1) := by decide +kernel
theorem dX7_carryOut_359 : decode cX7_carryOut 359 = .ok (.invokevirtual 363, 3) := by decide +kernel
theorem dX7_carryOut_362 : decode cX7_carryOut 362 = .ok (.istore 4, 2) := by decide +kernel
theorem dX7_carryOut_364 : decode cX7_carryOut 364 = .ok (.aload_n 0, 1) := by decide +kernel
theorem dX7_carryOut_365 : decode cX7_carryOut 365 = .ok (.getfield 10, 3) := by decide +kernel
theorem dX7_carryOut_368 : decode cX7_carryOut 368 = .ok (.iload 4, 2) := by decide +kernel
theorem dX7_carryOut_370 : decode cX7_carryOut 370 = .ok (.invokevirtual 102, 3) := by decide +kernel
theorem dX7_carryOut_373 : decode cX7_carryOut 373 = .ok (.ifCond .eq 28, 3) := by decide +kernel
theorem dX7_carryOut_376 : decode cX7_carryOut 376 = .ok (.aload_n 0, 1) := by decide +kernel
theorem dX7_carryOut_377 : decode cX7_carryOut 377 = .ok (.getfield 10, 3) := by decide +kernel
theorem dX7_carryOut_380 : decode cX7_carryOut 380 = .ok (.getfield 107, 3) := by decide +kernel
theorem dX7_carryOut_383 : decode cX7_carryOut 383 = .ok (.iload 4, 2) := by decide +kernel
theorem dX7_carryOut_385 : decode cX7_carryOut 385 = .ok (.aload_n 0, 1) := by decide +kernel
theorem dX7_carryOut_386 : decode cX7_carryOut 386 = .ok (.getfield 29, 3) := by decide +kernel
theorem dX7_carryOut_389 : decode cX7_carryOut 389 = .ok (.iload_n 1, 1) := by decide +kernel
theorem dX7_carryOut_390 : decode cX7_carryOut 390 = .ok (.iconst 2, 1) := by decide +kernel
theorem dX7_carryOut_391 : decode cX7_carryOut 391 = .ok (.iadd, 1) := by decide +kernel
theorem dX7_carryOut_392 : decode cX7_carryOut 392 = .ok (.invokevirtual 360, 3) := by decide +kernel
theorem dX7_carryOut_395 : decode cX7_carryOut 395 = .ok (.invokevirtual 111, 3) := by decide +kernel
theorem dX7_carryOut_398 : decode cX7_carryOut 398 = .ok (.goto 4, 3) := by decide +kernel
theorem dX7_carryOut_401 : decode cX7_carryOut 401 = .ok (.iconst (-1), 1) := by decide +kernel
theorem dX7_carryOut_402 : decode cX7_carryOut 402 = .ok (.ireturn, 1) := by decide +kernel
theorem dX7_carryOut_403 : decode cX7_carryOut 403 = .ok (.aload_n 0, 1) := by decide +kernel
theorem dX7_carryOut_404 : decode cX7_carryOut 404 = .ok (.getfield 10, 3) := by decide +kernel
theorem dX7_carryOut_407 : decode cX7_carryOut 407 = .ok (.iload_n 2, 1) := by decide +kernel
theorem dX7_carryOut_408 : decode cX7_carryOut 408 = .ok (.invokevirtual 167, 3) := by decide +kernel
theorem dX7_carryOut_411 : decode cX7_carryOut 411 = .ok (.ifCond .eq 14, 3) := by decide +kernel
theorem dX7_carryOut_414 : decode cX7_carryOut 414 = .ok (.aload_n 0, 1) := by decide +kernel
theorem dX7_carryOut_415 : decode cX7_carryOut 415 = .ok (.getfield 10, 3) := by decide +kernel
theorem dX7_carryOut_418 : decode cX7_carryOut 418 = .ok (.iload_n 2, 1) := by decide +kernel
theorem dX7_carryOut_419 : decode cX7_carryOut 419 = .ok (.invokevirtual 172, 3) := by decide +kernel
theorem dX7_carryOut_422 : decode cX7_carryOut 422 = .ok (.goto 4, 3) := by decide +kernel
theorem dX7_carryOut_425 : decode cX7_carryOut 425 = .ok (.iconst (-1), 1) := by decide +kernel
theorem dX7_carryOut_426 : decode cX7_carryOut 426 = .ok (.ireturn, 1) := by decide +kernel
theorem dX7_carryOut_427 : decode cX7_carryOut 427 = .ok (.aload_n 0, 1) := by decide +kernel
theorem dX7_carryOut_428 : decode cX7_carryOut 428 = .ok (.getfield 10, 3) := by decide +kernel
theorem dX7_carryOut_431 : decode cX7_carryOut 431 = .ok (.invokevirtual 87, 3) := by decide +kernel
theorem dX7_carryOut_434 : decode cX7_carryOut 434 = .ok (.ifCond .eq 13, 3) := by decide +kernel
theorem dX7_carryOut_437 : decode cX7_carryOut 437 = .ok (.aload_n 0, 1) := by decide +kernel
theorem dX7_carryOut_438 : decode cX7_carryOut 438 = .ok (.getfield 10, 3) := by decide +kernel
theorem dX7_carryOut_441 : decode cX7_carryOut 441 = .ok (.invokevirtual 93, 3) := by decide +kernel
theorem dX7_carryOut_444 : decode cX7_carryOut 444 = .ok (.goto 4, 3) := by decide +kernel
theorem dX7_carryOut_447 : decode cX7_carryOut 447 = .ok (.iconst (-1), 1) := by decide +kernel
theorem dX7_carryOut_448 : decode cX7_carryOut 448 = .ok (.ireturn, 1) := by decide +kernel
theorem dX7_counted_0 : decode cX7_counted 0 = .ok (.iload_n 1, 1) := by decide +kernel
theorem dX7_counted_1 : decode cX7_counted 1 = .ok (.bipush 15, 2) := by decide +kernel
theorem dX7_counted_3 : decode cX7_counted 3 = .ok (.if_icmp .ne 13, 3) := by decide +kernel
theorem dX7_counted_6 : decode cX7_counted 6 = .ok (.aload_n 0, 1) := by decide +kernel
theorem dX7_counted_7 : decode cX7_counted 7 = .ok (.getfield 22, 3) := by decide +kernel
theorem dX7_counted_10 : decode cX7_counted 10 = .ok (.invokevirtual 229, 3) := by decide +kernel
theorem dX7_counted_13 : decode cX7_counted 13 = .ok (.goto 11, 3) := by decide +kernel
theorem dX7_counted_16 : decode cX7_counted 16 = .ok (.aload_n 0, 1) := by decide +kernel
theorem dX7_counted_17 : decode cX7_counted 17 = .ok (.getfield 10, 3) := by decide +kernel
theorem dX7_counted_20 : decode cX7_counted 20 = .ok (.iload_n 1, 1) := by decide +kernel
theorem dX7_counted_21 : decode cX7_counted 21 = .ok (.invokevirtual 369, 3) := by decide +kernel
theorem dX7_counted_24 : decode cX7_counted 24 = .ok (.ireturn, 1) := by decide +kernel
theorem dX7_mixed_0 : decode cX7_mixed 0 = .ok (.ldc2_w 372, 3) := by decide +kernel
theorem dX7_mixed_3 : decode cX7_mixed 3 = .ok (.lload_n 0, 1) := by decide +kernel
theorem dX7_mixed_4 : decode cX7_mixed 4 = .ok (.lmul, 1) := by decide +kernel
theorem dX7_mixed_5 : decode cX7_mixed 5 = .ok (.lload_n 2, 1) := by decide +kernel
theorem dX7_mixed_6 : decode cX7_mixed 6 = .ok (.ladd, 1) := by decide +kernel
theorem dX7_mixed_7 : decode cX7_mixed 7 = .ok (.lreturn, 1) := by decide +kernel
theorem dX7_mixedLeaf_0 : decode cX7_mixedLeaf 0 = .ok (.lload_n 1, 1) := by decide +kernel
theorem dX7_mixedLeaf_1 : decode cX7_mixedLeaf 1 = .ok (.lstore 4, 2) := by decide +kernel
theorem dX7_mixedLeaf_3 : decode cX7_mixedLeaf 3 = .ok (.iconst 0, 1) := by decide +kernel
theorem dX7_mixedLeaf_4 : decode cX7_mixedLeaf 4 = .ok (.istore 6, 2) := by decide +kernel
theorem dX7_mixedLeaf_6 : decode cX7_mixedLeaf 6 = .ok (.iload 6, 2) := by decide +kernel
theorem dX7_mixedLeaf_8 : decode cX7_mixedLeaf 8 = .ok (.bipush 7, 2) := by decide +kernel
theorem dX7_mixedLeaf_10 : decode cX7_mixedLeaf 10 = .ok (.if_icmp .gt 27, 3) := by decide +kernel
theorem dX7_mixedLeaf_13 : decode cX7_mixedLeaf 13 = .ok (.lload 4, 2) := by decide +kernel
theorem dX7_mixedLeaf_15 : decode cX7_mixedLeaf 15 = .ok (.aload_n 0, 1) := by decide +kernel
theorem dX7_mixedLeaf_16 : decode cX7_mixedLeaf 16 = .ok (.getfield 10, 3) := by decide +kernel
theorem dX7_mixedLeaf_19 : decode cX7_mixedLeaf 19 = .ok (.iload_n 3, 1) := by decide +kernel
theorem dX7_mixedLeaf_20 : decode cX7_mixedLeaf 20 = .ok (.iload 6, 2) := by decide +kernel
theorem dX7_mixedLeaf_22 : decode cX7_mixedLeaf 22 = .ok (.invokevirtual 250, 3) := by decide +kernel
theorem dX7_mixedLeaf_25 : decode cX7_mixedLeaf 25 = .ok (.i2l, 1) := by decide +kernel
theorem dX7_mixedLeaf_26 : decode cX7_mixedLeaf 26 = .ok (.invokestatic 310, 3) := by decide +kernel
theorem dX7_mixedLeaf_29 : decode cX7_mixedLeaf 29 = .ok (.lstore 4, 2) := by decide +kernel
theorem dX7_mixedLeaf_31 : decode cX7_mixedLeaf 31 = .ok (.iinc 6 1, 3) := by decide +kernel
theorem dX7_mixedLeaf_34 : decode cX7_mixedLeaf 34 = .ok (.goto (-28), 3) := by decide +kernel
theorem dX7_mixedLeaf_37 : decode cX7_mixedLeaf 37 = .ok (.lload 4, 2) := by decide +kernel
theorem dX7_mixedLeaf_39 : decode cX7_mixedLeaf 39 = .ok (.aload_n 0, 1) := by decide +kernel
theorem dX7_mixedLeaf_40 : decode cX7_mixedLeaf 40 = .ok (.getfield 10, 3) := by decide +kernel
theorem dX7_mixedLeaf_43 : decode cX7_mixedLeaf 43 = .ok (.iload_n 3, 1) := by decide +kernel
theorem dX7_mixedLeaf_44 : decode cX7_mixedLeaf 44 = .ok (.invokevirtual 276, 3) := by decide +kernel
theorem dX7_mixedLeaf_47 : decode cX7_mixedLeaf 47 = .ok (.i2l, 1) := by decide +kernel
theorem dX7_mixedLeaf_48 : decode cX7_mixedLeaf 48 = .ok (.invokestatic 310, 3) := by decide +kernel
theorem dX7_mixedLeaf_51 : decode cX7_mixedLeaf 51 = .ok (.lreturn, 1) := by decide +kernel
theorem dX7_mixedChild_0 : decode cX7_mixedChild 0 = .ok (.lload_n 1, 1) := by decide +kernel
theorem dX7_mixedChild_1 : decode cX7_mixedChild 1 = .ok (.lstore 4, 2) := by decide +kernel
theorem dX7_mixedChild_3 : decode cX7_mixedChild 3 = .ok (.iconst 0, 1) := by decide +kernel
theorem dX7_mixedChild_4 : decode cX7_mixedChild 4 = .ok (.istore 6, 2) := by decide +kernel
theorem dX7_mixedChild_6 : decode cX7_mixedChild 6 = .ok (.iload 6, 2) := by decide +kernel
theorem dX7_mixedChild_8 : decode cX7_mixedChild 8 = .ok (.bipush 7, 2) := by decide +kernel
theorem dX7_mixedChild_10 : decode cX7_mixedChild 10 = .ok (.if_icmp .gt 27, 3) := by decide +kernel
theorem dX7_mixedChild_13 : decode cX7_mixedChild 13 = .ok (.lload 4, 2) := by decide +kernel
theorem dX7_mixedChild_15 : decode cX7_mixedChild 15 = .ok (.aload_n 0, 1) := by decide +kernel
theorem dX7_mixedChild_16 : decode cX7_mixedChild 16 = .ok (.getfield 10, 3) := by decide +kernel
theorem dX7_mixedChild_19 : decode cX7_mixedChild 19 = .ok (.iload_n 3, 1) := by decide +kernel
theorem dX7_mixedChild_20 : decode cX7_mixedChild 20 = .ok (.iload 6, 2) := by decide +kernel
theorem dX7_mixedChild_22 : decode cX7_mixedChild 22 = .ok (.invokevirtual 253, 3) := by decide +kernel
theorem dX7_mixedChild_25 : decode cX7_mixedChild 25 = .ok (.i2l, 1) := by decide +kernel
theorem dX7_mixedChild_26 : decode cX7_mixedChild 26 = .ok (.invokestatic 310, 3) := by decide +kernel
theorem dX7_mixedChild_29 : decode cX7_mixedChild 29 = .ok (.lstore 4, 2) := by decide +kernel
theorem dX7_mixedChild_31 : decode cX7_mixedChild 31 = .ok (.iinc 6 1, 3) := by decide +kernel
theorem dX7_mixedChild_34 : decode cX7_mixedChild 34 = .ok (.goto (-28), 3) := by decide +kernel
theorem dX7_mixedChild_37 : decode cX7_mixedChild 37 = .ok (.iconst 0, 1) := by decide +kernel
theorem dX7_mixedChild_38 : decode cX7_mixedChild 38 = .ok (.istore 6, 2) := by decide +kernel
theorem dX7_mixedChild_40 : decode cX7_mixedChild 40 = .ok (.iload 6, 2) := by decide +kernel
theorem dX7_mixedChild_42 : decode cX7_mixedChild 42 = .ok (.iconst 3, 1) := by decide +kernel
theorem dX7_mixedChild_43 : decode cX7_mixedChild 43 = .ok (.if_icmp .ge 65, 3) := by decide +kernel
theorem dX7_mixedChild_46 : decode cX7_mixedChild 46 = .ok (.iconst 0, 1) := by decide +kernel
theorem dX7_mixedChild_47 : decode cX7_mixedChild 47 = .ok (.istore 7, 2) := by decide +kernel
theorem dX7_mixedChild_49 : decode cX7_mixedChild 49 = .ok (.iload 7, 2) := by decide +kernel
theorem dX7_mixedChild_51 : decode cX7_mixedChild 51 = .ok (.iconst 2, 1) := by decide +kernel
theorem dX7_mixedChild_52 : decode cX7_mixedChild 52 = .ok (.if_icmp .gt 32, 3) := by decide +kernel
theorem dX7_mixedChild_55 : decode cX7_mixedChild 55 = .ok (.lload 4, 2) := by decide +kernel
theorem dX7_mixedChild_57 : decode cX7_mixedChild 57 = .ok (.aload_n 0, 1) := by decide +kernel
theorem dX7_mixedChild_58 : decode cX7_mixedChild 58 = .ok (.getfield 10, 3) := by decide +kernel
theorem dX7_mixedChild_61 : decode cX7_mixedChild 61 = .ok (.getfield 256, 3) := by decide +kernel
theorem dX7_mixedChild_64 : decode cX7_mixedChild 64 = .ok (.iload_n 3, 1) := by decide +kernel
theorem dX7_mixedChild_65 : decode cX7_mixedChild 65 = .ok (.iload 6, 2) := by decide +kernel
theorem dX7_mixedChild_67 : decode cX7_mixedChild 67 = .ok (.iload 7, 2) := by decide +kernel
theorem dX7_mixedChild_69 : decode cX7_mixedChild 69 = .ok (.invokevirtual 260, 3) := by decide +kernel
theorem dX7_mixedChild_72 : decode cX7_mixedChild 72 = .ok (.i2l, 1) := by decide +kernel
theorem dX7_mixedChild_73 : decode cX7_mixedChild 73 = .ok (.invokestatic 310, 3) := by decide +kernel
theorem dX7_mixedChild_76 : decode cX7_mixedChild 76 = .ok (.lstore 4, 2) := by decide +kernel
theorem dX7_mixedChild_78 : decode cX7_mixedChild 78 = .ok (.iinc 7 1, 3) := by decide +kernel
theorem dX7_mixedChild_81 : decode cX7_mixedChild 81 = .ok (.goto (-32), 3) := by decide +kernel
theorem dX7_mixedChild_84 : decode cX7_mixedChild 84 = .ok (.lload 4, 2) := by decide +kernel
theorem dX7_mixedChild_86 : decode cX7_mixedChild 86 = .ok (.aload_n 0, 1) := by decide +kernel
theorem dX7_mixedChild_87 : decode cX7_mixedChild 87 = .ok (.getfield 10, 3) := by decide +kernel
theorem dX7_mixedChild_90 : decode cX7_mixedChild 90 = .ok (.iload_n 3, 1) := by decide +kernel
theorem dX7_mixedChild_91 : decode cX7_mixedChild 91 = .ok (.iload 6, 2) := by decide +kernel
theorem dX7_mixedChild_93 : decode cX7_mixedChild 93 = .ok (.invokevirtual 287, 3) := by decide +kernel
theorem dX7_mixedChild_96 : decode cX7_mixedChild 96 = .ok (.i2l, 1) := by decide +kernel
theorem dX7_mixedChild_97 : decode cX7_mixedChild 97 = .ok (.invokestatic 310, 3) := by decide +kernel
theorem dX7_mixedChild_100 : decode cX7_mixedChild 100 = .ok (.lstore 4, 2) := by decide +kernel
theorem dX7_mixedChild_102 : decode cX7_mixedChild 102 = .ok (.iinc 6 1, 3) := by decide +kernel
theorem dX7_mixedChild_105 : decode cX7_mixedChild 105 = .ok (.goto (-65), 3) := by decide +kernel
theorem dX7_mixedChild_108 : decode cX7_mixedChild 108 = .ok (.aload_n 0, 1) := by decide +kernel
theorem dX7_mixedChild_109 : decode cX7_mixedChild 109 = .ok (.getfield 10, 3) := by decide +kernel
theorem dX7_mixedChild_112 : decode cX7_mixedChild 112 = .ok (.getfield 33, 3) := by decide +kernel
theorem dX7_mixedChild_115 : decode cX7_mixedChild 115 = .ok (.getfield 374, 3) := by decide +kernel
theorem dX7_mixedChild_118 : decode cX7_mixedChild 118 = .ok (.iload_n 3, 1) := by decide +kernel
theorem dX7_mixedChild_119 : decode cX7_mixedChild 119 = .ok (.invokevirtual 239, 3) := by decide +kernel
theorem dX7_mixedChild_122 : decode cX7_mixedChild 122 = .ok (.istore 6, 2) := by decide +kernel
theorem dX7_mixedChild_124 : decode cX7_mixedChild 124 = .ok (.iconst 0, 1) := by decide +kernel
theorem dX7_mixedChild_125 : decode cX7_mixedChild 125 = .ok (.istore 7, 2) := by decide +kernel
theorem dX7_mixedChild_127 : decode cX7_mixedChild 127 = .ok (.iload 7, 2) := by decide +kernel
theorem dX7_mixedChild_129 : decode cX7_mixedChild 129 = .ok (.iload 6, 2) := by decide +kernel
theorem dX7_mixedChild_131 : decode cX7_mixedChild 131 = .ok (.if_icmp .ge 30, 3) := by decide +kernel
theorem dX7_mixedChild_134 : decode cX7_mixedChild 134 = .ok (.lload 4, 2) := by decide +kernel
theorem dX7_mixedChild_136 : decode cX7_mixedChild 136 = .ok (.aload_n 0, 1) := by decide +kernel
theorem dX7_mixedChild_137 : decode cX7_mixedChild 137 = .ok (.getfield 10, 3) := by decide +kernel
theorem dX7_mixedChild_140 : decode cX7_mixedChild 140 = .ok (.getfield 33, 3) := by decide +kernel
theorem dX7_mixedChild_143 : decode cX7_mixedChild 143 = .ok (.iload_n 3, 1) := by decide +kernel
theorem dX7_mixedChild_144 : decode cX7_mixedChild 144 = .ok (.iload 7, 2) := by decide +kernel
theorem dX7_mixedChild_146 : decode cX7_mixedChild 146 = .ok (.invokevirtual 267, 3) := by decide +kernel
theorem dX7_mixedChild_149 : decode cX7_mixedChild 149 = .ok (.i2l, 1) := by decide +kernel
theorem dX7_mixedChild_150 : decode cX7_mixedChild 150 = .ok (.invokestatic 310, 3) := by decide +kernel
theorem dX7_mixedChild_153 : decode cX7_mixedChild 153 = .ok (.lstore 4, 2) := by decide +kernel
theorem dX7_mixedChild_155 : decode cX7_mixedChild 155 = .ok (.iinc 7 1, 3) := by decide +kernel
theorem dX7_mixedChild_158 : decode cX7_mixedChild 158 = .ok (.goto (-31), 3) := by decide +kernel
theorem dX7_mixedChild_161 : decode cX7_mixedChild 161 = .ok (.lload 4, 2) := by decide +kernel
theorem dX7_mixedChild_163 : decode cX7_mixedChild 163 = .ok (.aload_n 0, 1) := by decide +kernel
theorem dX7_mixedChild_164 : decode cX7_mixedChild 164 = .ok (.getfield 10, 3) := by decide +kernel
theorem dX7_mixedChild_167 : decode cX7_mixedChild 167 = .ok (.iload_n 3, 1) := by decide +kernel
theorem dX7_mixedChild_168 : decode cX7_mixedChild 168 = .ok (.iconst 0, 1) := by decide +kernel
theorem dX7_mixedChild_169 : decode cX7_mixedChild 169 = .ok (.iconst (-1), 1) := by decide +kernel
theorem dX7_mixedChild_170 : decode cX7_mixedChild 170 = .ok (.invokevirtual 281, 3) := by decide +kernel
theorem dX7_mixedChild_173 : decode cX7_mixedChild 173 = .ok (.i2l, 1) := by decide +kernel
theorem dX7_mixedChild_174 : decode cX7_mixedChild 174 = .ok (.invokestatic 310, 3) := by decide +kernel
theorem dX7_mixedChild_177 : decode cX7_mixedChild 177 = .ok (.lstore 4, 2) := by decide +kernel
theorem dX7_mixedChild_179 : decode cX7_mixedChild 179 = .ok (.lload 4, 2) := by decide +kernel
theorem dX7_mixedChild_181 : decode cX7_mixedChild 181 = .ok (.aload_n 0, 1) := by decide +kernel
theorem dX7_mixedChild_182 : decode cX7_mixedChild 182 = .ok (.getfield 10, 3) := by decide +kernel
theorem dX7_mixedChild_185 : decode cX7_mixedChild 185 = .ok (.iload_n 3, 1) := by decide +kernel
theorem dX7_mixedChild_186 : decode cX7_mixedChild 186 = .ok (.iconst 1, 1) := by decide +kernel
theorem dX7_mixedChild_187 : decode cX7_mixedChild 187 = .ok (.iconst (-1), 1) := by decide +kernel
theorem dX7_mixedChild_188 : decode cX7_mixedChild 188 = .ok (.invokevirtual 281, 3) := by decide +kernel
theorem dX7_mixedChild_191 : decode cX7_mixedChild 191 = .ok (.i2l, 1) := by decide +kernel
theorem dX7_mixedChild_192 : decode cX7_mixedChild 192 = .ok (.invokestatic 310, 3) := by decide +kernel
theorem dX7_mixedChild_195 : decode cX7_mixedChild 195 = .ok (.lstore 4, 2) := by decide +kernel
theorem dX7_mixedChild_197 : decode cX7_mixedChild 197 = .ok (.lload 4, 2) := by decide +kernel
theorem dX7_mixedChild_199 : decode cX7_mixedChild 199 = .ok (.aload_n 0, 1) := by decide +kernel
theorem dX7_mixedChild_200 : decode cX7_mixedChild 200 = .ok (.getfield 10, 3) := by decide +kernel
theorem dX7_mixedChild_203 : decode cX7_mixedChild 203 = .ok (.iload_n 3, 1) := by decide +kernel
theorem dX7_mixedChild_204 : decode cX7_mixedChild 204 = .ok (.invokevirtual 293, 3) := by decide +kernel
theorem dX7_mixedChild_207 : decode cX7_mixedChild 207 = .ok (.i2l, 1) := by decide +kernel
theorem dX7_mixedChild_208 : decode cX7_mixedChild 208 = .ok (.invokestatic 310, 3) := by decide +kernel
theorem dX7_mixedChild_211 : decode cX7_mixedChild 211 = .ok (.lreturn, 1) := by decide +kernel
theorem dX7_mixedText_0 : decode cX7_mixedText 0 = .ok (.lload_n 1, 1) := by decide +kernel
theorem dX7_mixedText_1 : decode cX7_mixedText 1 = .ok (.aload_n 0, 1) := by decide +kernel
theorem dX7_mixedText_2 : decode cX7_mixedText 2 = .ok (.getfield 29, 3) := by decide +kernel
theorem dX7_mixedText_5 : decode cX7_mixedText 5 = .ok (.invokevirtual 191, 3) := by decide +kernel
theorem dX7_mixedText_8 : decode cX7_mixedText 8 = .ok (.i2l, 1) := by decide +kernel
theorem dX7_mixedText_9 : decode cX7_mixedText 9 = .ok (.invokestatic 310, 3) := by decide +kernel
theorem dX7_mixedText_12 : decode cX7_mixedText 12 = .ok (.lstore_n 3, 1) := by decide +kernel
theorem dX7_mixedText_13 : decode cX7_mixedText 13 = .ok (.iconst 0, 1) := by decide +kernel
theorem dX7_mixedText_14 : decode cX7_mixedText 14 = .ok (.istore 5, 2) := by decide +kernel
theorem dX7_mixedText_16 : decode cX7_mixedText 16 = .ok (.iload 5, 2) := by decide +kernel
theorem dX7_mixedText_18 : decode cX7_mixedText 18 = .ok (.aload_n 0, 1) := by decide +kernel
theorem dX7_mixedText_19 : decode cX7_mixedText 19 = .ok (.getfield 29, 3) := by decide +kernel
theorem dX7_mixedText_22 : decode cX7_mixedText 22 = .ok (.invokevirtual 191, 3) := by decide +kernel
theorem dX7_mixedText_25 : decode cX7_mixedText 25 = .ok (.if_icmp .ge 24, 3) := by decide +kernel
theorem dX7_mixedText_28 : decode cX7_mixedText 28 = .ok (.lload_n 3, 1) := by decide +kernel
theorem dX7_mixedText_29 : decode cX7_mixedText 29 = .ok (.aload_n 0, 1) := by decide +kernel
theorem dX7_mixedText_30 : decode cX7_mixedText 30 = .ok (.getfield 29, 3) := by decide +kernel
theorem dX7_mixedText_33 : decode cX7_mixedText 33 = .ok (.iload 5, 2) := by decide +kernel
theorem dX7_mixedText_35 : decode cX7_mixedText 35 = .ok (.invokevirtual 366, 3) := by decide +kernel
theorem dX7_mixedText_38 : decode cX7_mixedText 38 = .ok (.i2l, 1) := by decide +kernel
theorem dX7_mixedText_39 : decode cX7_mixedText 39 = .ok (.invokestatic 310, 3) := by decide +kernel
theorem dX7_mixedText_42 : decode cX7_mixedText 42 = .ok (.lstore_n 3, 1) := by decide +kernel
theorem dX7_mixedText_43 : decode cX7_mixedText 43 = .ok (.iinc 5 1, 3) := by decide +kernel
theorem dX7_mixedText_46 : decode cX7_mixedText 46 = .ok (.goto (-30), 3) := by decide +kernel
theorem dX7_mixedText_49 : decode cX7_mixedText 49 = .ok (.lload_n 3, 1) := by decide +kernel
theorem dX7_mixedText_50 : decode cX7_mixedText 50 = .ok (.lreturn, 1) := by decide +kernel
theorem dX7_bitsOf_0 : decode cX7_bitsOf 0 = .ok (.dload_n 0, 1) := by decide +kernel
theorem dX7_bitsOf_1 : decode cX7_bitsOf 1 = .ok (.dconst 0, 1) := by decide +kernel
theorem dX7_bitsOf_2 : decode cX7_bitsOf 2 = .ok (.dcmp .l, 1) := by decide +kernel
theorem dX7_bitsOf_3 : decode cX7_bitsOf 3 = .ok (.ifCond .gt 5, 3) := by decide +kernel
theorem dX7_bitsOf_6 : decode cX7_bitsOf 6 = .ok (.lconst 0, 1) := by decide +kernel
theorem dX7_bitsOf_7 : decode cX7_bitsOf 7 = .ok (.lreturn, 1) := by decide +kernel
theorem dX7_bitsOf_8 : decode cX7_bitsOf 8 = .ok (.dload_n 0, 1) := by decide +kernel
theorem dX7_bitsOf_9 : decode cX7_bitsOf 9 = .ok (.dstore 4, 2) := by decide +kernel
theorem dX7_bitsOf_11 : decode cX7_bitsOf 11 = .ok (.iconst 0, 1) := by decide +kernel
theorem dX7_bitsOf_12 : decode cX7_bitsOf 12 = .ok (.istore 6, 2) := by decide +kernel
theorem dX7_bitsOf_14 : decode cX7_bitsOf 14 = .ok (.iconst 0, 1) := by decide +kernel
theorem dX7_bitsOf_15 : decode cX7_bitsOf 15 = .ok (.istore 7, 2) := by decide +kernel
theorem dX7_bitsOf_17 : decode cX7_bitsOf 17 = .ok (.iload 7, 2) := by decide +kernel
theorem dX7_bitsOf_19 : decode cX7_bitsOf 19 = .ok (.sipush 1000, 3) := by decide +kernel
theorem dX7_bitsOf_22 : decode cX7_bitsOf 22 = .ok (.if_icmp .ge 27, 3) := by decide +kernel
theorem dX7_bitsOf_25 : decode cX7_bitsOf 25 = .ok (.dload 4, 2) := by decide +kernel
theorem dX7_bitsOf_27 : decode cX7_bitsOf 27 = .ok (.dconst 1, 1) := by decide +kernel
theorem dX7_bitsOf_28 : decode cX7_bitsOf 28 = .ok (.dcmp .g, 1) := by decide +kernel
theorem dX7_bitsOf_29 : decode cX7_bitsOf 29 = .ok (.ifCond .ge 20, 3) := by decide +kernel
theorem dX7_bitsOf_32 : decode cX7_bitsOf 32 = .ok (.dload 4, 2) := by decide +kernel
theorem dX7_bitsOf_34 : decode cX7_bitsOf 34 = .ok (.ldc2_w 377, 3) := by decide +kernel
theorem dX7_bitsOf_37 : decode cX7_bitsOf 37 = .ok (.dmul, 1) := by decide +kernel
theorem dX7_bitsOf_38 : decode cX7_bitsOf 38 = .ok (.dstore 4, 2) := by decide +kernel
theorem dX7_bitsOf_40 : decode cX7_bitsOf 40 = .ok (.iinc 6 (-1), 3) := by decide +kernel
theorem dX7_bitsOf_43 : decode cX7_bitsOf 43 = .ok (.iinc 7 1, 3) := by decide +kernel
theorem dX7_bitsOf_46 : decode cX7_bitsOf 46 = .ok (.goto (-29), 3) := by decide +kernel
theorem dX7_bitsOf_49 : decode cX7_bitsOf 49 = .ok (.iconst 0, 1) := by decide +kernel
theorem dX7_bitsOf_50 : decode cX7_bitsOf 50 = .ok (.istore 7, 2) := by decide +kernel
theorem dX7_bitsOf_52 : decode cX7_bitsOf 52 = .ok (.iload 7, 2) := by decide +kernel
theorem dX7_bitsOf_54 : decode cX7_bitsOf 54 = .ok (.sipush 1000, 3) := by decide +kernel
theorem dX7_bitsOf_57 : decode cX7_bitsOf 57 = .ok (.if_icmp .ge 29, 3) := by decide +kernel
theorem dX7_bitsOf_60 : decode cX7_bitsOf 60 = .ok (.dload 4, 2) := by decide +kernel
theorem dX7_bitsOf_62 : decode cX7_bitsOf 62 = .ok (.ldc2_w 377, 3) := by decide +kernel
theorem dX7_bitsOf_65 : decode cX7_bitsOf 65 = .ok (.dcmp .l, 1) := by decide +kernel
theorem dX7_bitsOf_66 : decode cX7_bitsOf 66 = .ok (.ifCond .lt 20, 3) := by decide +kernel
theorem dX7_bitsOf_69 : decode cX7_bitsOf 69 = .ok (.dload 4, 2) := by decide +kernel
theorem dX7_bitsOf_71 : decode cX7_bitsOf 71 = .ok (.ldc2_w 377, 3) := by decide +kernel
theorem dX7_bitsOf_74 : decode cX7_bitsOf 74 = .ok (.ddiv, 1) := by decide +kernel
theorem dX7_bitsOf_75 : decode cX7_bitsOf 75 = .ok (.dstore 4, 2) := by decide +kernel
theorem dX7_bitsOf_77 : decode cX7_bitsOf 77 = .ok (.iinc 6 1, 3) := by decide +kernel
theorem dX7_bitsOf_80 : decode cX7_bitsOf 80 = .ok (.iinc 7 1, 3) := by decide +kernel
theorem dX7_bitsOf_83 : decode cX7_bitsOf 83 = .ok (.goto (-31), 3) := by decide +kernel
theorem dX7_bitsOf_86 : decode cX7_bitsOf 86 = .ok (.dload 4, 2) := by decide +kernel
theorem dX7_bitsOf_88 : decode cX7_bitsOf 88 = .ok (.dconst 1, 1) := by decide +kernel
theorem dX7_bitsOf_89 : decode cX7_bitsOf 89 = .ok (.dsub, 1) := by decide +kernel
theorem dX7_bitsOf_90 : decode cX7_bitsOf 90 = .ok (.lconst 1, 1) := by decide +kernel
theorem dX7_bitsOf_91 : decode cX7_bitsOf 91 = .ok (.iload_n 2, 1) := by decide +kernel
theorem dX7_bitsOf_92 : decode cX7_bitsOf 92 = .ok (.lshl, 1) := by decide +kernel
theorem dX7_bitsOf_93 : decode cX7_bitsOf 93 = .ok (.l2d, 1) := by decide +kernel
theorem dX7_bitsOf_94 : decode cX7_bitsOf 94 = .ok (.dmul, 1) := by decide +kernel
theorem dX7_bitsOf_95 : decode cX7_bitsOf 95 = .ok (.d2l, 1) := by decide +kernel
theorem dX7_bitsOf_96 : decode cX7_bitsOf 96 = .ok (.lstore 7, 2) := by decide +kernel
theorem dX7_bitsOf_98 : decode cX7_bitsOf 98 = .ok (.iload_n 3, 1) := by decide +kernel
theorem dX7_bitsOf_99 : decode cX7_bitsOf 99 = .ok (.iload 6, 2) := by decide +kernel
theorem dX7_bitsOf_101 : decode cX7_bitsOf 101 = .ok (.iadd, 1) := by decide +kernel
theorem dX7_bitsOf_102 : decode cX7_bitsOf 102 = .ok (.i2l, 1) := by decide +kernel
theorem dX7_bitsOf_103 : decode cX7_bitsOf 103 = .ok (.iload_n 2, 1) := by decide +kernel
theorem dX7_bitsOf_104 : decode cX7_bitsOf 104 = .ok (.lshl, 1) := by decide +kernel
theorem dX7_bitsOf_105 : decode cX7_bitsOf 105 = .ok (.lload 7, 2) := by decide +kernel
theorem dX7_bitsOf_107 : decode cX7_bitsOf 107 = .ok (.ladd, 1) := by decide +kernel
theorem dX7_bitsOf_108 : decode cX7_bitsOf 108 = .ok (.lreturn, 1) := by decide +kernel
theorem dJxe99ae_isNaN_b9ae7_0 : decode cJxe99ae_isNaN_b9ae7 0 = .ok (.dload_n 0, 1) := by decide +kernel
theorem dJxe99ae_isNaN_b9ae7_1 : decode cJxe99ae_isNaN_b9ae7 1 = .ok (.dload_n 0, 1) := by decide +kernel
theorem dJxe99ae_isNaN_b9ae7_2 : decode cJxe99ae_isNaN_b9ae7 2 = .ok (.dcmp .l, 1) := by decide +kernel
theorem dJxe99ae_isNaN_b9ae7_3 : decode cJxe99ae_isNaN_b9ae7 3 = .ok (.ifCond .eq 7, 3) := by decide +kernel
theorem dJxe99ae_isNaN_b9ae7_6 : decode cJxe99ae_isNaN_b9ae7 6 = .ok (.iconst 1, 1) := by decide +kernel
theorem dJxe99ae_isNaN_b9ae7_7 : decode cJxe99ae_isNaN_b9ae7 7 = .ok (.goto 4, 3) := by decide +kernel
theorem dJxe99ae_isNaN_b9ae7_10 : decode cJxe99ae_isNaN_b9ae7 10 = .ok (.iconst 0, 1) := by decide +kernel
theorem dJxe99ae_isNaN_b9ae7_11 : decode cJxe99ae_isNaN_b9ae7 11 = .ok (.ireturn, 1) := by decide +kernel
theorem dJxe99ae_doubleToLongBits_ccdee_0 : decode cJxe99ae_doubleToLongBits_ccdee 0 = .ok (.dload_n 0, 1) := by decide +kernel
theorem dJxe99ae_doubleToLongBits_ccdee_1 : decode cJxe99ae_doubleToLongBits_ccdee 1 = .ok (.invokestatic 122, 3) := by decide +kernel
theorem dJxe99ae_doubleToLongBits_ccdee_4 : decode cJxe99ae_doubleToLongBits_ccdee 4 = .ok (.ifCond .ne 8, 3) := by decide +kernel
theorem dJxe99ae_doubleToLongBits_ccdee_7 : decode cJxe99ae_doubleToLongBits_ccdee 7 = .ok (.dload_n 0, 1) := by decide +kernel
theorem dJxe99ae_doubleToLongBits_ccdee_8 : decode cJxe99ae_doubleToLongBits_ccdee 8 = .ok (.invokestatic 134, 3) := by decide +kernel
theorem dJxe99ae_doubleToLongBits_ccdee_11 : decode cJxe99ae_doubleToLongBits_ccdee 11 = .ok (.lreturn, 1) := by decide +kernel
theorem dJxe99ae_doubleToLongBits_ccdee_12 : decode cJxe99ae_doubleToLongBits_ccdee 12 = .ok (.ldc2_w 137, 3) := by decide +kernel
theorem dJxe99ae_doubleToLongBits_ccdee_15 : decode cJxe99ae_doubleToLongBits_ccdee 15 = .ok (.lreturn, 1) := by decide +kernel
theorem dJxf58ca_isNaN_12338_0 : decode cJxf58ca_isNaN_12338 0 = .ok (.fload_n 0, 1) := by decide +kernel
theorem dJxf58ca_isNaN_12338_1 : decode cJxf58ca_isNaN_12338 1 = .ok (.fload_n 0, 1) := by decide +kernel
theorem dJxf58ca_isNaN_12338_2 : decode cJxf58ca_isNaN_12338 2 = .ok (.fcmp .l, 1) := by decide +kernel
theorem dJxf58ca_isNaN_12338_3 : decode cJxf58ca_isNaN_12338 3 = .ok (.ifCond .eq 7, 3) := by decide +kernel
theorem dJxf58ca_isNaN_12338_6 : decode cJxf58ca_isNaN_12338 6 = .ok (.iconst 1, 1) := by decide +kernel
theorem dJxf58ca_isNaN_12338_7 : decode cJxf58ca_isNaN_12338 7 = .ok (.goto 4, 3) := by decide +kernel
theorem dJxf58ca_isNaN_12338_10 : decode cJxf58ca_isNaN_12338 10 = .ok (.iconst 0, 1) := by decide +kernel
theorem dJxf58ca_isNaN_12338_11 : decode cJxf58ca_isNaN_12338 11 = .ok (.ireturn, 1) := by decide +kernel
theorem dJxf58ca_floatToIntBits_5c35a_0 : decode cJxf58ca_floatToIntBits_5c35a 0 = .ok (.fload_n 0, 1) := by decide +kernel
theorem dJxf58ca_floatToIntBits_5c35a_1 : decode cJxf58ca_floatToIntBits_5c35a 1 = .ok (.invokestatic 59, 3) := by decide +kernel
theorem dJxf58ca_floatToIntBits_5c35a_4 : decode cJxf58ca_floatToIntBits_5c35a 4 = .ok (.ifCond .ne 8, 3) := by decide +kernel
theorem dJxf58ca_floatToIntBits_5c35a_7 : decode cJxf58ca_floatToIntBits_5c35a 7 = .ok (.fload_n 0, 1) := by decide +kernel
theorem dJxf58ca_floatToIntBits_5c35a_8 : decode cJxf58ca_floatToIntBits_5c35a 8 = .ok (.invokestatic 74, 3) := by decide +kernel
theorem dJxf58ca_floatToIntBits_5c35a_11 : decode cJxf58ca_floatToIntBits_5c35a 11 = .ok (.ireturn, 1) := by decide +kernel
theorem dJxf58ca_floatToIntBits_5c35a_12 : decode cJxf58ca_floatToIntBits_5c35a 12 = .ok (.ldc 77, 2) := by decide +kernel
theorem dJxf58ca_floatToIntBits_5c35a_14 : decode cJxf58ca_floatToIntBits_5c35a 14 = .ok (.ireturn, 1) := by decide +kernel
theorem dJ9_max_7cf53_0 : decode cJ9_max_7cf53 0 = .ok (.iload_n 0, 1) := by decide +kernel
theorem dJ9_max_7cf53_1 : decode cJ9_max_7cf53 1 = .ok (.iload_n 1, 1) := by decide +kernel
theorem dJ9_max_7cf53_2 : decode cJ9_max_7cf53 2 = .ok (.if_icmp .lt 7, 3) := by decide +kernel
theorem dJ9_max_7cf53_5 : decode cJ9_max_7cf53 5 = .ok (.iload_n 0, 1) := by decide +kernel
theorem dJ9_max_7cf53_6 : decode cJ9_max_7cf53 6 = .ok (.goto 4, 3) := by decide +kernel
theorem dJ9_max_7cf53_9 : decode cJ9_max_7cf53 9 = .ok (.iload_n 1, 1) := by decide +kernel
theorem dJ9_max_7cf53_10 : decode cJ9_max_7cf53 10 = .ok (.ireturn, 1) := by decide +kernel
theorem dJ9_min_7cf53_0 : decode cJ9_min_7cf53 0 = .ok (.iload_n 0, 1) := by decide +kernel
theorem dJ9_min_7cf53_1 : decode cJ9_min_7cf53 1 = .ok (.iload_n 1, 1) := by decide +kernel
theorem dJ9_min_7cf53_2 : decode cJ9_min_7cf53 2 = .ok (.if_icmp .gt 7, 3) := by decide +kernel
theorem dJ9_min_7cf53_5 : decode cJ9_min_7cf53 5 = .ok (.iload_n 0, 1) := by decide +kernel
theorem dJ9_min_7cf53_6 : decode cJ9_min_7cf53 6 = .ok (.goto 4, 3) := by decide +kernel
theorem dJ9_min_7cf53_9 : decode cJ9_min_7cf53 9 = .ok (.iload_n 1, 1) := by decide +kernel
theorem dJ9_min_7cf53_10 : decode cJ9_min_7cf53 10 = .ok (.ireturn, 1) := by decide +kernel
