theorem dL_cell_0 : decode cL_cell 0 = .ok (.iload_n 1, 1) := by decide +kernel
theorem dL_cell_1 : decode cL_cell 1 = .ok (.aload_n 0, 1) := by decide +kernel
theorem dL_cell_2 : decode cL_cell 2 = .ok (.arraylength, 1) := by decide +kernel
theorem dL_cell_3 : decode cL_cell 3 = .ok (.if_icmp .ge 9, 3) := by decide +kernel
theorem dL_cell_6 : decode cL_cell 6 = .ok (.aload_n 0, 1) := by decide +kernel
theorem dL_cell_7 : decode cL_cell 7 = .ok (.iload_n 1, 1) := by decide +kernel
theorem dL_cell_8 : decode cL_cell 8 = .ok (.iaload, 1) := by decide +kernel
theorem dL_cell_9 : decode cL_cell 9 = .ok (.goto 9, 3) := by decide +kernel
theorem dL_cell_12 : decode cL_cell 12 = .ok (.ldc 7, 2) := by decide +kernel
theorem dL_cell_14 : decode cL_cell 14 = .ok (.iload_n 1, 1) := by decide +kernel
theorem dL_cell_15 : decode cL_cell 15 = .ok (.iconst 1, 1) := by decide +kernel
theorem dL_cell_16 : decode cL_cell 16 = .ok (.iadd, 1) := by decide +kernel
theorem dL_cell_17 : decode cL_cell 17 = .ok (.imul, 1) := by decide +kernel
theorem dL_cell_18 : decode cL_cell 18 = .ok (.ireturn, 1) := by decide +kernel
theorem dL_low_0 : decode cL_low 0 = .ok (.iload_n 0, 1) := by decide +kernel
theorem dL_low_1 : decode cL_low 1 = .ok (.ldc 8, 2) := by decide +kernel
theorem dL_low_3 : decode cL_low 3 = .ok (.iand, 1) := by decide +kernel
theorem dL_low_4 : decode cL_low 4 = .ok (.iload_n 1, 1) := by decide +kernel
theorem dL_low_5 : decode cL_low 5 = .ok (.irem, 1) := by decide +kernel
theorem dL_low_6 : decode cL_low 6 = .ok (.ireturn, 1) := by decide +kernel
theorem dL_come_0 : decode cL_come 0 = .ok (.aload_n 0, 1) := by decide +kernel
theorem dL_come_1 : decode cL_come 1 = .ok (.invokevirtual 9, 3) := by decide +kernel
theorem dL_come_4 : decode cL_come 4 = .ok (.istore_n 1, 1) := by decide +kernel
theorem dL_come_5 : decode cL_come 5 = .ok (.goto 7, 3) := by decide +kernel
theorem dL_come_8 : decode cL_come 8 = .ok (.astore_n 2, 1) := by decide +kernel
theorem dL_come_9 : decode cL_come 9 = .ok (.bipush (-33), 2) := by decide +kernel
theorem dL_come_11 : decode cL_come 11 = .ok (.ireturn, 1) := by decide +kernel
theorem dL_come_12 : decode cL_come 12 = .ok (.iload_n 1, 1) := by decide +kernel
theorem dL_come_13 : decode cL_come 13 = .ok (.ireturn, 1) := by decide +kernel
theorem dL_leave_0 : decode cL_leave 0 = .ok (.aload_n 0, 1) := by decide +kernel
theorem dL_leave_1 : decode cL_leave 1 = .ok (.iload_n 1, 1) := by decide +kernel
theorem dL_leave_2 : decode cL_leave 2 = .ok (.invokevirtual 17, 3) := by decide +kernel
theorem dL_leave_5 : decode cL_leave 5 = .ok (.istore_n 2, 1) := by decide +kernel
theorem dL_leave_6 : decode cL_leave 6 = .ok (.goto 11, 3) := by decide +kernel
theorem dL_leave_9 : decode cL_leave 9 = .ok (.astore_n 3, 1) := by decide +kernel
theorem dL_leave_10 : decode cL_leave 10 = .ok (.bipush (-31), 2) := by decide +kernel
theorem dL_leave_12 : decode cL_leave 12 = .ok (.ireturn, 1) := by decide +kernel
theorem dL_leave_13 : decode cL_leave 13 = .ok (.astore_n 3, 1) := by decide +kernel
theorem dL_leave_14 : decode cL_leave 14 = .ok (.bipush (-33), 2) := by decide +kernel
theorem dL_leave_16 : decode cL_leave 16 = .ok (.ireturn, 1) := by decide +kernel
theorem dL_leave_17 : decode cL_leave 17 = .ok (.iload_n 2, 1) := by decide +kernel
theorem dL_leave_18 : decode cL_leave 18 = .ok (.ireturn, 1) := by decide +kernel
theorem dL_enter_0 : decode cL_enter 0 = .ok (.aload_n 0, 1) := by decide +kernel
theorem dL_enter_1 : decode cL_enter 1 = .ok (.iload_n 1, 1) := by decide +kernel
theorem dL_enter_2 : decode cL_enter 2 = .ok (.invokevirtual 23, 3) := by decide +kernel
theorem dL_enter_5 : decode cL_enter 5 = .ok (.istore_n 2, 1) := by decide +kernel
theorem dL_enter_6 : decode cL_enter 6 = .ok (.goto 11, 3) := by decide +kernel
theorem dL_enter_9 : decode cL_enter 9 = .ok (.astore_n 3, 1) := by decide +kernel
theorem dL_enter_10 : decode cL_enter 10 = .ok (.bipush (-31), 2) := by decide +kernel
theorem dL_enter_12 : decode cL_enter 12 = .ok (.ireturn, 1) := by decide +kernel
theorem dL_enter_13 : decode cL_enter 13 = .ok (.astore_n 3, 1) := by decide +kernel
theorem dL_enter_14 : decode cL_enter 14 = .ok (.bipush (-33), 2) := by decide +kernel
theorem dL_enter_16 : decode cL_enter 16 = .ok (.ireturn, 1) := by decide +kernel
theorem dL_enter_17 : decode cL_enter 17 = .ok (.iload_n 2, 1) := by decide +kernel
theorem dL_enter_18 : decode cL_enter 18 = .ok (.ireturn, 1) := by decide +kernel
theorem dL_rest_0 : decode cL_rest 0 = .ok (.aload_n 0, 1) := by decide +kernel
theorem dL_rest_1 : decode cL_rest 1 = .ok (.iload_n 1, 1) := by decide +kernel
theorem dL_rest_2 : decode cL_rest 2 = .ok (.invokevirtual 26, 3) := by decide +kernel
theorem dL_rest_5 : decode cL_rest 5 = .ok (.istore_n 2, 1) := by decide +kernel
theorem dL_rest_6 : decode cL_rest 6 = .ok (.goto 11, 3) := by decide +kernel
theorem dL_rest_9 : decode cL_rest 9 = .ok (.astore_n 3, 1) := by decide +kernel
theorem dL_rest_10 : decode cL_rest 10 = .ok (.bipush (-31), 2) := by decide +kernel
theorem dL_rest_12 : decode cL_rest 12 = .ok (.ireturn, 1) := by decide +kernel
theorem dL_rest_13 : decode cL_rest 13 = .ok (.astore_n 3, 1) := by decide +kernel
theorem dL_rest_14 : decode cL_rest 14 = .ok (.bipush (-33), 2) := by decide +kernel
theorem dL_rest_16 : decode cL_rest 16 = .ok (.ireturn, 1) := by decide +kernel
theorem dL_rest_17 : decode cL_rest 17 = .ok (.iload_n 2, 1) := by decide +kernel
theorem dL_rest_18 : decode cL_rest 18 = .ok (.ireturn, 1) := by decide +kernel
theorem dL_ring_0 : decode cL_ring 0 = .ok (.aload_n 0, 1) := by decide +kernel
theorem dL_ring_1 : decode cL_ring 1 = .ok (.invokevirtual 29, 3) := by decide +kernel
theorem dL_ring_4 : decode cL_ring 4 = .ok (.istore_n 1, 1) := by decide +kernel
theorem dL_ring_5 : decode cL_ring 5 = .ok (.goto 7, 3) := by decide +kernel
theorem dL_ring_8 : decode cL_ring 8 = .ok (.astore_n 2, 1) := by decide +kernel
theorem dL_ring_9 : decode cL_ring 9 = .ok (.bipush (-33), 2) := by decide +kernel
theorem dL_ring_11 : decode cL_ring 11 = .ok (.ireturn, 1) := by decide +kernel
theorem dL_ring_12 : decode cL_ring 12 = .ok (.iload_n 1, 1) := by decide +kernel
theorem dL_ring_13 : decode cL_ring 13 = .ok (.ireturn, 1) := by decide +kernel
theorem dL_grow_0 : decode cL_grow 0 = .ok (.aload_n 0, 1) := by decide +kernel
theorem dL_grow_1 : decode cL_grow 1 = .ok (.iload_n 1, 1) := by decide +kernel
theorem dL_grow_2 : decode cL_grow 2 = .ok (.iload_n 2, 1) := by decide +kernel
theorem dL_grow_3 : decode cL_grow 3 = .ok (.invokevirtual 32, 3) := by decide +kernel
theorem dL_grow_6 : decode cL_grow 6 = .ok (.istore_n 3, 1) := by decide +kernel
theorem dL_grow_7 : decode cL_grow 7 = .ok (.goto 18, 3) := by decide +kernel
theorem dL_grow_10 : decode cL_grow 10 = .ok (.astore 4, 2) := by decide +kernel
theorem dL_grow_12 : decode cL_grow 12 = .ok (.bipush (-31), 2) := by decide +kernel
theorem dL_grow_14 : decode cL_grow 14 = .ok (.ireturn, 1) := by decide +kernel
theorem dL_grow_15 : decode cL_grow 15 = .ok (.astore 4, 2) := by decide +kernel
theorem dL_grow_17 : decode cL_grow 17 = .ok (.bipush (-32), 2) := by decide +kernel
theorem dL_grow_19 : decode cL_grow 19 = .ok (.ireturn, 1) := by decide +kernel
theorem dL_grow_20 : decode cL_grow 20 = .ok (.astore 4, 2) := by decide +kernel
theorem dL_grow_22 : decode cL_grow 22 = .ok (.bipush (-33), 2) := by decide +kernel
theorem dL_grow_24 : decode cL_grow 24 = .ok (.ireturn, 1) := by decide +kernel
theorem dL_grow_25 : decode cL_grow 25 = .ok (.iload_n 3, 1) := by decide +kernel
theorem dL_grow_26 : decode cL_grow 26 = .ok (.ireturn, 1) := by decide +kernel
theorem dL_note_0 : decode cL_note 0 = .ok (.aload_n 0, 1) := by decide +kernel
theorem dL_note_1 : decode cL_note 1 = .ok (.iload_n 1, 1) := by decide +kernel
theorem dL_note_2 : decode cL_note 2 = .ok (.iload_n 2, 1) := by decide +kernel
theorem dL_note_3 : decode cL_note 3 = .ok (.iload_n 3, 1) := by decide +kernel
theorem dL_note_4 : decode cL_note 4 = .ok (.invokevirtual 38, 3) := by decide +kernel
theorem dL_note_7 : decode cL_note 7 = .ok (.istore 4, 2) := by decide +kernel
theorem dL_note_9 : decode cL_note 9 = .ok (.goto 13, 3) := by decide +kernel
theorem dL_note_12 : decode cL_note 12 = .ok (.astore 5, 2) := by decide +kernel
theorem dL_note_14 : decode cL_note 14 = .ok (.bipush (-31), 2) := by decide +kernel
theorem dL_note_16 : decode cL_note 16 = .ok (.ireturn, 1) := by decide +kernel
theorem dL_note_17 : decode cL_note 17 = .ok (.astore 5, 2) := by decide +kernel
theorem dL_note_19 : decode cL_note 19 = .ok (.bipush (-33), 2) := by decide +kernel
theorem dL_note_21 : decode cL_note 21 = .ok (.ireturn, 1) := by decide +kernel
theorem dL_note_22 : decode cL_note 22 = .ok (.iload 4, 2) := by decide +kernel
theorem dL_note_24 : decode cL_note 24 = .ok (.ireturn, 1) := by decide +kernel
theorem dL_pin_0 : decode cL_pin 0 = .ok (.aload_n 0, 1) := by decide +kernel
theorem dL_pin_1 : decode cL_pin 1 = .ok (.iload_n 1, 1) := by decide +kernel
theorem dL_pin_2 : decode cL_pin 2 = .ok (.iload_n 2, 1) := by decide +kernel
theorem dL_pin_3 : decode cL_pin 3 = .ok (.invokevirtual 42, 3) := by decide +kernel
theorem dL_pin_6 : decode cL_pin 6 = .ok (.istore_n 3, 1) := by decide +kernel
theorem dL_pin_7 : decode cL_pin 7 = .ok (.goto 13, 3) := by decide +kernel
theorem dL_pin_10 : decode cL_pin 10 = .ok (.astore 4, 2) := by decide +kernel
theorem dL_pin_12 : decode cL_pin 12 = .ok (.bipush (-31), 2) := by decide +kernel
theorem dL_pin_14 : decode cL_pin 14 = .ok (.ireturn, 1) := by decide +kernel
theorem dL_pin_15 : decode cL_pin 15 = .ok (.astore 4, 2) := by decide +kernel
theorem dL_pin_17 : decode cL_pin 17 = .ok (.bipush (-33), 2) := by decide +kernel
theorem dL_pin_19 : decode cL_pin 19 = .ok (.ireturn, 1) := by decide +kernel
theorem dL_pin_20 : decode cL_pin 20 = .ok (.iload_n 3, 1) := by decide +kernel
theorem dL_pin_21 : decode cL_pin 21 = .ok (.ireturn, 1) := by decide +kernel
theorem dL_loosen_0 : decode cL_loosen 0 = .ok (.aload_n 0, 1) := by decide +kernel
theorem dL_loosen_1 : decode cL_loosen 1 = .ok (.iload_n 1, 1) := by decide +kernel
theorem dL_loosen_2 : decode cL_loosen 2 = .ok (.iload_n 2, 1) := by decide +kernel
theorem dL_loosen_3 : decode cL_loosen 3 = .ok (.invokevirtual 45, 3) := by decide +kernel
theorem dL_loosen_6 : decode cL_loosen 6 = .ok (.istore_n 3, 1) := by decide +kernel
theorem dL_loosen_7 : decode cL_loosen 7 = .ok (.goto 13, 3) := by decide +kernel
theorem dL_loosen_10 : decode cL_loosen 10 = .ok (.astore 4, 2) := by decide +kernel
theorem dL_loosen_12 : decode cL_loosen 12 = .ok (.bipush (-31), 2) := by decide +kernel
theorem dL_loosen_14 : decode cL_loosen 14 = .ok (.ireturn, 1) := by decide +kernel
theorem dL_loosen_15 : decode cL_loosen 15 = .ok (.astore 4, 2) := by decide +kernel
theorem dL_loosen_17 : decode cL_loosen 17 = .ok (.bipush (-33), 2) := by decide +kernel
theorem dL_loosen_19 : decode cL_loosen 19 = .ok (.ireturn, 1) := by decide +kernel
theorem dL_loosen_20 : decode cL_loosen 20 = .ok (.iload_n 3, 1) := by decide +kernel
theorem dL_loosen_21 : decode cL_loosen 21 = .ok (.ireturn, 1) := by decide +kernel
theorem dL_look_0 : decode cL_look 0 = .ok (.aload_n 0, 1) := by decide +kernel
theorem dL_look_1 : decode cL_look 1 = .ok (.iload_n 1, 1) := by decide +kernel
theorem dL_look_2 : decode cL_look 2 = .ok (.iload_n 2, 1) := by decide +kernel
theorem dL_look_3 : decode cL_look 3 = .ok (.invokevirtual 48, 3) := by decide +kernel
theorem dL_look_6 : decode cL_look 6 = .ok (.istore_n 3, 1) := by decide +kernel
theorem dL_look_7 : decode cL_look 7 = .ok (.goto 13, 3) := by decide +kernel
theorem dL_look_10 : decode cL_look 10 = .ok (.astore 4, 2) := by decide +kernel
theorem dL_look_12 : decode cL_look 12 = .ok (.bipush (-31), 2) := by decide +kernel
theorem dL_look_14 : decode cL_look 14 = .ok (.ireturn, 1) := by decide +kernel
theorem dL_look_15 : decode cL_look 15 = .ok (.astore 4, 2) := by decide +kernel
theorem dL_look_17 : decode cL_look 17 = .ok (.bipush (-33), 2) := by decide +kernel
theorem dL_look_19 : decode cL_look 19 = .ok (.ireturn, 1) := by decide +kernel
theorem dL_look_20 : decode cL_look 20 = .ok (.iload_n 3, 1) := by decide +kernel
theorem dL_look_21 : decode cL_look 21 = .ok (.ireturn, 1) := by decide +kernel
theorem dL_take_0 : decode cL_take 0 = .ok (.aload_n 0, 1) := by decide +kernel
theorem dL_take_1 : decode cL_take 1 = .ok (.iload_n 1, 1) := by decide +kernel
theorem dL_take_2 : decode cL_take 2 = .ok (.iload_n 2, 1) := by decide +kernel
theorem dL_take_3 : decode cL_take 3 = .ok (.invokevirtual 51, 3) := by decide +kernel
theorem dL_take_6 : decode cL_take 6 = .ok (.istore_n 3, 1) := by decide +kernel
theorem dL_take_7 : decode cL_take 7 = .ok (.goto 13, 3) := by decide +kernel
theorem dL_take_10 : decode cL_take 10 = .ok (.astore 4, 2) := by decide +kernel
theorem dL_take_12 : decode cL_take 12 = .ok (.bipush (-31), 2) := by decide +kernel
theorem dL_take_14 : decode cL_take 14 = .ok (.ireturn, 1) := by decide +kernel
theorem dL_take_15 : decode cL_take 15 = .ok (.astore 4, 2) := by decide +kernel
theorem dL_take_17 : decode cL_take 17 = .ok (.bipush (-33), 2) := by decide +kernel
theorem dL_take_19 : decode cL_take 19 = .ok (.ireturn, 1) := by decide +kernel
theorem dL_take_20 : decode cL_take 20 = .ok (.iload_n 3, 1) := by decide +kernel
theorem dL_take_21 : decode cL_take 21 = .ok (.ireturn, 1) := by decide +kernel
theorem dL_swap_0 : decode cL_swap 0 = .ok (.aload_n 0, 1) := by decide +kernel
theorem dL_swap_1 : decode cL_swap 1 = .ok (.iload_n 1, 1) := by decide +kernel
theorem dL_swap_2 : decode cL_swap 2 = .ok (.iload_n 2, 1) := by decide +kernel
theorem dL_swap_3 : decode cL_swap 3 = .ok (.iload_n 3, 1) := by decide +kernel
theorem dL_swap_4 : decode cL_swap 4 = .ok (.invokevirtual 54, 3) := by decide +kernel
theorem dL_swap_7 : decode cL_swap 7 = .ok (.istore 4, 2) := by decide +kernel
theorem dL_swap_9 : decode cL_swap 9 = .ok (.goto 18, 3) := by decide +kernel
theorem dL_swap_12 : decode cL_swap 12 = .ok (.astore 5, 2) := by decide +kernel
theorem dL_swap_14 : decode cL_swap 14 = .ok (.bipush (-31), 2) := by decide +kernel
theorem dL_swap_16 : decode cL_swap 16 = .ok (.ireturn, 1) := by decide +kernel
theorem dL_swap_17 : decode cL_swap 17 = .ok (.astore 5, 2) := by decide +kernel
theorem dL_swap_19 : decode cL_swap 19 = .ok (.bipush (-32), 2) := by decide +kernel
theorem dL_swap_21 : decode cL_swap 21 = .ok (.ireturn, 1) := by decide +kernel
theorem dL_swap_22 : decode cL_swap 22 = .ok (.astore 5, 2) := by decide +kernel
theorem dL_swap_24 : decode cL_swap 24 = .ok (.bipush (-33), 2) := by decide +kernel
theorem dL_swap_26 : decode cL_swap 26 = .ok (.ireturn, 1) := by decide +kernel
theorem dL_swap_27 : decode cL_swap 27 = .ok (.iload 4, 2) := by decide +kernel
theorem dL_swap_29 : decode cL_swap 29 = .ok (.ireturn, 1) := by decide +kernel
theorem dL_rake_0 : decode cL_rake 0 = .ok (.aload_n 0, 1) := by decide +kernel
theorem dL_rake_1 : decode cL_rake 1 = .ok (.iload_n 1, 1) := by decide +kernel
theorem dL_rake_2 : decode cL_rake 2 = .ok (.invokevirtual 57, 3) := by decide +kernel
theorem dL_rake_5 : decode cL_rake 5 = .ok (.istore_n 2, 1) := by decide +kernel
theorem dL_rake_6 : decode cL_rake 6 = .ok (.goto 11, 3) := by decide +kernel
theorem dL_rake_9 : decode cL_rake 9 = .ok (.astore_n 3, 1) := by decide +kernel
theorem dL_rake_10 : decode cL_rake 10 = .ok (.bipush (-31), 2) := by decide +kernel
theorem dL_rake_12 : decode cL_rake 12 = .ok (.ireturn, 1) := by decide +kernel
theorem dL_rake_13 : decode cL_rake 13 = .ok (.astore_n 3, 1) := by decide +kernel
theorem dL_rake_14 : decode cL_rake 14 = .ok (.bipush (-33), 2) := by decide +kernel
theorem dL_rake_16 : decode cL_rake 16 = .ok (.ireturn, 1) := by decide +kernel
theorem dL_rake_17 : decode cL_rake 17 = .ok (.iload_n 2, 1) := by decide +kernel
theorem dL_rake_18 : decode cL_rake 18 = .ok (.ireturn, 1) := by decide +kernel
theorem dL_set_0 : decode cL_set 0 = .ok (.aload_n 0, 1) := by decide +kernel
theorem dL_set_1 : decode cL_set 1 = .ok (.iload_n 1, 1) := by decide +kernel
theorem dL_set_2 : decode cL_set 2 = .ok (.iload_n 2, 1) := by decide +kernel
theorem dL_set_3 : decode cL_set 3 = .ok (.invokevirtual 60, 3) := by decide +kernel
theorem dL_set_6 : decode cL_set 6 = .ok (.istore_n 3, 1) := by decide +kernel
theorem dL_set_7 : decode cL_set 7 = .ok (.goto 13, 3) := by decide +kernel
theorem dL_set_10 : decode cL_set 10 = .ok (.astore 4, 2) := by decide +kernel
theorem dL_set_12 : decode cL_set 12 = .ok (.bipush (-31), 2) := by decide +kernel
theorem dL_set_14 : decode cL_set 14 = .ok (.ireturn, 1) := by decide +kernel
theorem dL_set_15 : decode cL_set 15 = .ok (.astore 4, 2) := by decide +kernel
theorem dL_set_17 : decode cL_set 17 = .ok (.bipush (-32), 2) := by decide +kernel
theorem dL_set_19 : decode cL_set 19 = .ok (.ireturn, 1) := by decide +kernel
theorem dL_set_20 : decode cL_set 20 = .ok (.iload_n 3, 1) := by decide +kernel
theorem dL_set_21 : decode cL_set 21 = .ok (.ireturn, 1) := by decide +kernel
theorem dL_undo_0 : decode cL_undo 0 = .ok (.aload_n 0, 1) := by decide +kernel
theorem dL_undo_1 : decode cL_undo 1 = .ok (.invokevirtual 63, 3) := by decide +kernel
theorem dL_undo_4 : decode cL_undo 4 = .ok (.istore_n 1, 1) := by decide +kernel
theorem dL_undo_5 : decode cL_undo 5 = .ok (.goto 7, 3) := by decide +kernel
theorem dL_undo_8 : decode cL_undo 8 = .ok (.astore_n 2, 1) := by decide +kernel
theorem dL_undo_9 : decode cL_undo 9 = .ok (.bipush (-33), 2) := by decide +kernel
theorem dL_undo_11 : decode cL_undo 11 = .ok (.ireturn, 1) := by decide +kernel
theorem dL_undo_12 : decode cL_undo 12 = .ok (.iload_n 1, 1) := by decide +kernel
theorem dL_undo_13 : decode cL_undo 13 = .ok (.ireturn, 1) := by decide +kernel
theorem dL_child_0 : decode cL_child 0 = .ok (.aload_n 0, 1) := by decide +kernel
theorem dL_child_1 : decode cL_child 1 = .ok (.iload_n 1, 1) := by decide +kernel
theorem dL_child_2 : decode cL_child 2 = .ok (.iload_n 2, 1) := by decide +kernel
theorem dL_child_3 : decode cL_child 3 = .ok (.invokevirtual 66, 3) := by decide +kernel
theorem dL_child_6 : decode cL_child 6 = .ok (.istore_n 3, 1) := by decide +kernel
theorem dL_child_7 : decode cL_child 7 = .ok (.goto 13, 3) := by decide +kernel
theorem dL_child_10 : decode cL_child 10 = .ok (.astore 4, 2) := by decide +kernel
theorem dL_child_12 : decode cL_child 12 = .ok (.bipush (-31), 2) := by decide +kernel
theorem dL_child_14 : decode cL_child 14 = .ok (.ireturn, 1) := by decide +kernel
theorem dL_child_15 : decode cL_child 15 = .ok (.astore 4, 2) := by decide +kernel
theorem dL_child_17 : decode cL_child 17 = .ok (.bipush (-32), 2) := by decide +kernel
theorem dL_child_19 : decode cL_child 19 = .ok (.ireturn, 1) := by decide +kernel
theorem dL_child_20 : decode cL_child 20 = .ok (.iload_n 3, 1) := by decide +kernel
theorem dL_child_21 : decode cL_child 21 = .ok (.ireturn, 1) := by decide +kernel
theorem dL_where_0 : decode cL_where 0 = .ok (.aload_n 1, 1) := by decide +kernel
theorem dL_where_1 : decode cL_where 1 = .ok (.iload_n 0, 1) := by decide +kernel
theorem dL_where_2 : decode cL_where 2 = .ok (.iaload, 1) := by decide +kernel
theorem dL_where_3 : decode cL_where 3 = .ok (.bipush 120, 2) := by decide +kernel
theorem dL_where_5 : decode cL_where 5 = .ok (.idiv, 1) := by decide +kernel
theorem dL_where_6 : decode cL_where 6 = .ok (.bipush 8, 2) := by decide +kernel
theorem dL_where_8 : decode cL_where 8 = .ok (.irem, 1) := by decide +kernel
theorem dL_where_9 : decode cL_where 9 = .ok (.iconst 2, 1) := by decide +kernel
theorem dL_where_10 : decode cL_where 10 = .ok (.isub, 1) := by decide +kernel
theorem dL_where_11 : decode cL_where 11 = .ok (.ireturn, 1) := by decide +kernel
theorem dL_put_0 : decode cL_put 0 = .ok (.aload_n 2, 1) := by decide +kernel
theorem dL_put_1 : decode cL_put 1 = .ok (.iload_n 0, 1) := by decide +kernel
theorem dL_put_2 : decode cL_put 2 = .ok (.dup2, 1) := by decide +kernel
theorem dL_put_3 : decode cL_put 3 = .ok (.iaload, 1) := by decide +kernel
theorem dL_put_4 : decode cL_put 4 = .ok (.bipush 120, 2) := by decide +kernel
theorem dL_put_6 : decode cL_put 6 = .ok (.iload_n 1, 1) := by decide +kernel
theorem dL_put_7 : decode cL_put 7 = .ok (.iload_n 0, 1) := by decide +kernel
theorem dL_put_8 : decode cL_put 8 = .ok (.aload_n 2, 1) := by decide +kernel
theorem dL_put_9 : decode cL_put 9 = .ok (.invokestatic 69, 3) := by decide +kernel
theorem dL_put_12 : decode cL_put 12 = .ok (.isub, 1) := by decide +kernel
theorem dL_put_13 : decode cL_put 13 = .ok (.imul, 1) := by decide +kernel
theorem dL_put_14 : decode cL_put 14 = .ok (.iadd, 1) := by decide +kernel
theorem dL_put_15 : decode cL_put 15 = .ok (.iastore, 1) := by decide +kernel
theorem dL_put_16 : decode cL_put 16 = .ok (.return_, 1) := by decide +kernel
theorem dL_branch_0 : decode cL_branch 0 = .ok (.aload_n 1, 1) := by decide +kernel
theorem dL_branch_1 : decode cL_branch 1 = .ok (.iload_n 0, 1) := by decide +kernel
theorem dL_branch_2 : decode cL_branch 2 = .ok (.iaload, 1) := by decide +kernel
theorem dL_branch_3 : decode cL_branch 3 = .ok (.bipush 10, 2) := by decide +kernel
theorem dL_branch_5 : decode cL_branch 5 = .ok (.idiv, 1) := by decide +kernel
theorem dL_branch_6 : decode cL_branch 6 = .ok (.bipush 12, 2) := by decide +kernel
theorem dL_branch_8 : decode cL_branch 8 = .ok (.irem, 1) := by decide +kernel
theorem dL_branch_9 : decode cL_branch 9 = .ok (.ireturn, 1) := by decide +kernel
theorem dL_noted_0 : decode cL_noted 0 = .ok (.aload_n 1, 1) := by decide +kernel
theorem dL_noted_1 : decode cL_noted 1 = .ok (.iload_n 0, 1) := by decide +kernel
theorem dL_noted_2 : decode cL_noted 2 = .ok (.iaload, 1) := by decide +kernel
theorem dL_noted_3 : decode cL_noted 3 = .ok (.sipush 960, 3) := by decide +kernel
theorem dL_noted_6 : decode cL_noted 6 = .ok (.idiv, 1) := by decide +kernel
theorem dL_noted_7 : decode cL_noted 7 = .ok (.iconst 1, 1) := by decide +kernel
theorem dL_noted_8 : decode cL_noted 8 = .ok (.isub, 1) := by decide +kernel
theorem dL_noted_9 : decode cL_noted 9 = .ok (.ireturn, 1) := by decide +kernel
theorem dL_pins_0 : decode cL_pins 0 = .ok (.iconst 0, 1) := by decide +kernel
theorem dL_pins_1 : decode cL_pins 1 = .ok (.istore 4, 2) := by decide +kernel
theorem dL_pins_3 : decode cL_pins 3 = .ok (.iconst 0, 1) := by decide +kernel
theorem dL_pins_4 : decode cL_pins 4 = .ok (.istore 5, 2) := by decide +kernel
theorem dL_pins_6 : decode cL_pins 6 = .ok (.iload 5, 2) := by decide +kernel
theorem dL_pins_8 : decode cL_pins 8 = .ok (.bipush 15, 2) := by decide +kernel
theorem dL_pins_10 : decode cL_pins 10 = .ok (.if_icmp .ge 49, 3) := by decide +kernel
theorem dL_pins_13 : decode cL_pins 13 = .ok (.iload 4, 2) := by decide +kernel
theorem dL_pins_15 : decode cL_pins 15 = .ok (.aload_n 3, 1) := by decide +kernel
theorem dL_pins_16 : decode cL_pins 16 = .ok (.iconst 2, 1) := by decide +kernel
theorem dL_pins_17 : decode cL_pins 17 = .ok (.iload 5, 2) := by decide +kernel
theorem dL_pins_19 : decode cL_pins 19 = .ok (.imul, 1) := by decide +kernel
theorem dL_pins_20 : decode cL_pins 20 = .ok (.iaload, 1) := by decide +kernel
theorem dL_pins_21 : decode cL_pins 21 = .ok (.iload_n 1, 1) := by decide +kernel
theorem dL_pins_22 : decode cL_pins 22 = .ok (.if_icmp .ne 27, 3) := by decide +kernel
theorem dL_pins_25 : decode cL_pins 25 = .ok (.aload_n 3, 1) := by decide +kernel
theorem dL_pins_26 : decode cL_pins 26 = .ok (.iconst 2, 1) := by decide +kernel
theorem dL_pins_27 : decode cL_pins 27 = .ok (.iload 5, 2) := by decide +kernel
theorem dL_pins_29 : decode cL_pins 29 = .ok (.imul, 1) := by decide +kernel
theorem dL_pins_30 : decode cL_pins 30 = .ok (.iconst 1, 1) := by decide +kernel
theorem dL_pins_31 : decode cL_pins 31 = .ok (.iadd, 1) := by decide +kernel
theorem dL_pins_32 : decode cL_pins 32 = .ok (.iaload, 1) := by decide +kernel
theorem dL_pins_33 : decode cL_pins 33 = .ok (.iload_n 0, 1) := by decide +kernel
theorem dL_pins_34 : decode cL_pins 34 = .ok (.if_icmp .ne 15, 3) := by decide +kernel
theorem dL_pins_37 : decode cL_pins 37 = .ok (.iload 5, 2) := by decide +kernel
theorem dL_pins_39 : decode cL_pins 39 = .ok (.iconst 3, 1) := by decide +kernel
theorem dL_pins_40 : decode cL_pins 40 = .ok (.idiv, 1) := by decide +kernel
theorem dL_pins_41 : decode cL_pins 41 = .ok (.iload_n 2, 1) := by decide +kernel
theorem dL_pins_42 : decode cL_pins 42 = .ok (.if_icmp .eq 7, 3) := by decide +kernel
theorem dL_pins_45 : decode cL_pins 45 = .ok (.iconst 1, 1) := by decide +kernel
theorem dL_pins_46 : decode cL_pins 46 = .ok (.goto 4, 3) := by decide +kernel
theorem dL_pins_49 : decode cL_pins 49 = .ok (.iconst 0, 1) := by decide +kernel
theorem dL_pins_50 : decode cL_pins 50 = .ok (.iadd, 1) := by decide +kernel
theorem dL_pins_51 : decode cL_pins 51 = .ok (.istore 4, 2) := by decide +kernel
theorem dL_pins_53 : decode cL_pins 53 = .ok (.iinc 5 1, 3) := by decide +kernel
theorem dL_pins_56 : decode cL_pins 56 = .ok (.goto (-50), 3) := by decide +kernel
theorem dL_pins_59 : decode cL_pins 59 = .ok (.iload 4, 2) := by decide +kernel
theorem dL_pins_61 : decode cL_pins 61 = .ok (.ireturn, 1) := by decide +kernel
theorem dL_may_0 : decode cL_may 0 = .ok (.iload_n 1, 1) := by decide +kernel
theorem dL_may_1 : decode cL_may 1 = .ok (.ifCond .ne 22, 3) := by decide +kernel
theorem dL_may_4 : decode cL_may 4 = .ok (.iload_n 0, 1) := by decide +kernel
theorem dL_may_5 : decode cL_may 5 = .ok (.iconst 2, 1) := by decide +kernel
theorem dL_may_6 : decode cL_may 6 = .ok (.iload_n 2, 1) := by decide +kernel
theorem dL_may_7 : decode cL_may 7 = .ok (.aload 5, 2) := by decide +kernel
theorem dL_may_9 : decode cL_may 9 = .ok (.invokestatic 75, 3) := by decide +kernel
theorem dL_may_12 : decode cL_may 12 = .ok (.ifCond .ne 7, 3) := by decide +kernel
theorem dL_may_15 : decode cL_may 15 = .ok (.iconst 1, 1) := by decide +kernel
theorem dL_may_16 : decode cL_may 16 = .ok (.goto 26, 3) := by decide +kernel
theorem dL_may_19 : decode cL_may 19 = .ok (.iconst 0, 1) := by decide +kernel
theorem dL_may_20 : decode cL_may 20 = .ok (.goto 22, 3) := by decide +kernel
theorem dL_may_23 : decode cL_may 23 = .ok (.aload_n 3, 1) := by decide +kernel
theorem dL_may_24 : decode cL_may 24 = .ok (.iconst 0, 1) := by decide +kernel
theorem dL_may_25 : decode cL_may 25 = .ok (.iaload, 1) := by decide +kernel
theorem dL_may_26 : decode cL_may 26 = .ok (.iload_n 0, 1) := by decide +kernel
theorem dL_may_27 : decode cL_may 27 = .ok (.aload 4, 2) := by decide +kernel
theorem dL_may_29 : decode cL_may 29 = .ok (.invokestatic 79, 3) := by decide +kernel
theorem dL_may_32 : decode cL_may 32 = .ok (.iconst 2, 1) := by decide +kernel
theorem dL_may_33 : decode cL_may 33 = .ok (.iadd, 1) := by decide +kernel
theorem dL_may_34 : decode cL_may 34 = .ok (.if_icmp .lt 7, 3) := by decide +kernel
theorem dL_may_37 : decode cL_may 37 = .ok (.iconst 1, 1) := by decide +kernel
theorem dL_may_38 : decode cL_may 38 = .ok (.goto 4, 3) := by decide +kernel
theorem dL_may_41 : decode cL_may 41 = .ok (.iconst 0, 1) := by decide +kernel
theorem dL_may_42 : decode cL_may 42 = .ok (.ireturn, 1) := by decide +kernel
theorem dL_heap_0 : decode cL_heap 0 = .ok (.iconst 0, 1) := by decide +kernel
theorem dL_heap_1 : decode cL_heap 1 = .ok (.istore 4, 2) := by decide +kernel
theorem dL_heap_3 : decode cL_heap 3 = .ok (.iconst 0, 1) := by decide +kernel
theorem dL_heap_4 : decode cL_heap 4 = .ok (.istore 5, 2) := by decide +kernel
theorem dL_heap_6 : decode cL_heap 6 = .ok (.iload 5, 2) := by decide +kernel
theorem dL_heap_8 : decode cL_heap 8 = .ok (.aload_n 1, 1) := by decide +kernel
theorem dL_heap_9 : decode cL_heap 9 = .ok (.bipush 9, 2) := by decide +kernel
theorem dL_heap_11 : decode cL_heap 11 = .ok (.iaload, 1) := by decide +kernel
theorem dL_heap_12 : decode cL_heap 12 = .ok (.if_icmp .ge 31, 3) := by decide +kernel
theorem dL_heap_15 : decode cL_heap 15 = .ok (.iload 4, 2) := by decide +kernel
theorem dL_heap_17 : decode cL_heap 17 = .ok (.aload_n 3, 1) := by decide +kernel
theorem dL_heap_18 : decode cL_heap 18 = .ok (.iload 5, 2) := by decide +kernel
theorem dL_heap_20 : decode cL_heap 20 = .ok (.iaload, 1) := by decide +kernel
theorem dL_heap_21 : decode cL_heap 21 = .ok (.aload_n 2, 1) := by decide +kernel
theorem dL_heap_22 : decode cL_heap 22 = .ok (.invokestatic 69, 3) := by decide +kernel
theorem dL_heap_25 : decode cL_heap 25 = .ok (.iload_n 0, 1) := by decide +kernel
theorem dL_heap_26 : decode cL_heap 26 = .ok (.if_icmp .ne 7, 3) := by decide +kernel
theorem dL_heap_29 : decode cL_heap 29 = .ok (.iconst 1, 1) := by decide +kernel
theorem dL_heap_30 : decode cL_heap 30 = .ok (.goto 4, 3) := by decide +kernel
theorem dL_heap_33 : decode cL_heap 33 = .ok (.iconst 0, 1) := by decide +kernel
theorem dL_heap_34 : decode cL_heap 34 = .ok (.iadd, 1) := by decide +kernel
theorem dL_heap_35 : decode cL_heap 35 = .ok (.istore 4, 2) := by decide +kernel
theorem dL_heap_37 : decode cL_heap 37 = .ok (.iinc 5 1, 3) := by decide +kernel
theorem dL_heap_40 : decode cL_heap 40 = .ok (.goto (-34), 3) := by decide +kernel
theorem dL_heap_43 : decode cL_heap 43 = .ok (.iload 4, 2) := by decide +kernel
theorem dL_heap_45 : decode cL_heap 45 = .ok (.ireturn, 1) := by decide +kernel
theorem dL_children_0 : decode cL_children 0 = .ok (.iconst 0, 1) := by decide +kernel
theorem dL_children_1 : decode cL_children 1 = .ok (.istore_n 1, 1) := by decide +kernel
theorem dL_children_2 : decode cL_children 2 = .ok (.iconst 0, 1) := by decide +kernel
theorem dL_children_3 : decode cL_children 3 = .ok (.istore_n 2, 1) := by decide +kernel
theorem dL_children_4 : decode cL_children 4 = .ok (.iload_n 2, 1) := by decide +kernel
theorem dL_children_5 : decode cL_children 5 = .ok (.iconst 5, 1) := by decide +kernel
theorem dL_children_6 : decode cL_children 6 = .ok (.if_icmp .ge 18, 3) := by decide +kernel
theorem dL_children_9 : decode cL_children 9 = .ok (.iload_n 1, 1) := by decide +kernel
theorem dL_children_10 : decode cL_children 10 = .ok (.aload_n 0, 1) := by decide +kernel
theorem dL_children_11 : decode cL_children 11 = .ok (.bipush 6, 2) := by decide +kernel
theorem dL_children_13 : decode cL_children 13 = .ok (.iload_n 2, 1) := by decide +kernel
theorem dL_children_14 : decode cL_children 14 = .ok (.imul, 1) := by decide +kernel
theorem dL_children_15 : decode cL_children 15 = .ok (.iaload, 1) := by decide +kernel
theorem dL_children_16 : decode cL_children 16 = .ok (.iadd, 1) := by decide +kernel
theorem dL_children_17 : decode cL_children 17 = .ok (.istore_n 1, 1) := by decide +kernel
theorem dL_children_18 : decode cL_children 18 = .ok (.iinc 2 1, 3) := by decide +kernel
theorem dL_children_21 : decode cL_children 21 = .ok (.goto (-17), 3) := by decide +kernel
theorem dL_children_24 : decode cL_children 24 = .ok (.iload_n 1, 1) := by decide +kernel
theorem dL_children_25 : decode cL_children 25 = .ok (.ireturn, 1) := by decide +kernel
theorem dL_raked_0 : decode cL_raked 0 = .ok (.iconst 0, 1) := by decide +kernel
theorem dL_raked_1 : decode cL_raked 1 = .ok (.istore 6, 2) := by decide +kernel
theorem dL_raked_3 : decode cL_raked 3 = .ok (.aload_n 1, 1) := by decide +kernel
theorem dL_raked_4 : decode cL_raked 4 = .ok (.bipush 9, 2) := by decide +kernel
theorem dL_raked_6 : decode cL_raked 6 = .ok (.iaload, 1) := by decide +kernel
theorem dL_raked_7 : decode cL_raked 7 = .ok (.istore 7, 2) := by decide +kernel
theorem dL_raked_9 : decode cL_raked 9 = .ok (.iconst 0, 1) := by decide +kernel
theorem dL_raked_10 : decode cL_raked 10 = .ok (.istore 8, 2) := by decide +kernel
theorem dL_raked_12 : decode cL_raked 12 = .ok (.iload 8, 2) := by decide +kernel
theorem dL_raked_14 : decode cL_raked 14 = .ok (.iload 7, 2) := by decide +kernel
theorem dL_raked_16 : decode cL_raked 16 = .ok (.if_icmp .ge 62, 3) := by decide +kernel
theorem dL_raked_19 : decode cL_raked 19 = .ok (.aload_n 3, 1) := by decide +kernel
theorem dL_raked_20 : decode cL_raked 20 = .ok (.iload 8, 2) := by decide +kernel
theorem dL_raked_22 : decode cL_raked 22 = .ok (.iaload, 1) := by decide +kernel
theorem dL_raked_23 : decode cL_raked 23 = .ok (.istore 9, 2) := by decide +kernel
theorem dL_raked_25 : decode cL_raked 25 = .ok (.iload 9, 2) := by decide +kernel
theorem dL_raked_27 : decode cL_raked 27 = .ok (.aload_n 2, 1) := by decide +kernel
theorem dL_raked_28 : decode cL_raked 28 = .ok (.invokestatic 69, 3) := by decide +kernel
theorem dL_raked_31 : decode cL_raked 31 = .ok (.iload_n 0, 1) := by decide +kernel
theorem dL_raked_32 : decode cL_raked 32 = .ok (.if_icmp .ne 31, 3) := by decide +kernel
theorem dL_raked_35 : decode cL_raked 35 = .ok (.iload 9, 2) := by decide +kernel
theorem dL_raked_37 : decode cL_raked 37 = .ok (.aload_n 1, 1) := by decide +kernel
theorem dL_raked_38 : decode cL_raked 38 = .ok (.bipush 8, 2) := by decide +kernel
theorem dL_raked_40 : decode cL_raked 40 = .ok (.iaload, 1) := by decide +kernel
theorem dL_raked_41 : decode cL_raked 41 = .ok (.iconst (-1), 1) := by decide +kernel
theorem dL_raked_42 : decode cL_raked 42 = .ok (.aload_n 1, 1) := by decide +kernel
theorem dL_raked_43 : decode cL_raked 43 = .ok (.aload_n 2, 1) := by decide +kernel
theorem dL_raked_44 : decode cL_raked 44 = .ok (.aload 5, 2) := by decide +kernel
theorem dL_raked_46 : decode cL_raked 46 = .ok (.invokestatic 82, 3) := by decide +kernel
theorem dL_raked_49 : decode cL_raked 49 = .ok (.ifCond .eq 14, 3) := by decide +kernel
theorem dL_raked_52 : decode cL_raked 52 = .ok (.iload 9, 2) := by decide +kernel
theorem dL_raked_54 : decode cL_raked 54 = .ok (.bipush (-2), 2) := by decide +kernel
theorem dL_raked_56 : decode cL_raked 56 = .ok (.aload_n 2, 1) := by decide +kernel
theorem dL_raked_57 : decode cL_raked 57 = .ok (.invokestatic 86, 3) := by decide +kernel
theorem dL_raked_60 : decode cL_raked 60 = .ok (.goto 12, 3) := by decide +kernel
theorem dL_raked_63 : decode cL_raked 63 = .ok (.aload_n 3, 1) := by decide +kernel
theorem dL_raked_64 : decode cL_raked 64 = .ok (.iload 6, 2) := by decide +kernel
theorem dL_raked_66 : decode cL_raked 66 = .ok (.iload 9, 2) := by decide +kernel
theorem dL_raked_68 : decode cL_raked 68 = .ok (.iastore, 1) := by decide +kernel
theorem dL_raked_69 : decode cL_raked 69 = .ok (.iinc 6 1, 3) := by decide +kernel
theorem dL_raked_72 : decode cL_raked 72 = .ok (.iinc 8 1, 3) := by decide +kernel
theorem dL_raked_75 : decode cL_raked 75 = .ok (.goto (-63), 3) := by decide +kernel
theorem dL_raked_78 : decode cL_raked 78 = .ok (.aload_n 1, 1) := by decide +kernel
theorem dL_raked_79 : decode cL_raked 79 = .ok (.bipush 9, 2) := by decide +kernel
theorem dL_raked_81 : decode cL_raked 81 = .ok (.iload 6, 2) := by decide +kernel
theorem dL_raked_83 : decode cL_raked 83 = .ok (.iastore, 1) := by decide +kernel
theorem dL_raked_84 : decode cL_raked 84 = .ok (.aload_n 1, 1) := by decide +kernel
theorem dL_raked_85 : decode cL_raked 85 = .ok (.iconst 2, 1) := by decide +kernel
theorem dL_raked_86 : decode cL_raked 86 = .ok (.dup2, 1) := by decide +kernel
theorem dL_raked_87 : decode cL_raked 87 = .ok (.iaload, 1) := by decide +kernel
theorem dL_raked_88 : decode cL_raked 88 = .ok (.iconst 1, 1) := by decide +kernel
theorem dL_raked_89 : decode cL_raked 89 = .ok (.iadd, 1) := by decide +kernel
theorem dL_raked_90 : decode cL_raked 90 = .ok (.iastore, 1) := by decide +kernel
theorem dL_raked_91 : decode cL_raked 91 = .ok (.aload_n 1, 1) := by decide +kernel
theorem dL_raked_92 : decode cL_raked 92 = .ok (.iconst 3, 1) := by decide +kernel
theorem dL_raked_93 : decode cL_raked 93 = .ok (.dup2, 1) := by decide +kernel
theorem dL_raked_94 : decode cL_raked 94 = .ok (.iaload, 1) := by decide +kernel
theorem dL_raked_95 : decode cL_raked 95 = .ok (.aload_n 1, 1) := by decide +kernel
theorem dL_raked_96 : decode cL_raked 96 = .ok (.bipush 8, 2) := by decide +kernel
theorem dL_raked_98 : decode cL_raked 98 = .ok (.iaload, 1) := by decide +kernel
theorem dL_raked_99 : decode cL_raked 99 = .ok (.ifCond .ne 13, 3) := by decide +kernel
theorem dL_raked_102 : decode cL_raked 102 = .ok (.iconst 3, 1) := by decide +kernel
theorem dL_raked_103 : decode cL_raked 103 = .ok (.aload 4, 2) := by decide +kernel
theorem dL_raked_105 : decode cL_raked 105 = .ok (.invokestatic 90, 3) := by decide +kernel
theorem dL_raked_108 : decode cL_raked 108 = .ok (.imul, 1) := by decide +kernel
theorem dL_raked_109 : decode cL_raked 109 = .ok (.goto 4, 3) := by decide +kernel
theorem dL_raked_112 : decode cL_raked 112 = .ok (.iconst 0, 1) := by decide +kernel
theorem dL_raked_113 : decode cL_raked 113 = .ok (.iadd, 1) := by decide +kernel
theorem dL_raked_114 : decode cL_raked 114 = .ok (.iastore, 1) := by decide +kernel
theorem dL_raked_115 : decode cL_raked 115 = .ok (.aload 4, 2) := by decide +kernel
theorem dL_raked_117 : decode cL_raked 117 = .ok (.bipush 6, 2) := by decide +kernel
theorem dL_raked_119 : decode cL_raked 119 = .ok (.iload_n 0, 1) := by decide +kernel
theorem dL_raked_120 : decode cL_raked 120 = .ok (.imul, 1) := by decide +kernel
theorem dL_raked_121 : decode cL_raked 121 = .ok (.iconst 4, 1) := by decide +kernel
theorem dL_raked_122 : decode cL_raked 122 = .ok (.iadd, 1) := by decide +kernel
theorem dL_raked_123 : decode cL_raked 123 = .ok (.dup2, 1) := by decide +kernel
theorem dL_raked_124 : decode cL_raked 124 = .ok (.iaload, 1) := by decide +kernel
theorem dL_raked_125 : decode cL_raked 125 = .ok (.iload 7, 2) := by decide +kernel
theorem dL_raked_127 : decode cL_raked 127 = .ok (.iload 6, 2) := by decide +kernel
theorem dL_raked_129 : decode cL_raked 129 = .ok (.isub, 1) := by decide +kernel
theorem dL_raked_130 : decode cL_raked 130 = .ok (.iadd, 1) := by decide +kernel
theorem dL_raked_131 : decode cL_raked 131 = .ok (.iastore, 1) := by decide +kernel
theorem dL_raked_132 : decode cL_raked 132 = .ok (.aload 4, 2) := by decide +kernel
theorem dL_raked_134 : decode cL_raked 134 = .ok (.bipush 6, 2) := by decide +kernel
theorem dL_raked_136 : decode cL_raked 136 = .ok (.iload_n 0, 1) := by decide +kernel
theorem dL_raked_137 : decode cL_raked 137 = .ok (.imul, 1) := by decide +kernel
theorem dL_raked_138 : decode cL_raked 138 = .ok (.iconst 5, 1) := by decide +kernel
theorem dL_raked_139 : decode cL_raked 139 = .ok (.iadd, 1) := by decide +kernel
theorem dL_raked_140 : decode cL_raked 140 = .ok (.dup2, 1) := by decide +kernel
theorem dL_raked_141 : decode cL_raked 141 = .ok (.iaload, 1) := by decide +kernel
theorem dL_raked_142 : decode cL_raked 142 = .ok (.iconst 1, 1) := by decide +kernel
theorem dL_raked_143 : decode cL_raked 143 = .ok (.iadd, 1) := by decide +kernel
theorem dL_raked_144 : decode cL_raked 144 = .ok (.iastore, 1) := by decide +kernel
theorem dL_raked_145 : decode cL_raked 145 = .ok (.iload 7, 2) := by decide +kernel
theorem dL_raked_147 : decode cL_raked 147 = .ok (.iload 6, 2) := by decide +kernel
theorem dL_raked_149 : decode cL_raked 149 = .ok (.isub, 1) := by decide +kernel
theorem dL_raked_150 : decode cL_raked 150 = .ok (.ireturn, 1) := by decide +kernel
theorem dL_taken_0 : decode cL_taken 0 = .ok (.aload_n 3, 1) := by decide +kernel
theorem dL_taken_1 : decode cL_taken 1 = .ok (.iload_n 1, 1) := by decide +kernel
theorem dL_taken_2 : decode cL_taken 2 = .ok (.iaload, 1) := by decide +kernel
theorem dL_taken_3 : decode cL_taken 3 = .ok (.istore 8, 2) := by decide +kernel
theorem dL_taken_5 : decode cL_taken 5 = .ok (.aload_n 3, 1) := by decide +kernel
theorem dL_taken_6 : decode cL_taken 6 = .ok (.iload_n 1, 1) := by decide +kernel
theorem dL_taken_7 : decode cL_taken 7 = .ok (.iconst (-1), 1) := by decide +kernel
theorem dL_taken_8 : decode cL_taken 8 = .ok (.iastore, 1) := by decide +kernel
theorem dL_taken_9 : decode cL_taken 9 = .ok (.aload 4, 2) := by decide +kernel
theorem dL_taken_11 : decode cL_taken 11 = .ok (.iload 8, 2) := by decide +kernel
theorem dL_taken_13 : decode cL_taken 13 = .ok (.aload 4, 2) := by decide +kernel
theorem dL_taken_15 : decode cL_taken 15 = .ok (.iload 8, 2) := by decide +kernel
theorem dL_taken_17 : decode cL_taken 17 = .ok (.iaload, 1) := by decide +kernel
theorem dL_taken_18 : decode cL_taken 18 = .ok (.sipush 960, 3) := by decide +kernel
theorem dL_taken_21 : decode cL_taken 21 = .ok (.irem, 1) := by decide +kernel
theorem dL_taken_22 : decode cL_taken 22 = .ok (.sipush 960, 3) := by decide +kernel
theorem dL_taken_25 : decode cL_taken 25 = .ok (.aload_n 2, 1) := by decide +kernel
theorem dL_taken_26 : decode cL_taken 26 = .ok (.iconst 0, 1) := by decide +kernel
theorem dL_taken_27 : decode cL_taken 27 = .ok (.iaload, 1) := by decide +kernel
theorem dL_taken_28 : decode cL_taken 28 = .ok (.iconst 1, 1) := by decide +kernel
theorem dL_taken_29 : decode cL_taken 29 = .ok (.iadd, 1) := by decide +kernel
theorem dL_taken_30 : decode cL_taken 30 = .ok (.imul, 1) := by decide +kernel
theorem dL_taken_31 : decode cL_taken 31 = .ok (.iadd, 1) := by decide +kernel
theorem dL_taken_32 : decode cL_taken 32 = .ok (.iastore, 1) := by decide +kernel
theorem dL_taken_33 : decode cL_taken 33 = .ok (.iload 8, 2) := by decide +kernel
theorem dL_taken_35 : decode cL_taken 35 = .ok (.iload_n 0, 1) := by decide +kernel
theorem dL_taken_36 : decode cL_taken 36 = .ok (.aload 4, 2) := by decide +kernel
theorem dL_taken_38 : decode cL_taken 38 = .ok (.invokestatic 86, 3) := by decide +kernel
theorem dL_taken_41 : decode cL_taken 41 = .ok (.aload 5, 2) := by decide +kernel
theorem dL_taken_43 : decode cL_taken 43 = .ok (.aload_n 2, 1) := by decide +kernel
theorem dL_taken_44 : decode cL_taken 44 = .ok (.bipush 9, 2) := by decide +kernel
theorem dL_taken_46 : decode cL_taken 46 = .ok (.iaload, 1) := by decide +kernel
theorem dL_taken_47 : decode cL_taken 47 = .ok (.iload 8, 2) := by decide +kernel
theorem dL_taken_49 : decode cL_taken 49 = .ok (.iastore, 1) := by decide +kernel
theorem dL_taken_50 : decode cL_taken 50 = .ok (.aload_n 2, 1) := by decide +kernel
theorem dL_taken_51 : decode cL_taken 51 = .ok (.bipush 9, 2) := by decide +kernel
theorem dL_taken_53 : decode cL_taken 53 = .ok (.dup2, 1) := by decide +kernel
theorem dL_taken_54 : decode cL_taken 54 = .ok (.iaload, 1) := by decide +kernel
theorem dL_taken_55 : decode cL_taken 55 = .ok (.iconst 1, 1) := by decide +kernel
theorem dL_taken_56 : decode cL_taken 56 = .ok (.iadd, 1) := by decide +kernel
theorem dL_taken_57 : decode cL_taken 57 = .ok (.iastore, 1) := by decide +kernel
theorem dL_taken_58 : decode cL_taken 58 = .ok (.aload 6, 2) := by decide +kernel
theorem dL_taken_60 : decode cL_taken 60 = .ok (.bipush 6, 2) := by decide +kernel
theorem dL_taken_62 : decode cL_taken 62 = .ok (.iload_n 0, 1) := by decide +kernel
theorem dL_taken_63 : decode cL_taken 63 = .ok (.imul, 1) := by decide +kernel
theorem dL_taken_64 : decode cL_taken 64 = .ok (.iconst 3, 1) := by decide +kernel
theorem dL_taken_65 : decode cL_taken 65 = .ok (.iadd, 1) := by decide +kernel
theorem dL_taken_66 : decode cL_taken 66 = .ok (.dup2, 1) := by decide +kernel
theorem dL_taken_67 : decode cL_taken 67 = .ok (.iaload, 1) := by decide +kernel
theorem dL_taken_68 : decode cL_taken 68 = .ok (.iconst 1, 1) := by decide +kernel
theorem dL_taken_69 : decode cL_taken 69 = .ok (.iadd, 1) := by decide +kernel
theorem dL_taken_70 : decode cL_taken 70 = .ok (.iastore, 1) := by decide +kernel
theorem dL_taken_71 : decode cL_taken 71 = .ok (.iload_n 0, 1) := by decide +kernel
theorem dL_taken_72 : decode cL_taken 72 = .ok (.aload_n 2, 1) := by decide +kernel
theorem dL_taken_73 : decode cL_taken 73 = .ok (.aload 4, 2) := by decide +kernel
theorem dL_taken_75 : decode cL_taken 75 = .ok (.aload 5, 2) := by decide +kernel
theorem dL_taken_77 : decode cL_taken 77 = .ok (.invokestatic 94, 3) := by decide +kernel
theorem dL_taken_80 : decode cL_taken 80 = .ok (.aload_n 2, 1) := by decide +kernel
theorem dL_taken_81 : decode cL_taken 81 = .ok (.bipush 7, 2) := by decide +kernel
theorem dL_taken_83 : decode cL_taken 83 = .ok (.iaload, 1) := by decide +kernel
theorem dL_taken_84 : decode cL_taken 84 = .ok (.if_icmp .lt 19, 3) := by decide +kernel
theorem dL_taken_87 : decode cL_taken 87 = .ok (.iload_n 0, 1) := by decide +kernel
theorem dL_taken_88 : decode cL_taken 88 = .ok (.aload_n 2, 1) := by decide +kernel
theorem dL_taken_89 : decode cL_taken 89 = .ok (.aload 4, 2) := by decide +kernel
theorem dL_taken_91 : decode cL_taken 91 = .ok (.aload 5, 2) := by decide +kernel
theorem dL_taken_93 : decode cL_taken 93 = .ok (.aload 6, 2) := by decide +kernel
theorem dL_taken_95 : decode cL_taken 95 = .ok (.aload 7, 2) := by decide +kernel
theorem dL_taken_97 : decode cL_taken 97 = .ok (.invokestatic 98, 3) := by decide +kernel
theorem dL_taken_100 : decode cL_taken 100 = .ok (.goto 4, 3) := by decide +kernel
theorem dL_taken_103 : decode cL_taken 103 = .ok (.iconst 0, 1) := by decide +kernel
theorem dL_taken_104 : decode cL_taken 104 = .ok (.istore 9, 2) := by decide +kernel
theorem dL_taken_106 : decode cL_taken 106 = .ok (.aload_n 2, 1) := by decide +kernel
theorem dL_taken_107 : decode cL_taken 107 = .ok (.bipush 6, 2) := by decide +kernel
theorem dL_taken_109 : decode cL_taken 109 = .ok (.aload_n 2, 1) := by decide +kernel
theorem dL_taken_110 : decode cL_taken 110 = .ok (.bipush 9, 2) := by decide +kernel
theorem dL_taken_112 : decode cL_taken 112 = .ok (.iaload, 1) := by decide +kernel
theorem dL_taken_113 : decode cL_taken 113 = .ok (.aload_n 2, 1) := by decide +kernel
theorem dL_taken_114 : decode cL_taken 114 = .ok (.bipush 6, 2) := by decide +kernel
theorem dL_taken_116 : decode cL_taken 116 = .ok (.iaload, 1) := by decide +kernel
theorem dL_taken_117 : decode cL_taken 117 = .ok (.if_icmp .le 10, 3) := by decide +kernel
theorem dL_taken_120 : decode cL_taken 120 = .ok (.aload_n 2, 1) := by decide +kernel
theorem dL_taken_121 : decode cL_taken 121 = .ok (.bipush 9, 2) := by decide +kernel
theorem dL_taken_123 : decode cL_taken 123 = .ok (.iaload, 1) := by decide +kernel
theorem dL_taken_124 : decode cL_taken 124 = .ok (.goto 7, 3) := by decide +kernel
theorem dL_taken_127 : decode cL_taken 127 = .ok (.aload_n 2, 1) := by decide +kernel
theorem dL_taken_128 : decode cL_taken 128 = .ok (.bipush 6, 2) := by decide +kernel
theorem dL_taken_130 : decode cL_taken 130 = .ok (.iaload, 1) := by decide +kernel
theorem dL_taken_131 : decode cL_taken 131 = .ok (.iastore, 1) := by decide +kernel
theorem dL_taken_132 : decode cL_taken 132 = .ok (.iload 9, 2) := by decide +kernel
theorem dL_taken_134 : decode cL_taken 134 = .ok (.ireturn, 1) := by decide +kernel
theorem dL_grown_0 : decode cL_grown 0 = .ok (.aload_n 2, 1) := by decide +kernel
theorem dL_grown_1 : decode cL_grown 1 = .ok (.iconst 1, 1) := by decide +kernel
theorem dL_grown_2 : decode cL_grown 2 = .ok (.iaload, 1) := by decide +kernel
theorem dL_grown_3 : decode cL_grown 3 = .ok (.istore 5, 2) := by decide +kernel
theorem dL_grown_5 : decode cL_grown 5 = .ok (.aload 4, 2) := by decide +kernel
theorem dL_grown_7 : decode cL_grown 7 = .ok (.iload 5, 2) := by decide +kernel
theorem dL_grown_9 : decode cL_grown 9 = .ok (.bipush 120, 2) := by decide +kernel
theorem dL_grown_11 : decode cL_grown 11 = .ok (.bipush 10, 2) := by decide +kernel
theorem dL_grown_13 : decode cL_grown 13 = .ok (.iload_n 0, 1) := by decide +kernel
theorem dL_grown_14 : decode cL_grown 14 = .ok (.imul, 1) := by decide +kernel
theorem dL_grown_15 : decode cL_grown 15 = .ok (.iadd, 1) := by decide +kernel
theorem dL_grown_16 : decode cL_grown 16 = .ok (.iload_n 1, 1) := by decide +kernel
theorem dL_grown_17 : decode cL_grown 17 = .ok (.iadd, 1) := by decide +kernel
theorem dL_grown_18 : decode cL_grown 18 = .ok (.iastore, 1) := by decide +kernel
theorem dL_grown_19 : decode cL_grown 19 = .ok (.aload_n 3, 1) := by decide +kernel
theorem dL_grown_20 : decode cL_grown 20 = .ok (.iload_n 0, 1) := by decide +kernel
theorem dL_grown_21 : decode cL_grown 21 = .ok (.iload 5, 2) := by decide +kernel
theorem dL_grown_23 : decode cL_grown 23 = .ok (.iastore, 1) := by decide +kernel
theorem dL_grown_24 : decode cL_grown 24 = .ok (.aload_n 2, 1) := by decide +kernel
theorem dL_grown_25 : decode cL_grown 25 = .ok (.iconst 1, 1) := by decide +kernel
theorem dL_grown_26 : decode cL_grown 26 = .ok (.dup2, 1) := by decide +kernel
theorem dL_grown_27 : decode cL_grown 27 = .ok (.iaload, 1) := by decide +kernel
theorem dL_grown_28 : decode cL_grown 28 = .ok (.iconst 1, 1) := by decide +kernel
theorem dL_grown_29 : decode cL_grown 29 = .ok (.iadd, 1) := by decide +kernel
theorem dL_grown_30 : decode cL_grown 30 = .ok (.iastore, 1) := by decide +kernel
theorem dL_grown_31 : decode cL_grown 31 = .ok (.iload 5, 2) := by decide +kernel
theorem dL_grown_33 : decode cL_grown 33 = .ok (.ireturn, 1) := by decide +kernel
theorem dL_late_0 : decode cL_late 0 = .ok (.iconst 0, 1) := by decide +kernel
theorem dL_late_1 : decode cL_late 1 = .ok (.istore_n 2, 1) := by decide +kernel
theorem dL_late_2 : decode cL_late 2 = .ok (.iconst 0, 1) := by decide +kernel
theorem dL_late_3 : decode cL_late 3 = .ok (.istore_n 3, 1) := by decide +kernel
theorem dL_late_4 : decode cL_late 4 = .ok (.iload_n 3, 1) := by decide +kernel
theorem dL_late_5 : decode cL_late 5 = .ok (.iconst 5, 1) := by decide +kernel
theorem dL_late_6 : decode cL_late 6 = .ok (.if_icmp .ge 45, 3) := by decide +kernel
theorem dL_late_9 : decode cL_late 9 = .ok (.iload_n 2, 1) := by decide +kernel
theorem dL_late_10 : decode cL_late 10 = .ok (.aload_n 1, 1) := by decide +kernel
theorem dL_late_11 : decode cL_late 11 = .ok (.bipush 6, 2) := by decide +kernel
theorem dL_late_13 : decode cL_late 13 = .ok (.iload_n 3, 1) := by decide +kernel
theorem dL_late_14 : decode cL_late 14 = .ok (.imul, 1) := by decide +kernel
theorem dL_late_15 : decode cL_late 15 = .ok (.iconst 1, 1) := by decide +kernel
theorem dL_late_16 : decode cL_late 16 = .ok (.iadd, 1) := by decide +kernel
theorem dL_late_17 : decode cL_late 17 = .ok (.iaload, 1) := by decide +kernel
theorem dL_late_18 : decode cL_late 18 = .ok (.iconst 1, 1) := by decide +kernel
theorem dL_late_19 : decode cL_late 19 = .ok (.if_icmp .ne 23, 3) := by decide +kernel
theorem dL_late_22 : decode cL_late 22 = .ok (.aload_n 1, 1) := by decide +kernel
theorem dL_late_23 : decode cL_late 23 = .ok (.bipush 6, 2) := by decide +kernel
theorem dL_late_25 : decode cL_late 25 = .ok (.iload_n 3, 1) := by decide +kernel
theorem dL_late_26 : decode cL_late 26 = .ok (.imul, 1) := by decide +kernel
theorem dL_late_27 : decode cL_late 27 = .ok (.iconst 2, 1) := by decide +kernel
theorem dL_late_28 : decode cL_late 28 = .ok (.iadd, 1) := by decide +kernel
theorem dL_late_29 : decode cL_late 29 = .ok (.iaload, 1) := by decide +kernel
theorem dL_late_30 : decode cL_late 30 = .ok (.aload_n 0, 1) := by decide +kernel
theorem dL_late_31 : decode cL_late 31 = .ok (.iconst 0, 1) := by decide +kernel
theorem dL_late_32 : decode cL_late 32 = .ok (.iaload, 1) := by decide +kernel
theorem dL_late_33 : decode cL_late 33 = .ok (.if_icmp .eq 9, 3) := by decide +kernel
theorem dL_late_36 : decode cL_late 36 = .ok (.iconst 1, 1) := by decide +kernel
theorem dL_late_37 : decode cL_late 37 = .ok (.iload_n 3, 1) := by decide +kernel
theorem dL_late_38 : decode cL_late 38 = .ok (.ishl, 1) := by decide +kernel
theorem dL_late_39 : decode cL_late 39 = .ok (.goto 4, 3) := by decide +kernel
theorem dL_late_42 : decode cL_late 42 = .ok (.iconst 0, 1) := by decide +kernel
theorem dL_late_43 : decode cL_late 43 = .ok (.ior, 1) := by decide +kernel
theorem dL_late_44 : decode cL_late 44 = .ok (.istore_n 2, 1) := by decide +kernel
theorem dL_late_45 : decode cL_late 45 = .ok (.iinc 3 1, 3) := by decide +kernel
theorem dL_late_48 : decode cL_late 48 = .ok (.goto (-44), 3) := by decide +kernel
theorem dL_late_51 : decode cL_late 51 = .ok (.iload_n 2, 1) := by decide +kernel
theorem dL_late_52 : decode cL_late 52 = .ok (.ireturn, 1) := by decide +kernel
theorem dL_without_0 : decode cL_without 0 = .ok (.aload_n 1, 1) := by decide +kernel
theorem dL_without_1 : decode cL_without 1 = .ok (.bipush 6, 2) := by decide +kernel
theorem dL_without_3 : decode cL_without 3 = .ok (.iload_n 0, 1) := by decide +kernel
theorem dL_without_4 : decode cL_without 4 = .ok (.imul, 1) := by decide +kernel
theorem dL_without_5 : decode cL_without 5 = .ok (.iconst 1, 1) := by decide +kernel
theorem dL_without_6 : decode cL_without 6 = .ok (.iadd, 1) := by decide +kernel
theorem dL_without_7 : decode cL_without 7 = .ok (.iconst 0, 1) := by decide +kernel
theorem dL_without_8 : decode cL_without 8 = .ok (.iastore, 1) := by decide +kernel
theorem dL_without_9 : decode cL_without 9 = .ok (.aload_n 1, 1) := by decide +kernel
theorem dL_without_10 : decode cL_without 10 = .ok (.bipush 6, 2) := by decide +kernel
theorem dL_without_12 : decode cL_without 12 = .ok (.iload_n 0, 1) := by decide +kernel
theorem dL_without_13 : decode cL_without 13 = .ok (.imul, 1) := by decide +kernel
theorem dL_without_14 : decode cL_without 14 = .ok (.iconst 2, 1) := by decide +kernel
theorem dL_without_15 : decode cL_without 15 = .ok (.iadd, 1) := by decide +kernel
theorem dL_without_16 : decode cL_without 16 = .ok (.iconst (-1), 1) := by decide +kernel
theorem dL_without_17 : decode cL_without 17 = .ok (.iastore, 1) := by decide +kernel
theorem dL_without_18 : decode cL_without 18 = .ok (.bipush 6, 2) := by decide +kernel
theorem dL_without_20 : decode cL_without 20 = .ok (.iload_n 0, 1) := by decide +kernel
theorem dL_without_21 : decode cL_without 21 = .ok (.imul, 1) := by decide +kernel
theorem dL_without_22 : decode cL_without 22 = .ok (.istore_n 3, 1) := by decide +kernel
theorem dL_without_23 : decode cL_without 23 = .ok (.iload_n 3, 1) := by decide +kernel
theorem dL_without_24 : decode cL_without 24 = .ok (.bipush 6, 2) := by decide +kernel
theorem dL_without_26 : decode cL_without 26 = .ok (.iload_n 0, 1) := by decide +kernel
theorem dL_without_27 : decode cL_without 27 = .ok (.imul, 1) := by decide +kernel
theorem dL_without_28 : decode cL_without 28 = .ok (.bipush 6, 2) := by decide +kernel
theorem dL_without_30 : decode cL_without 30 = .ok (.iadd, 1) := by decide +kernel
theorem dL_without_31 : decode cL_without 31 = .ok (.if_icmp .ge 19, 3) := by decide +kernel
theorem dL_without_34 : decode cL_without 34 = .ok (.aload_n 2, 1) := by decide +kernel
theorem dL_without_35 : decode cL_without 35 = .ok (.iload_n 3, 1) := by decide +kernel
theorem dL_without_36 : decode cL_without 36 = .ok (.iconst 0, 1) := by decide +kernel
theorem dL_without_37 : decode cL_without 37 = .ok (.iastore, 1) := by decide +kernel
theorem dL_without_38 : decode cL_without 38 = .ok (.aload_n 2, 1) := by decide +kernel
theorem dL_without_39 : decode cL_without 39 = .ok (.iload_n 3, 1) := by decide +kernel
theorem dL_without_40 : decode cL_without 40 = .ok (.iconst 1, 1) := by decide +kernel
theorem dL_without_41 : decode cL_without 41 = .ok (.iadd, 1) := by decide +kernel
theorem dL_without_42 : decode cL_without 42 = .ok (.iconst (-1), 1) := by decide +kernel
theorem dL_without_43 : decode cL_without 43 = .ok (.iastore, 1) := by decide +kernel
theorem dL_without_44 : decode cL_without 44 = .ok (.iinc 3 2, 3) := by decide +kernel
theorem dL_without_47 : decode cL_without 47 = .ok (.goto (-24), 3) := by decide +kernel
theorem dL_without_50 : decode cL_without 50 = .ok (.return_, 1) := by decide +kernel
theorem dL_goes_0 : decode cL_goes 0 = .ok (.iload_n 2, 1) := by decide +kernel
theorem dL_goes_1 : decode cL_goes 1 = .ok (.iconst 5, 1) := by decide +kernel
theorem dL_goes_2 : decode cL_goes 2 = .ok (.invokestatic 102, 3) := by decide +kernel
theorem dL_goes_5 : decode cL_goes 5 = .ok (.istore 8, 2) := by decide +kernel
theorem dL_goes_7 : decode cL_goes 7 = .ok (.iload_n 1, 1) := by decide +kernel
theorem dL_goes_8 : decode cL_goes 8 = .ok (.bipush 10, 2) := by decide +kernel
theorem dL_goes_10 : decode cL_goes 10 = .ok (.invokestatic 102, 3) := by decide +kernel
theorem dL_goes_13 : decode cL_goes 13 = .ok (.istore 9, 2) := by decide +kernel
theorem dL_goes_15 : decode cL_goes 15 = .ok (.aload 6, 2) := by decide +kernel
theorem dL_goes_17 : decode cL_goes 17 = .ok (.bipush 6, 2) := by decide +kernel
theorem dL_goes_19 : decode cL_goes 19 = .ok (.iload 8, 2) := by decide +kernel
theorem dL_goes_21 : decode cL_goes 21 = .ok (.imul, 1) := by decide +kernel
theorem dL_goes_22 : decode cL_goes 22 = .ok (.iaload, 1) := by decide +kernel
theorem dL_goes_23 : decode cL_goes 23 = .ok (.iconst 1, 1) := by decide +kernel
theorem dL_goes_24 : decode cL_goes 24 = .ok (.if_icmp .ne 7, 3) := by decide +kernel
theorem dL_goes_27 : decode cL_goes 27 = .ok (.iconst 1, 1) := by decide +kernel
theorem dL_goes_28 : decode cL_goes 28 = .ok (.goto 4, 3) := by decide +kernel
theorem dL_goes_31 : decode cL_goes 31 = .ok (.iconst 0, 1) := by decide +kernel
theorem dL_goes_32 : decode cL_goes 32 = .ok (.istore 10, 2) := by decide +kernel
theorem dL_goes_34 : decode cL_goes 34 = .ok (.aload 6, 2) := by decide +kernel
theorem dL_goes_36 : decode cL_goes 36 = .ok (.bipush 6, 2) := by decide +kernel
theorem dL_goes_38 : decode cL_goes 38 = .ok (.iload 8, 2) := by decide +kernel
theorem dL_goes_40 : decode cL_goes 40 = .ok (.imul, 1) := by decide +kernel
theorem dL_goes_41 : decode cL_goes 41 = .ok (.iconst 1, 1) := by decide +kernel
theorem dL_goes_42 : decode cL_goes 42 = .ok (.iadd, 1) := by decide +kernel
theorem dL_goes_43 : decode cL_goes 43 = .ok (.iaload, 1) := by decide +kernel
theorem dL_goes_44 : decode cL_goes 44 = .ok (.iconst 1, 1) := by decide +kernel
theorem dL_goes_45 : decode cL_goes 45 = .ok (.if_icmp .ne 7, 3) := by decide +kernel
theorem dL_goes_48 : decode cL_goes 48 = .ok (.iconst 1, 1) := by decide +kernel
theorem dL_goes_49 : decode cL_goes 49 = .ok (.goto 4, 3) := by decide +kernel
theorem dL_goes_52 : decode cL_goes 52 = .ok (.iconst 0, 1) := by decide +kernel
theorem dL_goes_53 : decode cL_goes 53 = .ok (.istore 11, 2) := by decide +kernel
theorem dL_goes_55 : decode cL_goes 55 = .ok (.iload 9, 2) := by decide +kernel
theorem dL_goes_57 : decode cL_goes 57 = .ok (.iconst 2, 1) := by decide +kernel
theorem dL_goes_58 : decode cL_goes 58 = .ok (.if_icmp .ge 75, 3) := by decide +kernel
theorem dL_goes_61 : decode cL_goes 61 = .ok (.iload 10, 2) := by decide +kernel
theorem dL_goes_63 : decode cL_goes 63 = .ok (.ifCond .eq 32, 3) := by decide +kernel
theorem dL_goes_66 : decode cL_goes 66 = .ok (.iload 11, 2) := by decide +kernel
theorem dL_goes_68 : decode cL_goes 68 = .ok (.ifCond .ne 27, 3) := by decide +kernel
theorem dL_goes_71 : decode cL_goes 71 = .ok (.aload 6, 2) := by decide +kernel
theorem dL_goes_73 : decode cL_goes 73 = .ok (.bipush 6, 2) := by decide +kernel
theorem dL_goes_75 : decode cL_goes 75 = .ok (.iload 8, 2) := by decide +kernel
theorem dL_goes_77 : decode cL_goes 77 = .ok (.imul, 1) := by decide +kernel
theorem dL_goes_78 : decode cL_goes 78 = .ok (.iconst 1, 1) := by decide +kernel
theorem dL_goes_79 : decode cL_goes 79 = .ok (.iadd, 1) := by decide +kernel
theorem dL_goes_80 : decode cL_goes 80 = .ok (.iconst 1, 1) := by decide +kernel
theorem dL_goes_81 : decode cL_goes 81 = .ok (.iastore, 1) := by decide +kernel
theorem dL_goes_82 : decode cL_goes 82 = .ok (.aload 6, 2) := by decide +kernel
theorem dL_goes_84 : decode cL_goes 84 = .ok (.bipush 6, 2) := by decide +kernel
theorem dL_goes_86 : decode cL_goes 86 = .ok (.iload 8, 2) := by decide +kernel
theorem dL_goes_88 : decode cL_goes 88 = .ok (.imul, 1) := by decide +kernel
theorem dL_goes_89 : decode cL_goes 89 = .ok (.iconst 2, 1) := by decide +kernel
theorem dL_goes_90 : decode cL_goes 90 = .ok (.iadd, 1) := by decide +kernel
theorem dL_goes_91 : decode cL_goes 91 = .ok (.aload_n 3, 1) := by decide +kernel
theorem dL_goes_92 : decode cL_goes 92 = .ok (.iconst 0, 1) := by decide +kernel
theorem dL_goes_93 : decode cL_goes 93 = .ok (.iaload, 1) := by decide +kernel
theorem dL_goes_94 : decode cL_goes 94 = .ok (.iastore, 1) := by decide +kernel
theorem dL_goes_95 : decode cL_goes 95 = .ok (.aload_n 0, 1) := by decide +kernel
theorem dL_goes_96 : decode cL_goes 96 = .ok (.iload 8, 2) := by decide +kernel
theorem dL_goes_98 : decode cL_goes 98 = .ok (.invokestatic 105, 3) := by decide +kernel
theorem dL_goes_101 : decode cL_goes 101 = .ok (.iload 10, 2) := by decide +kernel
theorem dL_goes_103 : decode cL_goes 103 = .ok (.ifCond .ne 8, 3) := by decide +kernel
theorem dL_goes_106 : decode cL_goes 106 = .ok (.bipush (-31), 2) := by decide +kernel
theorem dL_goes_108 : decode cL_goes 108 = .ok (.goto 16, 3) := by decide +kernel
theorem dL_goes_111 : decode cL_goes 111 = .ok (.iload 11, 2) := by decide +kernel
theorem dL_goes_113 : decode cL_goes 113 = .ok (.ifCond .eq 8, 3) := by decide +kernel
theorem dL_goes_116 : decode cL_goes 116 = .ok (.bipush (-33), 2) := by decide +kernel
theorem dL_goes_118 : decode cL_goes 118 = .ok (.goto 6, 3) := by decide +kernel
theorem dL_goes_121 : decode cL_goes 121 = .ok (.aload_n 3, 1) := by decide +kernel
theorem dL_goes_122 : decode cL_goes 122 = .ok (.iconst 0, 1) := by decide +kernel
theorem dL_goes_123 : decode cL_goes 123 = .ok (.iaload, 1) := by decide +kernel
theorem dL_goes_124 : decode cL_goes 124 = .ok (.if_icmp .ne 7, 3) := by decide +kernel
theorem dL_goes_127 : decode cL_goes 127 = .ok (.iconst 1, 1) := by decide +kernel
theorem dL_goes_128 : decode cL_goes 128 = .ok (.goto 4, 3) := by decide +kernel
theorem dL_goes_131 : decode cL_goes 131 = .ok (.iconst 0, 1) := by decide +kernel
theorem dL_goes_132 : decode cL_goes 132 = .ok (.ireturn, 1) := by decide +kernel
theorem dL_goes_133 : decode cL_goes 133 = .ok (.iload 9, 2) := by decide +kernel
theorem dL_goes_135 : decode cL_goes 135 = .ok (.iconst 4, 1) := by decide +kernel
theorem dL_goes_136 : decode cL_goes 136 = .ok (.if_icmp .ge 99, 3) := by decide +kernel
theorem dL_goes_139 : decode cL_goes 139 = .ok (.iconst 0, 1) := by decide +kernel
theorem dL_goes_140 : decode cL_goes 140 = .ok (.istore 12, 2) := by decide +kernel
theorem dL_goes_142 : decode cL_goes 142 = .ok (.iconst 0, 1) := by decide +kernel
theorem dL_goes_143 : decode cL_goes 143 = .ok (.istore 13, 2) := by decide +kernel
theorem dL_goes_145 : decode cL_goes 145 = .ok (.iload 13, 2) := by decide +kernel
theorem dL_goes_147 : decode cL_goes 147 = .ok (.iconst 3, 1) := by decide +kernel
theorem dL_goes_148 : decode cL_goes 148 = .ok (.if_icmp .ge 36, 3) := by decide +kernel
theorem dL_goes_151 : decode cL_goes 151 = .ok (.iload 12, 2) := by decide +kernel
theorem dL_goes_153 : decode cL_goes 153 = .ok (.aload 7, 2) := by decide +kernel
theorem dL_goes_155 : decode cL_goes 155 = .ok (.bipush 6, 2) := by decide +kernel
theorem dL_goes_157 : decode cL_goes 157 = .ok (.iload 8, 2) := by decide +kernel
theorem dL_goes_159 : decode cL_goes 159 = .ok (.imul, 1) := by decide +kernel
theorem dL_goes_160 : decode cL_goes 160 = .ok (.iconst 2, 1) := by decide +kernel
theorem dL_goes_161 : decode cL_goes 161 = .ok (.iload 13, 2) := by decide +kernel
theorem dL_goes_163 : decode cL_goes 163 = .ok (.imul, 1) := by decide +kernel
theorem dL_goes_164 : decode cL_goes 164 = .ok (.iadd, 1) := by decide +kernel
theorem dL_goes_165 : decode cL_goes 165 = .ok (.iaload, 1) := by decide +kernel
theorem dL_goes_166 : decode cL_goes 166 = .ok (.iconst 2, 1) := by decide +kernel
theorem dL_goes_167 : decode cL_goes 167 = .ok (.if_icmp .ne 7, 3) := by decide +kernel
theorem dL_goes_170 : decode cL_goes 170 = .ok (.iconst 1, 1) := by decide +kernel
theorem dL_goes_171 : decode cL_goes 171 = .ok (.goto 4, 3) := by decide +kernel
theorem dL_goes_174 : decode cL_goes 174 = .ok (.iconst 0, 1) := by decide +kernel
theorem dL_goes_175 : decode cL_goes 175 = .ok (.iadd, 1) := by decide +kernel
theorem dL_goes_176 : decode cL_goes 176 = .ok (.istore 12, 2) := by decide +kernel
theorem dL_goes_178 : decode cL_goes 178 = .ok (.iinc 13 1, 3) := by decide +kernel
theorem dL_goes_181 : decode cL_goes 181 = .ok (.goto (-36), 3) := by decide +kernel
theorem dL_goes_184 : decode cL_goes 184 = .ok (.iload 11, 2) := by decide +kernel
theorem dL_goes_186 : decode cL_goes 186 = .ok (.ifCond .eq 12, 3) := by decide +kernel
theorem dL_goes_189 : decode cL_goes 189 = .ok (.iload 8, 2) := by decide +kernel
theorem dL_goes_191 : decode cL_goes 191 = .ok (.aload 6, 2) := by decide +kernel
theorem dL_goes_193 : decode cL_goes 193 = .ok (.aload 7, 2) := by decide +kernel
theorem dL_goes_195 : decode cL_goes 195 = .ok (.invokestatic 108, 3) := by decide +kernel
theorem dL_goes_198 : decode cL_goes 198 = .ok (.aload_n 0, 1) := by decide +kernel
theorem dL_goes_199 : decode cL_goes 199 = .ok (.iload 8, 2) := by decide +kernel
theorem dL_goes_201 : decode cL_goes 201 = .ok (.invokestatic 112, 3) := by decide +kernel
theorem dL_goes_204 : decode cL_goes 204 = .ok (.iload 10, 2) := by decide +kernel
theorem dL_goes_206 : decode cL_goes 206 = .ok (.ifCond .ne 8, 3) := by decide +kernel
theorem dL_goes_209 : decode cL_goes 209 = .ok (.bipush (-31), 2) := by decide +kernel
theorem dL_goes_211 : decode cL_goes 211 = .ok (.goto 15, 3) := by decide +kernel
theorem dL_goes_214 : decode cL_goes 214 = .ok (.iload 11, 2) := by decide +kernel
theorem dL_goes_216 : decode cL_goes 216 = .ok (.ifCond .eq 8, 3) := by decide +kernel
theorem dL_goes_219 : decode cL_goes 219 = .ok (.iload 12, 2) := by decide +kernel
theorem dL_goes_221 : decode cL_goes 221 = .ok (.goto 5, 3) := by decide +kernel
theorem dL_goes_224 : decode cL_goes 224 = .ok (.bipush (-33), 2) := by decide +kernel
theorem dL_goes_226 : decode cL_goes 226 = .ok (.if_icmp .ne 7, 3) := by decide +kernel
theorem dL_goes_229 : decode cL_goes 229 = .ok (.iconst 1, 1) := by decide +kernel
theorem dL_goes_230 : decode cL_goes 230 = .ok (.goto 4, 3) := by decide +kernel
theorem dL_goes_233 : decode cL_goes 233 = .ok (.iconst 0, 1) := by decide +kernel
theorem dL_goes_234 : decode cL_goes 234 = .ok (.ireturn, 1) := by decide +kernel
theorem dL_goes_235 : decode cL_goes 235 = .ok (.iload 9, 2) := by decide +kernel
theorem dL_goes_237 : decode cL_goes 237 = .ok (.bipush 7, 2) := by decide +kernel
theorem dL_goes_239 : decode cL_goes 239 = .ok (.if_icmp .ge 61, 3) := by decide +kernel
theorem dL_goes_242 : decode cL_goes 242 = .ok (.aload_n 3, 1) := by decide +kernel
theorem dL_goes_243 : decode cL_goes 243 = .ok (.aload 6, 2) := by decide +kernel
theorem dL_goes_245 : decode cL_goes 245 = .ok (.invokestatic 114, 3) := by decide +kernel
theorem dL_goes_248 : decode cL_goes 248 = .ok (.ifCond .ne 7, 3) := by decide +kernel
theorem dL_goes_251 : decode cL_goes 251 = .ok (.iconst 1, 1) := by decide +kernel
theorem dL_goes_252 : decode cL_goes 252 = .ok (.goto 4, 3) := by decide +kernel
theorem dL_goes_255 : decode cL_goes 255 = .ok (.iconst 0, 1) := by decide +kernel
theorem dL_goes_256 : decode cL_goes 256 = .ok (.istore 12, 2) := by decide +kernel
theorem dL_goes_258 : decode cL_goes 258 = .ok (.aload_n 3, 1) := by decide +kernel
theorem dL_goes_259 : decode cL_goes 259 = .ok (.iconst 0, 1) := by decide +kernel
theorem dL_goes_260 : decode cL_goes 260 = .ok (.dup2, 1) := by decide +kernel
theorem dL_goes_261 : decode cL_goes 261 = .ok (.iaload, 1) := by decide +kernel
theorem dL_goes_262 : decode cL_goes 262 = .ok (.iload 12, 2) := by decide +kernel
theorem dL_goes_264 : decode cL_goes 264 = .ok (.ifCond .eq 7, 3) := by decide +kernel
theorem dL_goes_267 : decode cL_goes 267 = .ok (.iconst 1, 1) := by decide +kernel
theorem dL_goes_268 : decode cL_goes 268 = .ok (.goto 4, 3) := by decide +kernel
theorem dL_goes_271 : decode cL_goes 271 = .ok (.iconst 0, 1) := by decide +kernel
theorem dL_goes_272 : decode cL_goes 272 = .ok (.iadd, 1) := by decide +kernel
theorem dL_goes_273 : decode cL_goes 273 = .ok (.iastore, 1) := by decide +kernel
theorem dL_goes_274 : decode cL_goes 274 = .ok (.aload_n 0, 1) := by decide +kernel
theorem dL_goes_275 : decode cL_goes 275 = .ok (.invokestatic 118, 3) := by decide +kernel
theorem dL_goes_278 : decode cL_goes 278 = .ok (.iload 12, 2) := by decide +kernel
theorem dL_goes_280 : decode cL_goes 280 = .ok (.ifCond .eq 9, 3) := by decide +kernel
theorem dL_goes_283 : decode cL_goes 283 = .ok (.aload_n 3, 1) := by decide +kernel
theorem dL_goes_284 : decode cL_goes 284 = .ok (.iconst 0, 1) := by decide +kernel
theorem dL_goes_285 : decode cL_goes 285 = .ok (.iaload, 1) := by decide +kernel
theorem dL_goes_286 : decode cL_goes 286 = .ok (.goto 5, 3) := by decide +kernel
theorem dL_goes_289 : decode cL_goes 289 = .ok (.bipush (-33), 2) := by decide +kernel
theorem dL_goes_291 : decode cL_goes 291 = .ok (.if_icmp .ne 7, 3) := by decide +kernel
theorem dL_goes_294 : decode cL_goes 294 = .ok (.iconst 1, 1) := by decide +kernel
theorem dL_goes_295 : decode cL_goes 295 = .ok (.goto 4, 3) := by decide +kernel
theorem dL_goes_298 : decode cL_goes 298 = .ok (.iconst 0, 1) := by decide +kernel
theorem dL_goes_299 : decode cL_goes 299 = .ok (.ireturn, 1) := by decide +kernel
theorem dL_goes_300 : decode cL_goes 300 = .ok (.iload 9, 2) := by decide +kernel
theorem dL_goes_302 : decode cL_goes 302 = .ok (.bipush 7, 2) := by decide +kernel
theorem dL_goes_304 : decode cL_goes 304 = .ok (.if_icmp .ne 112, 3) := by decide +kernel
theorem dL_goes_307 : decode cL_goes 307 = .ok (.iconst 0, 1) := by decide +kernel
theorem dL_goes_308 : decode cL_goes 308 = .ok (.istore 12, 2) := by decide +kernel
theorem dL_goes_310 : decode cL_goes 310 = .ok (.iload 12, 2) := by decide +kernel
theorem dL_goes_312 : decode cL_goes 312 = .ok (.iconst 5, 1) := by decide +kernel
theorem dL_goes_313 : decode cL_goes 313 = .ok (.if_icmp .ge 21, 3) := by decide +kernel
theorem dL_goes_316 : decode cL_goes 316 = .ok (.aload 6, 2) := by decide +kernel
theorem dL_goes_318 : decode cL_goes 318 = .ok (.bipush 6, 2) := by decide +kernel
theorem dL_goes_320 : decode cL_goes 320 = .ok (.iload 12, 2) := by decide +kernel
theorem dL_goes_322 : decode cL_goes 322 = .ok (.imul, 1) := by decide +kernel
theorem dL_goes_323 : decode cL_goes 323 = .ok (.iaload, 1) := by decide +kernel
theorem dL_goes_324 : decode cL_goes 324 = .ok (.iconst 1, 1) := by decide +kernel
theorem dL_goes_325 : decode cL_goes 325 = .ok (.if_icmp .ne 9, 3) := by decide +kernel
theorem dL_goes_328 : decode cL_goes 328 = .ok (.iinc 12 1, 3) := by decide +kernel
theorem dL_goes_331 : decode cL_goes 331 = .ok (.goto (-21), 3) := by decide +kernel
theorem dL_goes_334 : decode cL_goes 334 = .ok (.iload 12, 2) := by decide +kernel
theorem dL_goes_336 : decode cL_goes 336 = .ok (.iconst 5, 1) := by decide +kernel
theorem dL_goes_337 : decode cL_goes 337 = .ok (.if_icmp .ne 18, 3) := by decide +kernel
theorem dL_goes_340 : decode cL_goes 340 = .ok (.aload_n 0, 1) := by decide +kernel
theorem dL_goes_341 : decode cL_goes 341 = .ok (.invokestatic 121, 3) := by decide +kernel
theorem dL_goes_344 : decode cL_goes 344 = .ok (.bipush (-33), 2) := by decide +kernel
theorem dL_goes_346 : decode cL_goes 346 = .ok (.if_icmp .ne 7, 3) := by decide +kernel
theorem dL_goes_349 : decode cL_goes 349 = .ok (.iconst 1, 1) := by decide +kernel
theorem dL_goes_350 : decode cL_goes 350 = .ok (.goto 4, 3) := by decide +kernel
theorem dL_goes_353 : decode cL_goes 353 = .ok (.iconst 0, 1) := by decide +kernel
theorem dL_goes_354 : decode cL_goes 354 = .ok (.ireturn, 1) := by decide +kernel
theorem dL_goes_355 : decode cL_goes 355 = .ok (.iconst 0, 1) := by decide +kernel
theorem dL_goes_356 : decode cL_goes 356 = .ok (.istore 13, 2) := by decide +kernel
theorem dL_goes_358 : decode cL_goes 358 = .ok (.iload 13, 2) := by decide +kernel
theorem dL_goes_360 : decode cL_goes 360 = .ok (.bipush 6, 2) := by decide +kernel
theorem dL_goes_362 : decode cL_goes 362 = .ok (.if_icmp .ge 21, 3) := by decide +kernel
theorem dL_goes_365 : decode cL_goes 365 = .ok (.aload 6, 2) := by decide +kernel
theorem dL_goes_367 : decode cL_goes 367 = .ok (.bipush 6, 2) := by decide +kernel
theorem dL_goes_369 : decode cL_goes 369 = .ok (.iload 12, 2) := by decide +kernel
theorem dL_goes_371 : decode cL_goes 371 = .ok (.imul, 1) := by decide +kernel
theorem dL_goes_372 : decode cL_goes 372 = .ok (.iload 13, 2) := by decide +kernel
theorem dL_goes_374 : decode cL_goes 374 = .ok (.iadd, 1) := by decide +kernel
theorem dL_goes_375 : decode cL_goes 375 = .ok (.iconst 0, 1) := by decide +kernel
theorem dL_goes_376 : decode cL_goes 376 = .ok (.iastore, 1) := by decide +kernel
theorem dL_goes_377 : decode cL_goes 377 = .ok (.iinc 13 1, 3) := by decide +kernel
theorem dL_goes_380 : decode cL_goes 380 = .ok (.goto (-22), 3) := by decide +kernel
theorem dL_goes_383 : decode cL_goes 383 = .ok (.iload 12, 2) := by decide +kernel
theorem dL_goes_385 : decode cL_goes 385 = .ok (.aload 6, 2) := by decide +kernel
theorem dL_goes_387 : decode cL_goes 387 = .ok (.aload 7, 2) := by decide +kernel
theorem dL_goes_389 : decode cL_goes 389 = .ok (.invokestatic 108, 3) := by decide +kernel
theorem dL_goes_392 : decode cL_goes 392 = .ok (.aload 6, 2) := by decide +kernel
theorem dL_goes_394 : decode cL_goes 394 = .ok (.bipush 6, 2) := by decide +kernel
theorem dL_goes_396 : decode cL_goes 396 = .ok (.iload 12, 2) := by decide +kernel
theorem dL_goes_398 : decode cL_goes 398 = .ok (.imul, 1) := by decide +kernel
theorem dL_goes_399 : decode cL_goes 399 = .ok (.iconst 1, 1) := by decide +kernel
theorem dL_goes_400 : decode cL_goes 400 = .ok (.iastore, 1) := by decide +kernel
theorem dL_goes_401 : decode cL_goes 401 = .ok (.aload_n 0, 1) := by decide +kernel
theorem dL_goes_402 : decode cL_goes 402 = .ok (.invokestatic 121, 3) := by decide +kernel
theorem dL_goes_405 : decode cL_goes 405 = .ok (.iload 12, 2) := by decide +kernel
theorem dL_goes_407 : decode cL_goes 407 = .ok (.if_icmp .ne 7, 3) := by decide +kernel
theorem dL_goes_410 : decode cL_goes 410 = .ok (.iconst 1, 1) := by decide +kernel
theorem dL_goes_411 : decode cL_goes 411 = .ok (.goto 4, 3) := by decide +kernel
theorem dL_goes_414 : decode cL_goes 414 = .ok (.iconst 0, 1) := by decide +kernel
theorem dL_goes_415 : decode cL_goes 415 = .ok (.ireturn, 1) := by decide +kernel
theorem dL_goes_416 : decode cL_goes 416 = .ok (.iload 9, 2) := by decide +kernel
theorem dL_goes_418 : decode cL_goes 418 = .ok (.bipush 8, 2) := by decide +kernel
theorem dL_goes_420 : decode cL_goes 420 = .ok (.if_icmp .ne 102, 3) := by decide +kernel
theorem dL_goes_423 : decode cL_goes 423 = .ok (.iload_n 1, 1) := by decide +kernel
theorem dL_goes_424 : decode cL_goes 424 = .ok (.iconst 5, 1) := by decide +kernel
theorem dL_goes_425 : decode cL_goes 425 = .ok (.ishr, 1) := by decide +kernel
theorem dL_goes_426 : decode cL_goes 426 = .ok (.iconst 2, 1) := by decide +kernel
theorem dL_goes_427 : decode cL_goes 427 = .ok (.invokestatic 102, 3) := by decide +kernel
theorem dL_goes_430 : decode cL_goes 430 = .ok (.istore 12, 2) := by decide +kernel
theorem dL_goes_432 : decode cL_goes 432 = .ok (.aload_n 3, 1) := by decide +kernel
theorem dL_goes_433 : decode cL_goes 433 = .ok (.bipush 7, 2) := by decide +kernel
theorem dL_goes_435 : decode cL_goes 435 = .ok (.iload 12, 2) := by decide +kernel
theorem dL_goes_437 : decode cL_goes 437 = .ok (.iadd, 1) := by decide +kernel
theorem dL_goes_438 : decode cL_goes 438 = .ok (.iaload, 1) := by decide +kernel
theorem dL_goes_439 : decode cL_goes 439 = .ok (.istore 13, 2) := by decide +kernel
theorem dL_goes_441 : decode cL_goes 441 = .ok (.aload_n 3, 1) := by decide +kernel
theorem dL_goes_442 : decode cL_goes 442 = .ok (.bipush 7, 2) := by decide +kernel
theorem dL_goes_444 : decode cL_goes 444 = .ok (.iload 12, 2) := by decide +kernel
theorem dL_goes_446 : decode cL_goes 446 = .ok (.iadd, 1) := by decide +kernel
theorem dL_goes_447 : decode cL_goes 447 = .ok (.iload 12, 2) := by decide +kernel
theorem dL_goes_449 : decode cL_goes 449 = .ok (.ifCond .ne 17, 3) := by decide +kernel
theorem dL_goes_452 : decode cL_goes 452 = .ok (.iconst 1, 1) := by decide +kernel
theorem dL_goes_453 : decode cL_goes 453 = .ok (.iload_n 1, 1) := by decide +kernel
theorem dL_goes_454 : decode cL_goes 454 = .ok (.bipush 6, 2) := by decide +kernel
theorem dL_goes_456 : decode cL_goes 456 = .ok (.ishr, 1) := by decide +kernel
theorem dL_goes_457 : decode cL_goes 457 = .ok (.bipush 6, 2) := by decide +kernel
theorem dL_goes_459 : decode cL_goes 459 = .ok (.invokestatic 102, 3) := by decide +kernel
theorem dL_goes_462 : decode cL_goes 462 = .ok (.iadd, 1) := by decide +kernel
theorem dL_goes_463 : decode cL_goes 463 = .ok (.goto 11, 3) := by decide +kernel
theorem dL_goes_466 : decode cL_goes 466 = .ok (.iload_n 1, 1) := by decide +kernel
theorem dL_goes_467 : decode cL_goes 467 = .ok (.bipush 6, 2) := by decide +kernel
theorem dL_goes_469 : decode cL_goes 469 = .ok (.ishr, 1) := by decide +kernel
theorem dL_goes_470 : decode cL_goes 470 = .ok (.iconst 2, 1) := by decide +kernel
theorem dL_goes_471 : decode cL_goes 471 = .ok (.invokestatic 102, 3) := by decide +kernel
theorem dL_goes_474 : decode cL_goes 474 = .ok (.iastore, 1) := by decide +kernel
theorem dL_goes_475 : decode cL_goes 475 = .ok (.aload_n 0, 1) := by decide +kernel
theorem dL_goes_476 : decode cL_goes 476 = .ok (.iload 12, 2) := by decide +kernel
theorem dL_goes_478 : decode cL_goes 478 = .ok (.aload_n 3, 1) := by decide +kernel
theorem dL_goes_479 : decode cL_goes 479 = .ok (.bipush 7, 2) := by decide +kernel
theorem dL_goes_481 : decode cL_goes 481 = .ok (.iload 12, 2) := by decide +kernel
theorem dL_goes_483 : decode cL_goes 483 = .ok (.iadd, 1) := by decide +kernel
theorem dL_goes_484 : decode cL_goes 484 = .ok (.iaload, 1) := by decide +kernel
theorem dL_goes_485 : decode cL_goes 485 = .ok (.invokestatic 123, 3) := by decide +kernel
theorem dL_goes_488 : decode cL_goes 488 = .ok (.iload 13, 2) := by decide +kernel
theorem dL_goes_490 : decode cL_goes 490 = .ok (.if_icmp .ne 30, 3) := by decide +kernel
theorem dL_goes_493 : decode cL_goes 493 = .ok (.aload_n 0, 1) := by decide +kernel
theorem dL_goes_494 : decode cL_goes 494 = .ok (.iconst 0, 1) := by decide +kernel
theorem dL_goes_495 : decode cL_goes 495 = .ok (.bipush 21, 2) := by decide +kernel
theorem dL_goes_497 : decode cL_goes 497 = .ok (.invokestatic 123, 3) := by decide +kernel
theorem dL_goes_500 : decode cL_goes 500 = .ok (.bipush (-32), 2) := by decide +kernel
theorem dL_goes_502 : decode cL_goes 502 = .ok (.if_icmp .ne 18, 3) := by decide +kernel
theorem dL_goes_505 : decode cL_goes 505 = .ok (.aload_n 0, 1) := by decide +kernel
theorem dL_goes_506 : decode cL_goes 506 = .ok (.iconst 2, 1) := by decide +kernel
theorem dL_goes_507 : decode cL_goes 507 = .ok (.iconst 0, 1) := by decide +kernel
theorem dL_goes_508 : decode cL_goes 508 = .ok (.invokestatic 123, 3) := by decide +kernel
theorem dL_goes_511 : decode cL_goes 511 = .ok (.bipush (-31), 2) := by decide +kernel
theorem dL_goes_513 : decode cL_goes 513 = .ok (.if_icmp .ne 7, 3) := by decide +kernel
theorem dL_goes_516 : decode cL_goes 516 = .ok (.iconst 1, 1) := by decide +kernel
theorem dL_goes_517 : decode cL_goes 517 = .ok (.goto 4, 3) := by decide +kernel
theorem dL_goes_520 : decode cL_goes 520 = .ok (.iconst 0, 1) := by decide +kernel
theorem dL_goes_521 : decode cL_goes 521 = .ok (.ireturn, 1) := by decide +kernel
theorem dL_goes_522 : decode cL_goes 522 = .ok (.iload 10, 2) := by decide +kernel
theorem dL_goes_524 : decode cL_goes 524 = .ok (.ifCond .eq 12, 3) := by decide +kernel
theorem dL_goes_527 : decode cL_goes 527 = .ok (.aload 6, 2) := by decide +kernel
theorem dL_goes_529 : decode cL_goes 529 = .ok (.invokestatic 90, 3) := by decide +kernel
theorem dL_goes_532 : decode cL_goes 532 = .ok (.iconst 1, 1) := by decide +kernel
theorem dL_goes_533 : decode cL_goes 533 = .ok (.if_icmp .ne 30, 3) := by decide +kernel
theorem dL_goes_536 : decode cL_goes 536 = .ok (.aload_n 0, 1) := by decide +kernel
theorem dL_goes_537 : decode cL_goes 537 = .ok (.iload 8, 2) := by decide +kernel
theorem dL_goes_539 : decode cL_goes 539 = .ok (.invokestatic 126, 3) := by decide +kernel
theorem dL_goes_542 : decode cL_goes 542 = .ok (.iload 10, 2) := by decide +kernel
theorem dL_goes_544 : decode cL_goes 544 = .ok (.ifCond .eq 8, 3) := by decide +kernel
theorem dL_goes_547 : decode cL_goes 547 = .ok (.bipush (-33), 2) := by decide +kernel
theorem dL_goes_549 : decode cL_goes 549 = .ok (.goto 5, 3) := by decide +kernel
theorem dL_goes_552 : decode cL_goes 552 = .ok (.bipush (-31), 2) := by decide +kernel
theorem dL_goes_554 : decode cL_goes 554 = .ok (.if_icmp .ne 7, 3) := by decide +kernel
theorem dL_goes_557 : decode cL_goes 557 = .ok (.iconst 1, 1) := by decide +kernel
theorem dL_goes_558 : decode cL_goes 558 = .ok (.goto 4, 3) := by decide +kernel
theorem dL_goes_561 : decode cL_goes 561 = .ok (.iconst 0, 1) := by decide +kernel
theorem dL_goes_562 : decode cL_goes 562 = .ok (.ireturn, 1) := by decide +kernel
theorem dL_goes_563 : decode cL_goes 563 = .ok (.iload 8, 2) := by decide +kernel
theorem dL_goes_565 : decode cL_goes 565 = .ok (.aload 6, 2) := by decide +kernel
theorem dL_goes_567 : decode cL_goes 567 = .ok (.aload 7, 2) := by decide +kernel
theorem dL_goes_569 : decode cL_goes 569 = .ok (.invokestatic 108, 3) := by decide +kernel
theorem dL_goes_572 : decode cL_goes 572 = .ok (.aload 6, 2) := by decide +kernel
theorem dL_goes_574 : decode cL_goes 574 = .ok (.bipush 6, 2) := by decide +kernel
theorem dL_goes_576 : decode cL_goes 576 = .ok (.iload 8, 2) := by decide +kernel
theorem dL_goes_578 : decode cL_goes 578 = .ok (.imul, 1) := by decide +kernel
theorem dL_goes_579 : decode cL_goes 579 = .ok (.iconst 0, 1) := by decide +kernel
theorem dL_goes_580 : decode cL_goes 580 = .ok (.iastore, 1) := by decide +kernel
theorem dL_goes_581 : decode cL_goes 581 = .ok (.iconst 0, 1) := by decide +kernel
theorem dL_goes_582 : decode cL_goes 582 = .ok (.istore 12, 2) := by decide +kernel
theorem dL_goes_584 : decode cL_goes 584 = .ok (.aload 6, 2) := by decide +kernel
theorem dL_goes_586 : decode cL_goes 586 = .ok (.bipush 6, 2) := by decide +kernel
theorem dL_goes_588 : decode cL_goes 588 = .ok (.iload 12, 2) := by decide +kernel
theorem dL_goes_590 : decode cL_goes 590 = .ok (.imul, 1) := by decide +kernel
theorem dL_goes_591 : decode cL_goes 591 = .ok (.iaload, 1) := by decide +kernel
theorem dL_goes_592 : decode cL_goes 592 = .ok (.ifCond .ne 9, 3) := by decide +kernel
theorem dL_goes_595 : decode cL_goes 595 = .ok (.iinc 12 1, 3) := by decide +kernel
theorem dL_goes_598 : decode cL_goes 598 = .ok (.goto (-14), 3) := by decide +kernel
theorem dL_goes_601 : decode cL_goes 601 = .ok (.bipush 40, 2) := by decide +kernel
theorem dL_goes_603 : decode cL_goes 603 = .ok (.newarray .int, 2) := by decide +kernel
theorem dL_goes_605 : decode cL_goes 605 = .ok (.astore 13, 2) := by decide +kernel
theorem dL_goes_607 : decode cL_goes 607 = .ok (.iconst 0, 1) := by decide +kernel
theorem dL_goes_608 : decode cL_goes 608 = .ok (.istore 14, 2) := by decide +kernel
theorem dL_goes_610 : decode cL_goes 610 = .ok (.iconst 0, 1) := by decide +kernel
theorem dL_goes_611 : decode cL_goes 611 = .ok (.istore 15, 2) := by decide +kernel
theorem dL_goes_613 : decode cL_goes 613 = .ok (.iload 15, 2) := by decide +kernel
theorem dL_goes_615 : decode cL_goes 615 = .ok (.iconst 2, 1) := by decide +kernel
theorem dL_goes_616 : decode cL_goes 616 = .ok (.if_icmp .ge 74, 3) := by decide +kernel
theorem dL_goes_619 : decode cL_goes 619 = .ok (.iconst 0, 1) := by decide +kernel
theorem dL_goes_620 : decode cL_goes 620 = .ok (.istore 16, 2) := by decide +kernel
theorem dL_goes_622 : decode cL_goes 622 = .ok (.iload 16, 2) := by decide +kernel
theorem dL_goes_624 : decode cL_goes 624 = .ok (.aload_n 3, 1) := by decide +kernel
theorem dL_goes_625 : decode cL_goes 625 = .ok (.bipush 9, 2) := by decide +kernel
theorem dL_goes_627 : decode cL_goes 627 = .ok (.iaload, 1) := by decide +kernel
theorem dL_goes_628 : decode cL_goes 628 = .ok (.if_icmp .ge 56, 3) := by decide +kernel
theorem dL_goes_631 : decode cL_goes 631 = .ok (.aload 5, 2) := by decide +kernel
theorem dL_goes_633 : decode cL_goes 633 = .ok (.iload 16, 2) := by decide +kernel
theorem dL_goes_635 : decode cL_goes 635 = .ok (.iaload, 1) := by decide +kernel
theorem dL_goes_636 : decode cL_goes 636 = .ok (.aload 4, 2) := by decide +kernel
theorem dL_goes_638 : decode cL_goes 638 = .ok (.invokestatic 69, 3) := by decide +kernel
theorem dL_goes_641 : decode cL_goes 641 = .ok (.iload 8, 2) := by decide +kernel
theorem dL_goes_643 : decode cL_goes 643 = .ok (.if_icmp .ne 7, 3) := by decide +kernel
theorem dL_goes_646 : decode cL_goes 646 = .ok (.iconst 1, 1) := by decide +kernel
theorem dL_goes_647 : decode cL_goes 647 = .ok (.goto 4, 3) := by decide +kernel
theorem dL_goes_650 : decode cL_goes 650 = .ok (.iconst 0, 1) := by decide +kernel
theorem dL_goes_651 : decode cL_goes 651 = .ok (.iload 15, 2) := by decide +kernel
theorem dL_goes_653 : decode cL_goes 653 = .ok (.iconst 1, 1) := by decide +kernel
theorem dL_goes_654 : decode cL_goes 654 = .ok (.if_icmp .ne 7, 3) := by decide +kernel
theorem dL_goes_657 : decode cL_goes 657 = .ok (.iconst 1, 1) := by decide +kernel
theorem dL_goes_658 : decode cL_goes 658 = .ok (.goto 4, 3) := by decide +kernel
theorem dL_goes_661 : decode cL_goes 661 = .ok (.iconst 0, 1) := by decide +kernel
theorem dL_goes_662 : decode cL_goes 662 = .ok (.if_icmp .ne 16, 3) := by decide +kernel
theorem dL_goes_665 : decode cL_goes 665 = .ok (.aload 13, 2) := by decide +kernel
theorem dL_goes_667 : decode cL_goes 667 = .ok (.iload 14, 2) := by decide +kernel
theorem dL_goes_669 : decode cL_goes 669 = .ok (.aload 5, 2) := by decide +kernel
theorem dL_goes_671 : decode cL_goes 671 = .ok (.iload 16, 2) := by decide +kernel
theorem dL_goes_673 : decode cL_goes 673 = .ok (.iaload, 1) := by decide +kernel
theorem dL_goes_674 : decode cL_goes 674 = .ok (.iastore, 1) := by decide +kernel
theorem dL_goes_675 : decode cL_goes 675 = .ok (.iinc 14 1, 3) := by decide +kernel
theorem dL_goes_678 : decode cL_goes 678 = .ok (.iinc 16 1, 3) := by decide +kernel
theorem dL_goes_681 : decode cL_goes 681 = .ok (.goto (-59), 3) := by decide +kernel
theorem dL_goes_684 : decode cL_goes 684 = .ok (.iinc 15 1, 3) := by decide +kernel
theorem dL_goes_687 : decode cL_goes 687 = .ok (.goto (-74), 3) := by decide +kernel
theorem dL_goes_690 : decode cL_goes 690 = .ok (.iload 8, 2) := by decide +kernel
theorem dL_goes_692 : decode cL_goes 692 = .ok (.aload_n 3, 1) := by decide +kernel
theorem dL_goes_693 : decode cL_goes 693 = .ok (.aload 4, 2) := by decide +kernel
theorem dL_goes_695 : decode cL_goes 695 = .ok (.aload 5, 2) := by decide +kernel
theorem dL_goes_697 : decode cL_goes 697 = .ok (.invokestatic 94, 3) := by decide +kernel
theorem dL_goes_700 : decode cL_goes 700 = .ok (.istore 15, 2) := by decide +kernel
theorem dL_goes_702 : decode cL_goes 702 = .ok (.iconst 0, 1) := by decide +kernel
theorem dL_goes_703 : decode cL_goes 703 = .ok (.istore 16, 2) := by decide +kernel
theorem dL_goes_705 : decode cL_goes 705 = .ok (.iload 16, 2) := by decide +kernel
theorem dL_goes_707 : decode cL_goes 707 = .ok (.iload 14, 2) := by decide +kernel
theorem dL_goes_709 : decode cL_goes 709 = .ok (.if_icmp .ge 46, 3) := by decide +kernel
theorem dL_goes_712 : decode cL_goes 712 = .ok (.aload 5, 2) := by decide +kernel
theorem dL_goes_714 : decode cL_goes 714 = .ok (.iload 16, 2) := by decide +kernel
theorem dL_goes_716 : decode cL_goes 716 = .ok (.aload 13, 2) := by decide +kernel
theorem dL_goes_718 : decode cL_goes 718 = .ok (.iload 16, 2) := by decide +kernel
theorem dL_goes_720 : decode cL_goes 720 = .ok (.iaload, 1) := by decide +kernel
theorem dL_goes_721 : decode cL_goes 721 = .ok (.iastore, 1) := by decide +kernel
theorem dL_goes_722 : decode cL_goes 722 = .ok (.aload 5, 2) := by decide +kernel
theorem dL_goes_724 : decode cL_goes 724 = .ok (.iload 16, 2) := by decide +kernel
theorem dL_goes_726 : decode cL_goes 726 = .ok (.iaload, 1) := by decide +kernel
theorem dL_goes_727 : decode cL_goes 727 = .ok (.aload 4, 2) := by decide +kernel
theorem dL_goes_729 : decode cL_goes 729 = .ok (.invokestatic 69, 3) := by decide +kernel
theorem dL_goes_732 : decode cL_goes 732 = .ok (.iload 8, 2) := by decide +kernel
theorem dL_goes_734 : decode cL_goes 734 = .ok (.if_icmp .ne 15, 3) := by decide +kernel
theorem dL_goes_737 : decode cL_goes 737 = .ok (.aload 5, 2) := by decide +kernel
theorem dL_goes_739 : decode cL_goes 739 = .ok (.iload 16, 2) := by decide +kernel
theorem dL_goes_741 : decode cL_goes 741 = .ok (.iaload, 1) := by decide +kernel
theorem dL_goes_742 : decode cL_goes 742 = .ok (.iload 12, 2) := by decide +kernel
theorem dL_goes_744 : decode cL_goes 744 = .ok (.aload 4, 2) := by decide +kernel
theorem dL_goes_746 : decode cL_goes 746 = .ok (.invokestatic 86, 3) := by decide +kernel
theorem dL_goes_749 : decode cL_goes 749 = .ok (.iinc 16 1, 3) := by decide +kernel
theorem dL_goes_752 : decode cL_goes 752 = .ok (.goto (-47), 3) := by decide +kernel
theorem dL_goes_755 : decode cL_goes 755 = .ok (.aload_n 0, 1) := by decide +kernel
theorem dL_goes_756 : decode cL_goes 756 = .ok (.iload 8, 2) := by decide +kernel
theorem dL_goes_758 : decode cL_goes 758 = .ok (.invokestatic 126, 3) := by decide +kernel
theorem dL_goes_761 : decode cL_goes 761 = .ok (.iload 15, 2) := by decide +kernel
theorem dL_goes_763 : decode cL_goes 763 = .ok (.if_icmp .ne 7, 3) := by decide +kernel
theorem dL_goes_766 : decode cL_goes 766 = .ok (.iconst 1, 1) := by decide +kernel
theorem dL_goes_767 : decode cL_goes 767 = .ok (.goto 4, 3) := by decide +kernel
theorem dL_goes_770 : decode cL_goes 770 = .ok (.iconst 0, 1) := by decide +kernel
theorem dL_goes_771 : decode cL_goes 771 = .ok (.ireturn, 1) := by decide +kernel
theorem dL_hooks_0 : decode cL_hooks 0 = .ok (.iload_n 2, 1) := by decide +kernel
theorem dL_hooks_1 : decode cL_hooks 1 = .ok (.iconst 5, 1) := by decide +kernel
theorem dL_hooks_2 : decode cL_hooks 2 = .ok (.invokestatic 102, 3) := by decide +kernel
theorem dL_hooks_5 : decode cL_hooks 5 = .ok (.istore 8, 2) := by decide +kernel
theorem dL_hooks_7 : decode cL_hooks 7 = .ok (.iload_n 2, 1) := by decide +kernel
theorem dL_hooks_8 : decode cL_hooks 8 = .ok (.iconst 4, 1) := by decide +kernel
theorem dL_hooks_9 : decode cL_hooks 9 = .ok (.ishr, 1) := by decide +kernel
theorem dL_hooks_10 : decode cL_hooks 10 = .ok (.iconst 4, 1) := by decide +kernel
theorem dL_hooks_11 : decode cL_hooks 11 = .ok (.invokestatic 102, 3) := by decide +kernel
theorem dL_hooks_14 : decode cL_hooks 14 = .ok (.istore 9, 2) := by decide +kernel
theorem dL_hooks_16 : decode cL_hooks 16 = .ok (.iload_n 2, 1) := by decide +kernel
theorem dL_hooks_17 : decode cL_hooks 17 = .ok (.bipush 7, 2) := by decide +kernel
theorem dL_hooks_19 : decode cL_hooks 19 = .ok (.ishr, 1) := by decide +kernel
theorem dL_hooks_20 : decode cL_hooks 20 = .ok (.iload_n 2, 1) := by decide +kernel
theorem dL_hooks_21 : decode cL_hooks 21 = .ok (.bipush 6, 2) := by decide +kernel
theorem dL_hooks_23 : decode cL_hooks 23 = .ok (.ishr, 1) := by decide +kernel
theorem dL_hooks_24 : decode cL_hooks 24 = .ok (.iconst 1, 1) := by decide +kernel
theorem dL_hooks_25 : decode cL_hooks 25 = .ok (.iand, 1) := by decide +kernel
theorem dL_hooks_26 : decode cL_hooks 26 = .ok (.ifCond .ne 7, 3) := by decide +kernel
theorem dL_hooks_29 : decode cL_hooks 29 = .ok (.iconst 4, 1) := by decide +kernel
theorem dL_hooks_30 : decode cL_hooks 30 = .ok (.goto 5, 3) := by decide +kernel
theorem dL_hooks_33 : decode cL_hooks 33 = .ok (.bipush 13, 2) := by decide +kernel
theorem dL_hooks_35 : decode cL_hooks 35 = .ok (.invokestatic 102, 3) := by decide +kernel
theorem dL_hooks_38 : decode cL_hooks 38 = .ok (.istore 10, 2) := by decide +kernel
theorem dL_hooks_40 : decode cL_hooks 40 = .ok (.iload_n 1, 1) := by decide +kernel
theorem dL_hooks_41 : decode cL_hooks 41 = .ok (.bipush 6, 2) := by decide +kernel
theorem dL_hooks_43 : decode cL_hooks 43 = .ok (.invokestatic 102, 3) := by decide +kernel
theorem dL_hooks_46 : decode cL_hooks 46 = .ok (.istore 11, 2) := by decide +kernel
theorem dL_hooks_48 : decode cL_hooks 48 = .ok (.iload 9, 2) := by decide +kernel
theorem dL_hooks_50 : decode cL_hooks 50 = .ok (.iconst 3, 1) := by decide +kernel
theorem dL_hooks_51 : decode cL_hooks 51 = .ok (.if_icmp .ge 19, 3) := by decide +kernel
theorem dL_hooks_54 : decode cL_hooks 54 = .ok (.aload 6, 2) := by decide +kernel
theorem dL_hooks_56 : decode cL_hooks 56 = .ok (.bipush 6, 2) := by decide +kernel
theorem dL_hooks_58 : decode cL_hooks 58 = .ok (.iload 8, 2) := by decide +kernel
theorem dL_hooks_60 : decode cL_hooks 60 = .ok (.imul, 1) := by decide +kernel
theorem dL_hooks_61 : decode cL_hooks 61 = .ok (.iaload, 1) := by decide +kernel
theorem dL_hooks_62 : decode cL_hooks 62 = .ok (.iconst 1, 1) := by decide +kernel
theorem dL_hooks_63 : decode cL_hooks 63 = .ok (.if_icmp .ne 7, 3) := by decide +kernel
theorem dL_hooks_66 : decode cL_hooks 66 = .ok (.iconst 1, 1) := by decide +kernel
theorem dL_hooks_67 : decode cL_hooks 67 = .ok (.goto 4, 3) := by decide +kernel
theorem dL_hooks_70 : decode cL_hooks 70 = .ok (.iconst 0, 1) := by decide +kernel
theorem dL_hooks_71 : decode cL_hooks 71 = .ok (.istore 12, 2) := by decide +kernel
theorem dL_hooks_73 : decode cL_hooks 73 = .ok (.bipush 6, 2) := by decide +kernel
theorem dL_hooks_75 : decode cL_hooks 75 = .ok (.iload 8, 2) := by decide +kernel
theorem dL_hooks_77 : decode cL_hooks 77 = .ok (.imul, 1) := by decide +kernel
theorem dL_hooks_78 : decode cL_hooks 78 = .ok (.iconst 2, 1) := by decide +kernel
theorem dL_hooks_79 : decode cL_hooks 79 = .ok (.iload 9, 2) := by decide +kernel
theorem dL_hooks_81 : decode cL_hooks 81 = .ok (.imul, 1) := by decide +kernel
theorem dL_hooks_82 : decode cL_hooks 82 = .ok (.iadd, 1) := by decide +kernel
theorem dL_hooks_83 : decode cL_hooks 83 = .ok (.istore 13, 2) := by decide +kernel
theorem dL_hooks_85 : decode cL_hooks 85 = .ok (.iload 12, 2) := by decide +kernel
theorem dL_hooks_87 : decode cL_hooks 87 = .ok (.ifCond .eq 11, 3) := by decide +kernel
theorem dL_hooks_90 : decode cL_hooks 90 = .ok (.aload 7, 2) := by decide +kernel
theorem dL_hooks_92 : decode cL_hooks 92 = .ok (.iload 13, 2) := by decide +kernel
theorem dL_hooks_94 : decode cL_hooks 94 = .ok (.iaload, 1) := by decide +kernel
theorem dL_hooks_95 : decode cL_hooks 95 = .ok (.goto 4, 3) := by decide +kernel
theorem dL_hooks_98 : decode cL_hooks 98 = .ok (.iconst 0, 1) := by decide +kernel
theorem dL_hooks_99 : decode cL_hooks 99 = .ok (.istore 14, 2) := by decide +kernel
theorem dL_hooks_101 : decode cL_hooks 101 = .ok (.iload 12, 2) := by decide +kernel
theorem dL_hooks_103 : decode cL_hooks 103 = .ok (.ifCond .eq 13, 3) := by decide +kernel
theorem dL_hooks_106 : decode cL_hooks 106 = .ok (.aload 7, 2) := by decide +kernel
theorem dL_hooks_108 : decode cL_hooks 108 = .ok (.iload 13, 2) := by decide +kernel
theorem dL_hooks_110 : decode cL_hooks 110 = .ok (.iconst 1, 1) := by decide +kernel
theorem dL_hooks_111 : decode cL_hooks 111 = .ok (.iadd, 1) := by decide +kernel
theorem dL_hooks_112 : decode cL_hooks 112 = .ok (.iaload, 1) := by decide +kernel
theorem dL_hooks_113 : decode cL_hooks 113 = .ok (.goto 4, 3) := by decide +kernel
theorem dL_hooks_116 : decode cL_hooks 116 = .ok (.iconst (-1), 1) := by decide +kernel
theorem dL_hooks_117 : decode cL_hooks 117 = .ok (.istore 15, 2) := by decide +kernel
theorem dL_hooks_119 : decode cL_hooks 119 = .ok (.iload 11, 2) := by decide +kernel
theorem dL_hooks_121 : decode cL_hooks 121 = .ok (.iconst 3, 1) := by decide +kernel
theorem dL_hooks_122 : decode cL_hooks 122 = .ok (.if_icmp .ge 123, 3) := by decide +kernel
theorem dL_hooks_125 : decode cL_hooks 125 = .ok (.iload 12, 2) := by decide +kernel
theorem dL_hooks_127 : decode cL_hooks 127 = .ok (.ifCond .eq 41, 3) := by decide +kernel
theorem dL_hooks_130 : decode cL_hooks 130 = .ok (.iload 10, 2) := by decide +kernel
theorem dL_hooks_132 : decode cL_hooks 132 = .ok (.bipush 12, 2) := by decide +kernel
theorem dL_hooks_134 : decode cL_hooks 134 = .ok (.if_icmp .ge 34, 3) := by decide +kernel
theorem dL_hooks_137 : decode cL_hooks 137 = .ok (.aload 6, 2) := by decide +kernel
theorem dL_hooks_139 : decode cL_hooks 139 = .ok (.bipush 6, 2) := by decide +kernel
theorem dL_hooks_141 : decode cL_hooks 141 = .ok (.iload 8, 2) := by decide +kernel
theorem dL_hooks_143 : decode cL_hooks 143 = .ok (.imul, 1) := by decide +kernel
theorem dL_hooks_144 : decode cL_hooks 144 = .ok (.iconst 1, 1) := by decide +kernel
theorem dL_hooks_145 : decode cL_hooks 145 = .ok (.iadd, 1) := by decide +kernel
theorem dL_hooks_146 : decode cL_hooks 146 = .ok (.iaload, 1) := by decide +kernel
theorem dL_hooks_147 : decode cL_hooks 147 = .ok (.iconst 1, 1) := by decide +kernel
theorem dL_hooks_148 : decode cL_hooks 148 = .ok (.if_icmp .ne 20, 3) := by decide +kernel
theorem dL_hooks_151 : decode cL_hooks 151 = .ok (.iload 14, 2) := by decide +kernel
theorem dL_hooks_153 : decode cL_hooks 153 = .ok (.ifCond .ne 15, 3) := by decide +kernel
theorem dL_hooks_156 : decode cL_hooks 156 = .ok (.aload 4, 2) := by decide +kernel
theorem dL_hooks_158 : decode cL_hooks 158 = .ok (.iload 10, 2) := by decide +kernel
theorem dL_hooks_160 : decode cL_hooks 160 = .ok (.iaload, 1) := by decide +kernel
theorem dL_hooks_161 : decode cL_hooks 161 = .ok (.ifCond .lt 7, 3) := by decide +kernel
theorem dL_hooks_164 : decode cL_hooks 164 = .ok (.iconst 1, 1) := by decide +kernel
theorem dL_hooks_165 : decode cL_hooks 165 = .ok (.goto 4, 3) := by decide +kernel
theorem dL_hooks_168 : decode cL_hooks 168 = .ok (.iconst 0, 1) := by decide +kernel
theorem dL_hooks_169 : decode cL_hooks 169 = .ok (.istore 16, 2) := by decide +kernel
theorem dL_hooks_171 : decode cL_hooks 171 = .ok (.iload 16, 2) := by decide +kernel
theorem dL_hooks_173 : decode cL_hooks 173 = .ok (.ifCond .eq 21, 3) := by decide +kernel
theorem dL_hooks_176 : decode cL_hooks 176 = .ok (.aload 7, 2) := by decide +kernel
theorem dL_hooks_178 : decode cL_hooks 178 = .ok (.iload 13, 2) := by decide +kernel
theorem dL_hooks_180 : decode cL_hooks 180 = .ok (.iconst 1, 1) := by decide +kernel
theorem dL_hooks_181 : decode cL_hooks 181 = .ok (.iastore, 1) := by decide +kernel
theorem dL_hooks_182 : decode cL_hooks 182 = .ok (.aload 7, 2) := by decide +kernel
theorem dL_hooks_184 : decode cL_hooks 184 = .ok (.iload 13, 2) := by decide +kernel
theorem dL_hooks_186 : decode cL_hooks 186 = .ok (.iconst 1, 1) := by decide +kernel
theorem dL_hooks_187 : decode cL_hooks 187 = .ok (.iadd, 1) := by decide +kernel
theorem dL_hooks_188 : decode cL_hooks 188 = .ok (.aload 4, 2) := by decide +kernel
theorem dL_hooks_190 : decode cL_hooks 190 = .ok (.iload 10, 2) := by decide +kernel
theorem dL_hooks_192 : decode cL_hooks 192 = .ok (.iaload, 1) := by decide +kernel
theorem dL_hooks_193 : decode cL_hooks 193 = .ok (.iastore, 1) := by decide +kernel
theorem dL_hooks_194 : decode cL_hooks 194 = .ok (.aload_n 0, 1) := by decide +kernel
theorem dL_hooks_195 : decode cL_hooks 195 = .ok (.iload 8, 2) := by decide +kernel
theorem dL_hooks_197 : decode cL_hooks 197 = .ok (.iload 9, 2) := by decide +kernel
theorem dL_hooks_199 : decode cL_hooks 199 = .ok (.iload 10, 2) := by decide +kernel
theorem dL_hooks_201 : decode cL_hooks 201 = .ok (.invokestatic 128, 3) := by decide +kernel
theorem dL_hooks_204 : decode cL_hooks 204 = .ok (.iload 12, 2) := by decide +kernel
theorem dL_hooks_206 : decode cL_hooks 206 = .ok (.ifCond .eq 10, 3) := by decide +kernel
theorem dL_hooks_209 : decode cL_hooks 209 = .ok (.iload 10, 2) := by decide +kernel
theorem dL_hooks_211 : decode cL_hooks 211 = .ok (.bipush 12, 2) := by decide +kernel
theorem dL_hooks_213 : decode cL_hooks 213 = .ok (.if_icmp .ne 8, 3) := by decide +kernel
theorem dL_hooks_216 : decode cL_hooks 216 = .ok (.bipush (-31), 2) := by decide +kernel
theorem dL_hooks_218 : decode cL_hooks 218 = .ok (.goto 18, 3) := by decide +kernel
theorem dL_hooks_221 : decode cL_hooks 221 = .ok (.iload 16, 2) := by decide +kernel
theorem dL_hooks_223 : decode cL_hooks 223 = .ok (.ifCond .eq 11, 3) := by decide +kernel
theorem dL_hooks_226 : decode cL_hooks 226 = .ok (.aload 4, 2) := by decide +kernel
theorem dL_hooks_228 : decode cL_hooks 228 = .ok (.iload 10, 2) := by decide +kernel
theorem dL_hooks_230 : decode cL_hooks 230 = .ok (.iaload, 1) := by decide +kernel
theorem dL_hooks_231 : decode cL_hooks 231 = .ok (.goto 5, 3) := by decide +kernel
theorem dL_hooks_234 : decode cL_hooks 234 = .ok (.bipush (-33), 2) := by decide +kernel
theorem dL_hooks_236 : decode cL_hooks 236 = .ok (.if_icmp .ne 7, 3) := by decide +kernel
theorem dL_hooks_239 : decode cL_hooks 239 = .ok (.iconst 1, 1) := by decide +kernel
theorem dL_hooks_240 : decode cL_hooks 240 = .ok (.goto 4, 3) := by decide +kernel
theorem dL_hooks_243 : decode cL_hooks 243 = .ok (.iconst 0, 1) := by decide +kernel
theorem dL_hooks_244 : decode cL_hooks 244 = .ok (.ireturn, 1) := by decide +kernel
theorem dL_hooks_245 : decode cL_hooks 245 = .ok (.iload 11, 2) := by decide +kernel
theorem dL_hooks_247 : decode cL_hooks 247 = .ok (.iconst 3, 1) := by decide +kernel
theorem dL_hooks_248 : decode cL_hooks 248 = .ok (.if_icmp .ne 137, 3) := by decide +kernel
theorem dL_hooks_251 : decode cL_hooks 251 = .ok (.iload 12, 2) := by decide +kernel
theorem dL_hooks_253 : decode cL_hooks 253 = .ok (.ifCond .eq 9, 3) := by decide +kernel
theorem dL_hooks_256 : decode cL_hooks 256 = .ok (.iload 14, 2) := by decide +kernel
theorem dL_hooks_258 : decode cL_hooks 258 = .ok (.iconst 1, 1) := by decide +kernel
theorem dL_hooks_259 : decode cL_hooks 259 = .ok (.if_icmp .eq 32, 3) := by decide +kernel
theorem dL_hooks_262 : decode cL_hooks 262 = .ok (.aload_n 0, 1) := by decide +kernel
theorem dL_hooks_263 : decode cL_hooks 263 = .ok (.iload 8, 2) := by decide +kernel
theorem dL_hooks_265 : decode cL_hooks 265 = .ok (.iload 9, 2) := by decide +kernel
theorem dL_hooks_267 : decode cL_hooks 267 = .ok (.invokestatic 131, 3) := by decide +kernel
theorem dL_hooks_270 : decode cL_hooks 270 = .ok (.iload 12, 2) := by decide +kernel
theorem dL_hooks_272 : decode cL_hooks 272 = .ok (.ifCond .eq 8, 3) := by decide +kernel
theorem dL_hooks_275 : decode cL_hooks 275 = .ok (.bipush (-33), 2) := by decide +kernel
theorem dL_hooks_277 : decode cL_hooks 277 = .ok (.goto 5, 3) := by decide +kernel
theorem dL_hooks_280 : decode cL_hooks 280 = .ok (.bipush (-31), 2) := by decide +kernel
theorem dL_hooks_282 : decode cL_hooks 282 = .ok (.if_icmp .ne 7, 3) := by decide +kernel
theorem dL_hooks_285 : decode cL_hooks 285 = .ok (.iconst 1, 1) := by decide +kernel
theorem dL_hooks_286 : decode cL_hooks 286 = .ok (.goto 4, 3) := by decide +kernel
theorem dL_hooks_289 : decode cL_hooks 289 = .ok (.iconst 0, 1) := by decide +kernel
theorem dL_hooks_290 : decode cL_hooks 290 = .ok (.ireturn, 1) := by decide +kernel
theorem dL_hooks_291 : decode cL_hooks 291 = .ok (.iload 15, 2) := by decide +kernel
theorem dL_hooks_293 : decode cL_hooks 293 = .ok (.aload 5, 2) := by decide +kernel
theorem dL_hooks_295 : decode cL_hooks 295 = .ok (.invokestatic 69, 3) := by decide +kernel
theorem dL_hooks_298 : decode cL_hooks 298 = .ok (.iconst (-1), 1) := by decide +kernel
theorem dL_hooks_299 : decode cL_hooks 299 = .ok (.if_icmp .ne 7, 3) := by decide +kernel
theorem dL_hooks_302 : decode cL_hooks 302 = .ok (.iconst 1, 1) := by decide +kernel
theorem dL_hooks_303 : decode cL_hooks 303 = .ok (.goto 4, 3) := by decide +kernel
theorem dL_hooks_306 : decode cL_hooks 306 = .ok (.iconst 0, 1) := by decide +kernel
theorem dL_hooks_307 : decode cL_hooks 307 = .ok (.istore 16, 2) := by decide +kernel
theorem dL_hooks_309 : decode cL_hooks 309 = .ok (.aload 7, 2) := by decide +kernel
theorem dL_hooks_311 : decode cL_hooks 311 = .ok (.iload 13, 2) := by decide +kernel
theorem dL_hooks_313 : decode cL_hooks 313 = .ok (.iload 16, 2) := by decide +kernel
theorem dL_hooks_315 : decode cL_hooks 315 = .ok (.ifCond .eq 7, 3) := by decide +kernel
theorem dL_hooks_318 : decode cL_hooks 318 = .ok (.iconst 2, 1) := by decide +kernel
theorem dL_hooks_319 : decode cL_hooks 319 = .ok (.goto 4, 3) := by decide +kernel
theorem dL_hooks_322 : decode cL_hooks 322 = .ok (.iconst 0, 1) := by decide +kernel
theorem dL_hooks_323 : decode cL_hooks 323 = .ok (.iastore, 1) := by decide +kernel
theorem dL_hooks_324 : decode cL_hooks 324 = .ok (.aload 7, 2) := by decide +kernel
theorem dL_hooks_326 : decode cL_hooks 326 = .ok (.iload 13, 2) := by decide +kernel
theorem dL_hooks_328 : decode cL_hooks 328 = .ok (.iconst 1, 1) := by decide +kernel
theorem dL_hooks_329 : decode cL_hooks 329 = .ok (.iadd, 1) := by decide +kernel
theorem dL_hooks_330 : decode cL_hooks 330 = .ok (.iload 16, 2) := by decide +kernel
theorem dL_hooks_332 : decode cL_hooks 332 = .ok (.ifCond .eq 8, 3) := by decide +kernel
theorem dL_hooks_335 : decode cL_hooks 335 = .ok (.iload 15, 2) := by decide +kernel
theorem dL_hooks_337 : decode cL_hooks 337 = .ok (.goto 4, 3) := by decide +kernel
theorem dL_hooks_340 : decode cL_hooks 340 = .ok (.iconst (-1), 1) := by decide +kernel
theorem dL_hooks_341 : decode cL_hooks 341 = .ok (.iastore, 1) := by decide +kernel
theorem dL_hooks_342 : decode cL_hooks 342 = .ok (.aload_n 3, 1) := by decide +kernel
theorem dL_hooks_343 : decode cL_hooks 343 = .ok (.iconst 4, 1) := by decide +kernel
theorem dL_hooks_344 : decode cL_hooks 344 = .ok (.dup2, 1) := by decide +kernel
theorem dL_hooks_345 : decode cL_hooks 345 = .ok (.iaload, 1) := by decide +kernel
theorem dL_hooks_346 : decode cL_hooks 346 = .ok (.iload 16, 2) := by decide +kernel
theorem dL_hooks_348 : decode cL_hooks 348 = .ok (.ifCond .eq 7, 3) := by decide +kernel
theorem dL_hooks_351 : decode cL_hooks 351 = .ok (.iconst 0, 1) := by decide +kernel
theorem dL_hooks_352 : decode cL_hooks 352 = .ok (.goto 4, 3) := by decide +kernel
theorem dL_hooks_355 : decode cL_hooks 355 = .ok (.iconst 1, 1) := by decide +kernel
theorem dL_hooks_356 : decode cL_hooks 356 = .ok (.iadd, 1) := by decide +kernel
theorem dL_hooks_357 : decode cL_hooks 357 = .ok (.iastore, 1) := by decide +kernel
theorem dL_hooks_358 : decode cL_hooks 358 = .ok (.aload_n 0, 1) := by decide +kernel
theorem dL_hooks_359 : decode cL_hooks 359 = .ok (.iload 8, 2) := by decide +kernel
theorem dL_hooks_361 : decode cL_hooks 361 = .ok (.iload 9, 2) := by decide +kernel
theorem dL_hooks_363 : decode cL_hooks 363 = .ok (.invokestatic 131, 3) := by decide +kernel
theorem dL_hooks_366 : decode cL_hooks 366 = .ok (.iload 16, 2) := by decide +kernel
theorem dL_hooks_368 : decode cL_hooks 368 = .ok (.ifCond .eq 7, 3) := by decide +kernel
theorem dL_hooks_371 : decode cL_hooks 371 = .ok (.iconst 1, 1) := by decide +kernel
theorem dL_hooks_372 : decode cL_hooks 372 = .ok (.goto 4, 3) := by decide +kernel
theorem dL_hooks_375 : decode cL_hooks 375 = .ok (.iconst 0, 1) := by decide +kernel
theorem dL_hooks_376 : decode cL_hooks 376 = .ok (.if_icmp .ne 7, 3) := by decide +kernel
theorem dL_hooks_379 : decode cL_hooks 379 = .ok (.iconst 1, 1) := by decide +kernel
theorem dL_hooks_380 : decode cL_hooks 380 = .ok (.goto 4, 3) := by decide +kernel
theorem dL_hooks_383 : decode cL_hooks 383 = .ok (.iconst 0, 1) := by decide +kernel
theorem dL_hooks_384 : decode cL_hooks 384 = .ok (.ireturn, 1) := by decide +kernel
theorem dL_hooks_385 : decode cL_hooks 385 = .ok (.iload 12, 2) := by decide +kernel
theorem dL_hooks_387 : decode cL_hooks 387 = .ok (.ifCond .eq 8, 3) := by decide +kernel
theorem dL_hooks_390 : decode cL_hooks 390 = .ok (.iload 14, 2) := by decide +kernel
theorem dL_hooks_392 : decode cL_hooks 392 = .ok (.ifCond .ne 55, 3) := by decide +kernel
theorem dL_hooks_395 : decode cL_hooks 395 = .ok (.aload_n 0, 1) := by decide +kernel
theorem dL_hooks_396 : decode cL_hooks 396 = .ok (.iload 8, 2) := by decide +kernel
theorem dL_hooks_398 : decode cL_hooks 398 = .ok (.iload 9, 2) := by decide +kernel
theorem dL_hooks_400 : decode cL_hooks 400 = .ok (.invokestatic 133, 3) := by decide +kernel
theorem dL_hooks_403 : decode cL_hooks 403 = .ok (.iload 12, 2) := by decide +kernel
theorem dL_hooks_405 : decode cL_hooks 405 = .ok (.ifCond .eq 8, 3) := by decide +kernel
theorem dL_hooks_408 : decode cL_hooks 408 = .ok (.bipush (-33), 2) := by decide +kernel
theorem dL_hooks_410 : decode cL_hooks 410 = .ok (.goto 5, 3) := by decide +kernel
theorem dL_hooks_413 : decode cL_hooks 413 = .ok (.bipush (-31), 2) := by decide +kernel
theorem dL_hooks_415 : decode cL_hooks 415 = .ok (.if_icmp .ne 30, 3) := by decide +kernel
theorem dL_hooks_418 : decode cL_hooks 418 = .ok (.aload_n 0, 1) := by decide +kernel
theorem dL_hooks_419 : decode cL_hooks 419 = .ok (.iload 8, 2) := by decide +kernel
theorem dL_hooks_421 : decode cL_hooks 421 = .ok (.iload 9, 2) := by decide +kernel
theorem dL_hooks_423 : decode cL_hooks 423 = .ok (.invokestatic 135, 3) := by decide +kernel
theorem dL_hooks_426 : decode cL_hooks 426 = .ok (.iload 12, 2) := by decide +kernel
theorem dL_hooks_428 : decode cL_hooks 428 = .ok (.ifCond .eq 8, 3) := by decide +kernel
theorem dL_hooks_431 : decode cL_hooks 431 = .ok (.bipush (-33), 2) := by decide +kernel
theorem dL_hooks_433 : decode cL_hooks 433 = .ok (.goto 5, 3) := by decide +kernel
theorem dL_hooks_436 : decode cL_hooks 436 = .ok (.bipush (-31), 2) := by decide +kernel
theorem dL_hooks_438 : decode cL_hooks 438 = .ok (.if_icmp .ne 7, 3) := by decide +kernel
theorem dL_hooks_441 : decode cL_hooks 441 = .ok (.iconst 1, 1) := by decide +kernel
theorem dL_hooks_442 : decode cL_hooks 442 = .ok (.goto 4, 3) := by decide +kernel
theorem dL_hooks_445 : decode cL_hooks 445 = .ok (.iconst 0, 1) := by decide +kernel
theorem dL_hooks_446 : decode cL_hooks 446 = .ok (.ireturn, 1) := by decide +kernel
theorem dL_hooks_447 : decode cL_hooks 447 = .ok (.iload 11, 2) := by decide +kernel
theorem dL_hooks_449 : decode cL_hooks 449 = .ok (.iconst 4, 1) := by decide +kernel
theorem dL_hooks_450 : decode cL_hooks 450 = .ok (.if_icmp .ne 36, 3) := by decide +kernel
theorem dL_hooks_453 : decode cL_hooks 453 = .ok (.aload 7, 2) := by decide +kernel
theorem dL_hooks_455 : decode cL_hooks 455 = .ok (.iload 13, 2) := by decide +kernel
theorem dL_hooks_457 : decode cL_hooks 457 = .ok (.iconst 0, 1) := by decide +kernel
theorem dL_hooks_458 : decode cL_hooks 458 = .ok (.iastore, 1) := by decide +kernel
theorem dL_hooks_459 : decode cL_hooks 459 = .ok (.aload 7, 2) := by decide +kernel
theorem dL_hooks_461 : decode cL_hooks 461 = .ok (.iload 13, 2) := by decide +kernel
theorem dL_hooks_463 : decode cL_hooks 463 = .ok (.iconst 1, 1) := by decide +kernel
theorem dL_hooks_464 : decode cL_hooks 464 = .ok (.iadd, 1) := by decide +kernel
theorem dL_hooks_465 : decode cL_hooks 465 = .ok (.iconst (-1), 1) := by decide +kernel
theorem dL_hooks_466 : decode cL_hooks 466 = .ok (.iastore, 1) := by decide +kernel
theorem dL_hooks_467 : decode cL_hooks 467 = .ok (.aload_n 0, 1) := by decide +kernel
theorem dL_hooks_468 : decode cL_hooks 468 = .ok (.iload 8, 2) := by decide +kernel
theorem dL_hooks_470 : decode cL_hooks 470 = .ok (.iload 9, 2) := by decide +kernel
theorem dL_hooks_472 : decode cL_hooks 472 = .ok (.invokestatic 133, 3) := by decide +kernel
theorem dL_hooks_475 : decode cL_hooks 475 = .ok (.iload 15, 2) := by decide +kernel
theorem dL_hooks_477 : decode cL_hooks 477 = .ok (.if_icmp .ne 7, 3) := by decide +kernel
theorem dL_hooks_480 : decode cL_hooks 480 = .ok (.iconst 1, 1) := by decide +kernel
theorem dL_hooks_481 : decode cL_hooks 481 = .ok (.goto 4, 3) := by decide +kernel
theorem dL_hooks_484 : decode cL_hooks 484 = .ok (.iconst 0, 1) := by decide +kernel
theorem dL_hooks_485 : decode cL_hooks 485 = .ok (.ireturn, 1) := by decide +kernel
theorem dL_hooks_486 : decode cL_hooks 486 = .ok (.iload 14, 2) := by decide +kernel
theorem dL_hooks_488 : decode cL_hooks 488 = .ok (.iconst 1, 1) := by decide +kernel
theorem dL_hooks_489 : decode cL_hooks 489 = .ok (.if_icmp .ne 19, 3) := by decide +kernel
theorem dL_hooks_492 : decode cL_hooks 492 = .ok (.iload 15, 2) := by decide +kernel
theorem dL_hooks_494 : decode cL_hooks 494 = .ok (.aload 5, 2) := by decide +kernel
theorem dL_hooks_496 : decode cL_hooks 496 = .ok (.invokestatic 69, 3) := by decide +kernel
theorem dL_hooks_499 : decode cL_hooks 499 = .ok (.bipush (-2), 2) := by decide +kernel
theorem dL_hooks_501 : decode cL_hooks 501 = .ok (.if_icmp .ne 7, 3) := by decide +kernel
theorem dL_hooks_504 : decode cL_hooks 504 = .ok (.iconst 1, 1) := by decide +kernel
theorem dL_hooks_505 : decode cL_hooks 505 = .ok (.goto 4, 3) := by decide +kernel
theorem dL_hooks_508 : decode cL_hooks 508 = .ok (.iconst 0, 1) := by decide +kernel
theorem dL_hooks_509 : decode cL_hooks 509 = .ok (.istore 16, 2) := by decide +kernel
theorem dL_hooks_511 : decode cL_hooks 511 = .ok (.aload_n 3, 1) := by decide +kernel
theorem dL_hooks_512 : decode cL_hooks 512 = .ok (.iconst 5, 1) := by decide +kernel
theorem dL_hooks_513 : decode cL_hooks 513 = .ok (.dup2, 1) := by decide +kernel
theorem dL_hooks_514 : decode cL_hooks 514 = .ok (.iaload, 1) := by decide +kernel
theorem dL_hooks_515 : decode cL_hooks 515 = .ok (.iload 16, 2) := by decide +kernel
theorem dL_hooks_517 : decode cL_hooks 517 = .ok (.ifCond .eq 7, 3) := by decide +kernel
theorem dL_hooks_520 : decode cL_hooks 520 = .ok (.iconst 1, 1) := by decide +kernel
theorem dL_hooks_521 : decode cL_hooks 521 = .ok (.goto 4, 3) := by decide +kernel
theorem dL_hooks_524 : decode cL_hooks 524 = .ok (.iconst 0, 1) := by decide +kernel
theorem dL_hooks_525 : decode cL_hooks 525 = .ok (.iadd, 1) := by decide +kernel
theorem dL_hooks_526 : decode cL_hooks 526 = .ok (.iastore, 1) := by decide +kernel
theorem dL_hooks_527 : decode cL_hooks 527 = .ok (.aload_n 0, 1) := by decide +kernel
theorem dL_hooks_528 : decode cL_hooks 528 = .ok (.iload 8, 2) := by decide +kernel
theorem dL_hooks_530 : decode cL_hooks 530 = .ok (.iload 9, 2) := by decide +kernel
theorem dL_hooks_532 : decode cL_hooks 532 = .ok (.invokestatic 135, 3) := by decide +kernel
theorem dL_hooks_535 : decode cL_hooks 535 = .ok (.iload 16, 2) := by decide +kernel
theorem dL_hooks_537 : decode cL_hooks 537 = .ok (.ifCond .eq 7, 3) := by decide +kernel
theorem dL_hooks_540 : decode cL_hooks 540 = .ok (.iconst (-1), 1) := by decide +kernel
theorem dL_hooks_541 : decode cL_hooks 541 = .ok (.goto 11, 3) := by decide +kernel
theorem dL_hooks_544 : decode cL_hooks 544 = .ok (.aload 5, 2) := by decide +kernel
theorem dL_hooks_546 : decode cL_hooks 546 = .ok (.iload 15, 2) := by decide +kernel
theorem dL_hooks_548 : decode cL_hooks 548 = .ok (.iaload, 1) := by decide +kernel
theorem dL_hooks_549 : decode cL_hooks 549 = .ok (.bipush 10, 2) := by decide +kernel
theorem dL_hooks_551 : decode cL_hooks 551 = .ok (.irem, 1) := by decide +kernel
theorem dL_hooks_552 : decode cL_hooks 552 = .ok (.if_icmp .ne 7, 3) := by decide +kernel
theorem dL_hooks_555 : decode cL_hooks 555 = .ok (.iconst 1, 1) := by decide +kernel
theorem dL_hooks_556 : decode cL_hooks 556 = .ok (.goto 4, 3) := by decide +kernel
theorem dL_hooks_559 : decode cL_hooks 559 = .ok (.iconst 0, 1) := by decide +kernel
theorem dL_hooks_560 : decode cL_hooks 560 = .ok (.ireturn, 1) := by decide +kernel
theorem dL_leaves_0 : decode cL_leaves 0 = .ok (.iload_n 2, 1) := by decide +kernel
theorem dL_leaves_1 : decode cL_leaves 1 = .ok (.iconst 5, 1) := by decide +kernel
theorem dL_leaves_2 : decode cL_leaves 2 = .ok (.invokestatic 102, 3) := by decide +kernel
theorem dL_leaves_5 : decode cL_leaves 5 = .ok (.istore 9, 2) := by decide +kernel
theorem dL_leaves_7 : decode cL_leaves 7 = .ok (.iload_n 2, 1) := by decide +kernel
theorem dL_leaves_8 : decode cL_leaves 8 = .ok (.iconst 4, 1) := by decide +kernel
theorem dL_leaves_9 : decode cL_leaves 9 = .ok (.ishr, 1) := by decide +kernel
theorem dL_leaves_10 : decode cL_leaves 10 = .ok (.iload_n 2, 1) := by decide +kernel
theorem dL_leaves_11 : decode cL_leaves 11 = .ok (.iconst 3, 1) := by decide +kernel
theorem dL_leaves_12 : decode cL_leaves 12 = .ok (.ishr, 1) := by decide +kernel
theorem dL_leaves_13 : decode cL_leaves 13 = .ok (.iconst 1, 1) := by decide +kernel
theorem dL_leaves_14 : decode cL_leaves 14 = .ok (.iand, 1) := by decide +kernel
theorem dL_leaves_15 : decode cL_leaves 15 = .ok (.ifCond .ne 7, 3) := by decide +kernel
theorem dL_leaves_18 : decode cL_leaves 18 = .ok (.iconst 4, 1) := by decide +kernel
theorem dL_leaves_19 : decode cL_leaves 19 = .ok (.goto 5, 3) := by decide +kernel
theorem dL_leaves_22 : decode cL_leaves 22 = .ok (.bipush 12, 2) := by decide +kernel
theorem dL_leaves_24 : decode cL_leaves 24 = .ok (.invokestatic 102, 3) := by decide +kernel
theorem dL_leaves_27 : decode cL_leaves 27 = .ok (.istore 10, 2) := by decide +kernel
theorem dL_leaves_29 : decode cL_leaves 29 = .ok (.iload_n 2, 1) := by decide +kernel
theorem dL_leaves_30 : decode cL_leaves 30 = .ok (.bipush 9, 2) := by decide +kernel
theorem dL_leaves_32 : decode cL_leaves 32 = .ok (.ishr, 1) := by decide +kernel
theorem dL_leaves_33 : decode cL_leaves 33 = .ok (.bipush 10, 2) := by decide +kernel
theorem dL_leaves_35 : decode cL_leaves 35 = .ok (.invokestatic 102, 3) := by decide +kernel
theorem dL_leaves_38 : decode cL_leaves 38 = .ok (.istore 11, 2) := by decide +kernel
theorem dL_leaves_40 : decode cL_leaves 40 = .ok (.iload_n 1, 1) := by decide +kernel
theorem dL_leaves_41 : decode cL_leaves 41 = .ok (.bipush 7, 2) := by decide +kernel
theorem dL_leaves_43 : decode cL_leaves 43 = .ok (.invokestatic 102, 3) := by decide +kernel
theorem dL_leaves_46 : decode cL_leaves 46 = .ok (.istore 12, 2) := by decide +kernel
theorem dL_leaves_48 : decode cL_leaves 48 = .ok (.aload 7, 2) := by decide +kernel
theorem dL_leaves_50 : decode cL_leaves 50 = .ok (.bipush 6, 2) := by decide +kernel
theorem dL_leaves_52 : decode cL_leaves 52 = .ok (.iload 9, 2) := by decide +kernel
theorem dL_leaves_54 : decode cL_leaves 54 = .ok (.imul, 1) := by decide +kernel
theorem dL_leaves_55 : decode cL_leaves 55 = .ok (.iaload, 1) := by decide +kernel
theorem dL_leaves_56 : decode cL_leaves 56 = .ok (.iconst 1, 1) := by decide +kernel
theorem dL_leaves_57 : decode cL_leaves 57 = .ok (.if_icmp .ne 7, 3) := by decide +kernel
theorem dL_leaves_60 : decode cL_leaves 60 = .ok (.iconst 1, 1) := by decide +kernel
theorem dL_leaves_61 : decode cL_leaves 61 = .ok (.goto 4, 3) := by decide +kernel
theorem dL_leaves_64 : decode cL_leaves 64 = .ok (.iconst 0, 1) := by decide +kernel
theorem dL_leaves_65 : decode cL_leaves 65 = .ok (.istore 13, 2) := by decide +kernel
theorem dL_leaves_67 : decode cL_leaves 67 = .ok (.iload 13, 2) := by decide +kernel
theorem dL_leaves_69 : decode cL_leaves 69 = .ok (.ifCond .eq 29, 3) := by decide +kernel
theorem dL_leaves_72 : decode cL_leaves 72 = .ok (.aload 7, 2) := by decide +kernel
theorem dL_leaves_74 : decode cL_leaves 74 = .ok (.bipush 6, 2) := by decide +kernel
theorem dL_leaves_76 : decode cL_leaves 76 = .ok (.iload 9, 2) := by decide +kernel
theorem dL_leaves_78 : decode cL_leaves 78 = .ok (.imul, 1) := by decide +kernel
theorem dL_leaves_79 : decode cL_leaves 79 = .ok (.iconst 1, 1) := by decide +kernel
theorem dL_leaves_80 : decode cL_leaves 80 = .ok (.iadd, 1) := by decide +kernel
theorem dL_leaves_81 : decode cL_leaves 81 = .ok (.iaload, 1) := by decide +kernel
theorem dL_leaves_82 : decode cL_leaves 82 = .ok (.iconst 1, 1) := by decide +kernel
theorem dL_leaves_83 : decode cL_leaves 83 = .ok (.if_icmp .ne 15, 3) := by decide +kernel
theorem dL_leaves_86 : decode cL_leaves 86 = .ok (.aload 4, 2) := by decide +kernel
theorem dL_leaves_88 : decode cL_leaves 88 = .ok (.iload 10, 2) := by decide +kernel
theorem dL_leaves_90 : decode cL_leaves 90 = .ok (.iaload, 1) := by decide +kernel
theorem dL_leaves_91 : decode cL_leaves 91 = .ok (.ifCond .lt 7, 3) := by decide +kernel
theorem dL_leaves_94 : decode cL_leaves 94 = .ok (.iconst 1, 1) := by decide +kernel
theorem dL_leaves_95 : decode cL_leaves 95 = .ok (.goto 4, 3) := by decide +kernel
theorem dL_leaves_98 : decode cL_leaves 98 = .ok (.iconst 0, 1) := by decide +kernel
theorem dL_leaves_99 : decode cL_leaves 99 = .ok (.istore 14, 2) := by decide +kernel
theorem dL_leaves_101 : decode cL_leaves 101 = .ok (.iload 12, 2) := by decide +kernel
theorem dL_leaves_103 : decode cL_leaves 103 = .ok (.iconst 2, 1) := by decide +kernel
theorem dL_leaves_104 : decode cL_leaves 104 = .ok (.if_icmp .ge 55, 3) := by decide +kernel
theorem dL_leaves_107 : decode cL_leaves 107 = .ok (.aload 4, 2) := by decide +kernel
theorem dL_leaves_109 : decode cL_leaves 109 = .ok (.iload 10, 2) := by decide +kernel
theorem dL_leaves_111 : decode cL_leaves 111 = .ok (.iaload, 1) := by decide +kernel
theorem dL_leaves_112 : decode cL_leaves 112 = .ok (.ifCond .lt 47, 3) := by decide +kernel
theorem dL_leaves_115 : decode cL_leaves 115 = .ok (.aload_n 0, 1) := by decide +kernel
theorem dL_leaves_116 : decode cL_leaves 116 = .ok (.iload 10, 2) := by decide +kernel
theorem dL_leaves_118 : decode cL_leaves 118 = .ok (.iload 11, 2) := by decide +kernel
theorem dL_leaves_120 : decode cL_leaves 120 = .ok (.invokestatic 137, 3) := by decide +kernel
theorem dL_leaves_123 : decode cL_leaves 123 = .ok (.bipush (-33), 2) := by decide +kernel
theorem dL_leaves_125 : decode cL_leaves 125 = .ok (.if_icmp .ne 32, 3) := by decide +kernel
theorem dL_leaves_128 : decode cL_leaves 128 = .ok (.aload_n 0, 1) := by decide +kernel
theorem dL_leaves_129 : decode cL_leaves 129 = .ok (.bipush 12, 2) := by decide +kernel
theorem dL_leaves_131 : decode cL_leaves 131 = .ok (.iconst 0, 1) := by decide +kernel
theorem dL_leaves_132 : decode cL_leaves 132 = .ok (.invokestatic 137, 3) := by decide +kernel
theorem dL_leaves_135 : decode cL_leaves 135 = .ok (.bipush (-31), 2) := by decide +kernel
theorem dL_leaves_137 : decode cL_leaves 137 = .ok (.if_icmp .ne 20, 3) := by decide +kernel
theorem dL_leaves_140 : decode cL_leaves 140 = .ok (.aload_n 0, 1) := by decide +kernel
theorem dL_leaves_141 : decode cL_leaves 141 = .ok (.iload 10, 2) := by decide +kernel
theorem dL_leaves_143 : decode cL_leaves 143 = .ok (.bipush 10, 2) := by decide +kernel
theorem dL_leaves_145 : decode cL_leaves 145 = .ok (.invokestatic 137, 3) := by decide +kernel
theorem dL_leaves_148 : decode cL_leaves 148 = .ok (.bipush (-32), 2) := by decide +kernel
theorem dL_leaves_150 : decode cL_leaves 150 = .ok (.if_icmp .ne 7, 3) := by decide +kernel
theorem dL_leaves_153 : decode cL_leaves 153 = .ok (.iconst 1, 1) := by decide +kernel
theorem dL_leaves_154 : decode cL_leaves 154 = .ok (.goto 4, 3) := by decide +kernel
theorem dL_leaves_157 : decode cL_leaves 157 = .ok (.iconst 0, 1) := by decide +kernel
theorem dL_leaves_158 : decode cL_leaves 158 = .ok (.ireturn, 1) := by decide +kernel
theorem dL_leaves_159 : decode cL_leaves 159 = .ok (.iload 12, 2) := by decide +kernel
theorem dL_leaves_161 : decode cL_leaves 161 = .ok (.iconst 3, 1) := by decide +kernel
theorem dL_leaves_162 : decode cL_leaves 162 = .ok (.if_icmp .ge 52, 3) := by decide +kernel
theorem dL_leaves_165 : decode cL_leaves 165 = .ok (.aload 4, 2) := by decide +kernel
theorem dL_leaves_167 : decode cL_leaves 167 = .ok (.iload 10, 2) := by decide +kernel
theorem dL_leaves_169 : decode cL_leaves 169 = .ok (.iaload, 1) := by decide +kernel
theorem dL_leaves_170 : decode cL_leaves 170 = .ok (.ifCond .ge 44, 3) := by decide +kernel
theorem dL_leaves_173 : decode cL_leaves 173 = .ok (.aload_n 3, 1) := by decide +kernel
theorem dL_leaves_174 : decode cL_leaves 174 = .ok (.iconst 1, 1) := by decide +kernel
theorem dL_leaves_175 : decode cL_leaves 175 = .ok (.iaload, 1) := by decide +kernel
theorem dL_leaves_176 : decode cL_leaves 176 = .ok (.bipush 40, 2) := by decide +kernel
theorem dL_leaves_178 : decode cL_leaves 178 = .ok (.if_icmp .ge 36, 3) := by decide +kernel
theorem dL_leaves_181 : decode cL_leaves 181 = .ok (.iload 10, 2) := by decide +kernel
theorem dL_leaves_183 : decode cL_leaves 183 = .ok (.iload 11, 2) := by decide +kernel
theorem dL_leaves_185 : decode cL_leaves 185 = .ok (.aload_n 3, 1) := by decide +kernel
theorem dL_leaves_186 : decode cL_leaves 186 = .ok (.aload 4, 2) := by decide +kernel
theorem dL_leaves_188 : decode cL_leaves 188 = .ok (.aload 5, 2) := by decide +kernel
theorem dL_leaves_190 : decode cL_leaves 190 = .ok (.invokestatic 139, 3) := by decide +kernel
theorem dL_leaves_193 : decode cL_leaves 193 = .ok (.istore 15, 2) := by decide +kernel
theorem dL_leaves_195 : decode cL_leaves 195 = .ok (.aload_n 0, 1) := by decide +kernel
theorem dL_leaves_196 : decode cL_leaves 196 = .ok (.iload 10, 2) := by decide +kernel
theorem dL_leaves_198 : decode cL_leaves 198 = .ok (.iload 11, 2) := by decide +kernel
theorem dL_leaves_200 : decode cL_leaves 200 = .ok (.invokestatic 137, 3) := by decide +kernel
theorem dL_leaves_203 : decode cL_leaves 203 = .ok (.iload 15, 2) := by decide +kernel
theorem dL_leaves_205 : decode cL_leaves 205 = .ok (.if_icmp .ne 7, 3) := by decide +kernel
theorem dL_leaves_208 : decode cL_leaves 208 = .ok (.iconst 1, 1) := by decide +kernel
theorem dL_leaves_209 : decode cL_leaves 209 = .ok (.goto 4, 3) := by decide +kernel
theorem dL_leaves_212 : decode cL_leaves 212 = .ok (.iconst 0, 1) := by decide +kernel
theorem dL_leaves_213 : decode cL_leaves 213 = .ok (.ireturn, 1) := by decide +kernel
theorem dL_leaves_214 : decode cL_leaves 214 = .ok (.iload 12, 2) := by decide +kernel
theorem dL_leaves_216 : decode cL_leaves 216 = .ok (.iconst 5, 1) := by decide +kernel
theorem dL_leaves_217 : decode cL_leaves 217 = .ok (.if_icmp .ge 76, 3) := by decide +kernel
theorem dL_leaves_220 : decode cL_leaves 220 = .ok (.iload 14, 2) := by decide +kernel
theorem dL_leaves_222 : decode cL_leaves 222 = .ok (.ifCond .ne 32, 3) := by decide +kernel
theorem dL_leaves_225 : decode cL_leaves 225 = .ok (.aload_n 0, 1) := by decide +kernel
theorem dL_leaves_226 : decode cL_leaves 226 = .ok (.iload 9, 2) := by decide +kernel
theorem dL_leaves_228 : decode cL_leaves 228 = .ok (.iload 10, 2) := by decide +kernel
theorem dL_leaves_230 : decode cL_leaves 230 = .ok (.invokestatic 143, 3) := by decide +kernel
theorem dL_leaves_233 : decode cL_leaves 233 = .ok (.iload 13, 2) := by decide +kernel
theorem dL_leaves_235 : decode cL_leaves 235 = .ok (.ifCond .eq 8, 3) := by decide +kernel
theorem dL_leaves_238 : decode cL_leaves 238 = .ok (.bipush (-33), 2) := by decide +kernel
theorem dL_leaves_240 : decode cL_leaves 240 = .ok (.goto 5, 3) := by decide +kernel
theorem dL_leaves_243 : decode cL_leaves 243 = .ok (.bipush (-31), 2) := by decide +kernel
theorem dL_leaves_245 : decode cL_leaves 245 = .ok (.if_icmp .ne 7, 3) := by decide +kernel
theorem dL_leaves_248 : decode cL_leaves 248 = .ok (.iconst 1, 1) := by decide +kernel
theorem dL_leaves_249 : decode cL_leaves 249 = .ok (.goto 4, 3) := by decide +kernel
theorem dL_leaves_252 : decode cL_leaves 252 = .ok (.iconst 0, 1) := by decide +kernel
theorem dL_leaves_253 : decode cL_leaves 253 = .ok (.ireturn, 1) := by decide +kernel
theorem dL_leaves_254 : decode cL_leaves 254 = .ok (.iload 9, 2) := by decide +kernel
theorem dL_leaves_256 : decode cL_leaves 256 = .ok (.iload 10, 2) := by decide +kernel
theorem dL_leaves_258 : decode cL_leaves 258 = .ok (.aload_n 3, 1) := by decide +kernel
theorem dL_leaves_259 : decode cL_leaves 259 = .ok (.aload 4, 2) := by decide +kernel
theorem dL_leaves_261 : decode cL_leaves 261 = .ok (.aload 5, 2) := by decide +kernel
theorem dL_leaves_263 : decode cL_leaves 263 = .ok (.aload 6, 2) := by decide +kernel
theorem dL_leaves_265 : decode cL_leaves 265 = .ok (.aload 7, 2) := by decide +kernel
theorem dL_leaves_267 : decode cL_leaves 267 = .ok (.aload 8, 2) := by decide +kernel
theorem dL_leaves_269 : decode cL_leaves 269 = .ok (.invokestatic 145, 3) := by decide +kernel
theorem dL_leaves_272 : decode cL_leaves 272 = .ok (.istore 15, 2) := by decide +kernel
theorem dL_leaves_274 : decode cL_leaves 274 = .ok (.aload_n 0, 1) := by decide +kernel
theorem dL_leaves_275 : decode cL_leaves 275 = .ok (.iload 9, 2) := by decide +kernel
theorem dL_leaves_277 : decode cL_leaves 277 = .ok (.iload 10, 2) := by decide +kernel
theorem dL_leaves_279 : decode cL_leaves 279 = .ok (.invokestatic 143, 3) := by decide +kernel
theorem dL_leaves_282 : decode cL_leaves 282 = .ok (.iload 15, 2) := by decide +kernel
theorem dL_leaves_284 : decode cL_leaves 284 = .ok (.if_icmp .ne 7, 3) := by decide +kernel
theorem dL_leaves_287 : decode cL_leaves 287 = .ok (.iconst 1, 1) := by decide +kernel
theorem dL_leaves_288 : decode cL_leaves 288 = .ok (.goto 4, 3) := by decide +kernel
theorem dL_leaves_291 : decode cL_leaves 291 = .ok (.iconst 0, 1) := by decide +kernel
theorem dL_leaves_292 : decode cL_leaves 292 = .ok (.ireturn, 1) := by decide +kernel
theorem dL_leaves_293 : decode cL_leaves 293 = .ok (.iload 12, 2) := by decide +kernel
theorem dL_leaves_295 : decode cL_leaves 295 = .ok (.iconst 5, 1) := by decide +kernel
theorem dL_leaves_296 : decode cL_leaves 296 = .ok (.if_icmp .ne 122, 3) := by decide +kernel
theorem dL_leaves_299 : decode cL_leaves 299 = .ok (.aload_n 3, 1) := by decide +kernel
theorem dL_leaves_300 : decode cL_leaves 300 = .ok (.iconst 1, 1) := by decide +kernel
theorem dL_leaves_301 : decode cL_leaves 301 = .ok (.iaload, 1) := by decide +kernel
theorem dL_leaves_302 : decode cL_leaves 302 = .ok (.bipush 40, 2) := by decide +kernel
theorem dL_leaves_304 : decode cL_leaves 304 = .ok (.if_icmp .ge 114, 3) := by decide +kernel
theorem dL_leaves_307 : decode cL_leaves 307 = .ok (.iload 14, 2) := by decide +kernel
theorem dL_leaves_309 : decode cL_leaves 309 = .ok (.ifCond .ne 49, 3) := by decide +kernel
theorem dL_leaves_312 : decode cL_leaves 312 = .ok (.aload_n 0, 1) := by decide +kernel
theorem dL_leaves_313 : decode cL_leaves 313 = .ok (.iload 9, 2) := by decide +kernel
theorem dL_leaves_315 : decode cL_leaves 315 = .ok (.iload 10, 2) := by decide +kernel
theorem dL_leaves_317 : decode cL_leaves 317 = .ok (.iload 11, 2) := by decide +kernel
theorem dL_leaves_319 : decode cL_leaves 319 = .ok (.invokestatic 149, 3) := by decide +kernel
theorem dL_leaves_322 : decode cL_leaves 322 = .ok (.iload 13, 2) := by decide +kernel
theorem dL_leaves_324 : decode cL_leaves 324 = .ok (.ifCond .eq 8, 3) := by decide +kernel
theorem dL_leaves_327 : decode cL_leaves 327 = .ok (.bipush (-33), 2) := by decide +kernel
theorem dL_leaves_329 : decode cL_leaves 329 = .ok (.goto 5, 3) := by decide +kernel
theorem dL_leaves_332 : decode cL_leaves 332 = .ok (.bipush (-31), 2) := by decide +kernel
theorem dL_leaves_334 : decode cL_leaves 334 = .ok (.if_icmp .ne 22, 3) := by decide +kernel
theorem dL_leaves_337 : decode cL_leaves 337 = .ok (.aload_n 0, 1) := by decide +kernel
theorem dL_leaves_338 : decode cL_leaves 338 = .ok (.iload 9, 2) := by decide +kernel
theorem dL_leaves_340 : decode cL_leaves 340 = .ok (.bipush 12, 2) := by decide +kernel
theorem dL_leaves_342 : decode cL_leaves 342 = .ok (.iload 11, 2) := by decide +kernel
theorem dL_leaves_344 : decode cL_leaves 344 = .ok (.invokestatic 149, 3) := by decide +kernel
theorem dL_leaves_347 : decode cL_leaves 347 = .ok (.bipush (-31), 2) := by decide +kernel
theorem dL_leaves_349 : decode cL_leaves 349 = .ok (.if_icmp .ne 7, 3) := by decide +kernel
theorem dL_leaves_352 : decode cL_leaves 352 = .ok (.iconst 1, 1) := by decide +kernel
theorem dL_leaves_353 : decode cL_leaves 353 = .ok (.goto 4, 3) := by decide +kernel
theorem dL_leaves_356 : decode cL_leaves 356 = .ok (.iconst 0, 1) := by decide +kernel
theorem dL_leaves_357 : decode cL_leaves 357 = .ok (.ireturn, 1) := by decide +kernel
theorem dL_leaves_358 : decode cL_leaves 358 = .ok (.iload 9, 2) := by decide +kernel
theorem dL_leaves_360 : decode cL_leaves 360 = .ok (.iload 10, 2) := by decide +kernel
theorem dL_leaves_362 : decode cL_leaves 362 = .ok (.aload_n 3, 1) := by decide +kernel
theorem dL_leaves_363 : decode cL_leaves 363 = .ok (.aload 4, 2) := by decide +kernel
theorem dL_leaves_365 : decode cL_leaves 365 = .ok (.aload 5, 2) := by decide +kernel
theorem dL_leaves_367 : decode cL_leaves 367 = .ok (.aload 6, 2) := by decide +kernel
theorem dL_leaves_369 : decode cL_leaves 369 = .ok (.aload 7, 2) := by decide +kernel
theorem dL_leaves_371 : decode cL_leaves 371 = .ok (.aload 8, 2) := by decide +kernel
theorem dL_leaves_373 : decode cL_leaves 373 = .ok (.invokestatic 145, 3) := by decide +kernel
theorem dL_leaves_376 : decode cL_leaves 376 = .ok (.istore 15, 2) := by decide +kernel
theorem dL_leaves_378 : decode cL_leaves 378 = .ok (.iload 10, 2) := by decide +kernel
theorem dL_leaves_380 : decode cL_leaves 380 = .ok (.iload 11, 2) := by decide +kernel
theorem dL_leaves_382 : decode cL_leaves 382 = .ok (.aload_n 3, 1) := by decide +kernel
theorem dL_leaves_383 : decode cL_leaves 383 = .ok (.aload 4, 2) := by decide +kernel
theorem dL_leaves_385 : decode cL_leaves 385 = .ok (.aload 5, 2) := by decide +kernel
theorem dL_leaves_387 : decode cL_leaves 387 = .ok (.invokestatic 139, 3) := by decide +kernel
theorem dL_leaves_390 : decode cL_leaves 390 = .ok (.istore 16, 2) := by decide +kernel
theorem dL_leaves_392 : decode cL_leaves 392 = .ok (.iload 15, 2) := by decide +kernel
theorem dL_leaves_394 : decode cL_leaves 394 = .ok (.ifCond .lt 22, 3) := by decide +kernel
theorem dL_leaves_397 : decode cL_leaves 397 = .ok (.aload_n 0, 1) := by decide +kernel
theorem dL_leaves_398 : decode cL_leaves 398 = .ok (.iload 9, 2) := by decide +kernel
theorem dL_leaves_400 : decode cL_leaves 400 = .ok (.iload 10, 2) := by decide +kernel
theorem dL_leaves_402 : decode cL_leaves 402 = .ok (.iload 11, 2) := by decide +kernel
theorem dL_leaves_404 : decode cL_leaves 404 = .ok (.invokestatic 149, 3) := by decide +kernel
theorem dL_leaves_407 : decode cL_leaves 407 = .ok (.iload 16, 2) := by decide +kernel
theorem dL_leaves_409 : decode cL_leaves 409 = .ok (.if_icmp .ne 7, 3) := by decide +kernel
theorem dL_leaves_412 : decode cL_leaves 412 = .ok (.iconst 1, 1) := by decide +kernel
theorem dL_leaves_413 : decode cL_leaves 413 = .ok (.goto 4, 3) := by decide +kernel
theorem dL_leaves_416 : decode cL_leaves 416 = .ok (.iconst 0, 1) := by decide +kernel
theorem dL_leaves_417 : decode cL_leaves 417 = .ok (.ireturn, 1) := by decide +kernel
theorem dL_leaves_418 : decode cL_leaves 418 = .ok (.iload 13, 2) := by decide +kernel
theorem dL_leaves_420 : decode cL_leaves 420 = .ok (.ifCond .eq 16, 3) := by decide +kernel
theorem dL_leaves_423 : decode cL_leaves 423 = .ok (.iload 9, 2) := by decide +kernel
theorem dL_leaves_425 : decode cL_leaves 425 = .ok (.aload_n 3, 1) := by decide +kernel
theorem dL_leaves_426 : decode cL_leaves 426 = .ok (.aload 5, 2) := by decide +kernel
theorem dL_leaves_428 : decode cL_leaves 428 = .ok (.aload 6, 2) := by decide +kernel
theorem dL_leaves_430 : decode cL_leaves 430 = .ok (.invokestatic 94, 3) := by decide +kernel
theorem dL_leaves_433 : decode cL_leaves 433 = .ok (.ifCond .ne 30, 3) := by decide +kernel
theorem dL_leaves_436 : decode cL_leaves 436 = .ok (.aload_n 0, 1) := by decide +kernel
theorem dL_leaves_437 : decode cL_leaves 437 = .ok (.iload 9, 2) := by decide +kernel
theorem dL_leaves_439 : decode cL_leaves 439 = .ok (.invokestatic 151, 3) := by decide +kernel
theorem dL_leaves_442 : decode cL_leaves 442 = .ok (.iload 13, 2) := by decide +kernel
theorem dL_leaves_444 : decode cL_leaves 444 = .ok (.ifCond .eq 8, 3) := by decide +kernel
theorem dL_leaves_447 : decode cL_leaves 447 = .ok (.bipush (-33), 2) := by decide +kernel
theorem dL_leaves_449 : decode cL_leaves 449 = .ok (.goto 5, 3) := by decide +kernel
theorem dL_leaves_452 : decode cL_leaves 452 = .ok (.bipush (-31), 2) := by decide +kernel
theorem dL_leaves_454 : decode cL_leaves 454 = .ok (.if_icmp .ne 7, 3) := by decide +kernel
theorem dL_leaves_457 : decode cL_leaves 457 = .ok (.iconst 1, 1) := by decide +kernel
theorem dL_leaves_458 : decode cL_leaves 458 = .ok (.goto 4, 3) := by decide +kernel
theorem dL_leaves_461 : decode cL_leaves 461 = .ok (.iconst 0, 1) := by decide +kernel
theorem dL_leaves_462 : decode cL_leaves 462 = .ok (.ireturn, 1) := by decide +kernel
theorem dL_leaves_463 : decode cL_leaves 463 = .ok (.iload 9, 2) := by decide +kernel
theorem dL_leaves_465 : decode cL_leaves 465 = .ok (.aload_n 3, 1) := by decide +kernel
theorem dL_leaves_466 : decode cL_leaves 466 = .ok (.aload 5, 2) := by decide +kernel
theorem dL_leaves_468 : decode cL_leaves 468 = .ok (.aload 6, 2) := by decide +kernel
theorem dL_leaves_470 : decode cL_leaves 470 = .ok (.aload 7, 2) := by decide +kernel
theorem dL_leaves_472 : decode cL_leaves 472 = .ok (.aload 8, 2) := by decide +kernel
theorem dL_leaves_474 : decode cL_leaves 474 = .ok (.invokestatic 98, 3) := by decide +kernel
theorem dL_leaves_477 : decode cL_leaves 477 = .ok (.istore 15, 2) := by decide +kernel
theorem dL_leaves_479 : decode cL_leaves 479 = .ok (.aload_n 0, 1) := by decide +kernel
theorem dL_leaves_480 : decode cL_leaves 480 = .ok (.iload 9, 2) := by decide +kernel
theorem dL_leaves_482 : decode cL_leaves 482 = .ok (.invokestatic 151, 3) := by decide +kernel
theorem dL_leaves_485 : decode cL_leaves 485 = .ok (.iload 15, 2) := by decide +kernel
theorem dL_leaves_487 : decode cL_leaves 487 = .ok (.if_icmp .ne 7, 3) := by decide +kernel
theorem dL_leaves_490 : decode cL_leaves 490 = .ok (.iconst 1, 1) := by decide +kernel
theorem dL_leaves_491 : decode cL_leaves 491 = .ok (.goto 4, 3) := by decide +kernel
theorem dL_leaves_494 : decode cL_leaves 494 = .ok (.iconst 0, 1) := by decide +kernel
theorem dL_leaves_495 : decode cL_leaves 495 = .ok (.ireturn, 1) := by decide +kernel
theorem dL_areLeaves_0 : decode cL_areLeaves 0 = .ok (.iconst 0, 1) := by decide +kernel
theorem dL_areLeaves_1 : decode cL_areLeaves 1 = .ok (.istore 5, 2) := by decide +kernel
theorem dL_areLeaves_3 : decode cL_areLeaves 3 = .ok (.iload 5, 2) := by decide +kernel
theorem dL_areLeaves_5 : decode cL_areLeaves 5 = .ok (.aload_n 1, 1) := by decide +kernel
theorem dL_areLeaves_6 : decode cL_areLeaves 6 = .ok (.iconst 1, 1) := by decide +kernel
theorem dL_areLeaves_7 : decode cL_areLeaves 7 = .ok (.iaload, 1) := by decide +kernel
theorem dL_areLeaves_8 : decode cL_areLeaves 8 = .ok (.if_icmp .ge 296, 3) := by decide +kernel
theorem dL_areLeaves_11 : decode cL_areLeaves 11 = .ok (.iload 5, 2) := by decide +kernel
theorem dL_areLeaves_13 : decode cL_areLeaves 13 = .ok (.aload_n 3, 1) := by decide +kernel
theorem dL_areLeaves_14 : decode cL_areLeaves 14 = .ok (.invokestatic 69, 3) := by decide +kernel
theorem dL_areLeaves_17 : decode cL_areLeaves 17 = .ok (.istore 6, 2) := by decide +kernel
theorem dL_areLeaves_19 : decode cL_areLeaves 19 = .ok (.iconst 0, 1) := by decide +kernel
theorem dL_areLeaves_20 : decode cL_areLeaves 20 = .ok (.istore 7, 2) := by decide +kernel
theorem dL_areLeaves_22 : decode cL_areLeaves 22 = .ok (.iconst 0, 1) := by decide +kernel
theorem dL_areLeaves_23 : decode cL_areLeaves 23 = .ok (.istore 8, 2) := by decide +kernel
theorem dL_areLeaves_25 : decode cL_areLeaves 25 = .ok (.iload 8, 2) := by decide +kernel
theorem dL_areLeaves_27 : decode cL_areLeaves 27 = .ok (.bipush 15, 2) := by decide +kernel
theorem dL_areLeaves_29 : decode cL_areLeaves 29 = .ok (.if_icmp .ge 49, 3) := by decide +kernel
theorem dL_areLeaves_32 : decode cL_areLeaves 32 = .ok (.iload 7, 2) := by decide +kernel
theorem dL_areLeaves_34 : decode cL_areLeaves 34 = .ok (.aload 4, 2) := by decide +kernel
theorem dL_areLeaves_36 : decode cL_areLeaves 36 = .ok (.iconst 2, 1) := by decide +kernel
theorem dL_areLeaves_37 : decode cL_areLeaves 37 = .ok (.iload 8, 2) := by decide +kernel
theorem dL_areLeaves_39 : decode cL_areLeaves 39 = .ok (.imul, 1) := by decide +kernel
theorem dL_areLeaves_40 : decode cL_areLeaves 40 = .ok (.iaload, 1) := by decide +kernel
theorem dL_areLeaves_41 : decode cL_areLeaves 41 = .ok (.iconst 2, 1) := by decide +kernel
theorem dL_areLeaves_42 : decode cL_areLeaves 42 = .ok (.if_icmp .ne 26, 3) := by decide +kernel
theorem dL_areLeaves_45 : decode cL_areLeaves 45 = .ok (.aload 4, 2) := by decide +kernel
theorem dL_areLeaves_47 : decode cL_areLeaves 47 = .ok (.iconst 2, 1) := by decide +kernel
theorem dL_areLeaves_48 : decode cL_areLeaves 48 = .ok (.iload 8, 2) := by decide +kernel
theorem dL_areLeaves_50 : decode cL_areLeaves 50 = .ok (.imul, 1) := by decide +kernel
theorem dL_areLeaves_51 : decode cL_areLeaves 51 = .ok (.iconst 1, 1) := by decide +kernel
theorem dL_areLeaves_52 : decode cL_areLeaves 52 = .ok (.iadd, 1) := by decide +kernel
theorem dL_areLeaves_53 : decode cL_areLeaves 53 = .ok (.iaload, 1) := by decide +kernel
theorem dL_areLeaves_54 : decode cL_areLeaves 54 = .ok (.iload 5, 2) := by decide +kernel
theorem dL_areLeaves_56 : decode cL_areLeaves 56 = .ok (.if_icmp .ne 12, 3) := by decide +kernel
theorem dL_areLeaves_59 : decode cL_areLeaves 59 = .ok (.iconst 1, 1) := by decide +kernel
theorem dL_areLeaves_60 : decode cL_areLeaves 60 = .ok (.iload 8, 2) := by decide +kernel
theorem dL_areLeaves_62 : decode cL_areLeaves 62 = .ok (.iconst 3, 1) := by decide +kernel
theorem dL_areLeaves_63 : decode cL_areLeaves 63 = .ok (.idiv, 1) := by decide +kernel
theorem dL_areLeaves_64 : decode cL_areLeaves 64 = .ok (.ishl, 1) := by decide +kernel
theorem dL_areLeaves_65 : decode cL_areLeaves 65 = .ok (.goto 4, 3) := by decide +kernel
theorem dL_areLeaves_68 : decode cL_areLeaves 68 = .ok (.iconst 0, 1) := by decide +kernel
theorem dL_areLeaves_69 : decode cL_areLeaves 69 = .ok (.ior, 1) := by decide +kernel
theorem dL_areLeaves_70 : decode cL_areLeaves 70 = .ok (.istore 7, 2) := by decide +kernel
theorem dL_areLeaves_72 : decode cL_areLeaves 72 = .ok (.iinc 8 1, 3) := by decide +kernel
theorem dL_areLeaves_75 : decode cL_areLeaves 75 = .ok (.goto (-50), 3) := by decide +kernel
theorem dL_areLeaves_78 : decode cL_areLeaves 78 = .ok (.aload_n 0, 1) := by decide +kernel
theorem dL_areLeaves_79 : decode cL_areLeaves 79 = .ok (.iload 5, 2) := by decide +kernel
theorem dL_areLeaves_81 : decode cL_areLeaves 81 = .ok (.iconst 0, 1) := by decide +kernel
theorem dL_areLeaves_82 : decode cL_areLeaves 82 = .ok (.invokevirtual 153, 3) := by decide +kernel
theorem dL_areLeaves_85 : decode cL_areLeaves 85 = .ok (.aload_n 3, 1) := by decide +kernel
theorem dL_areLeaves_86 : decode cL_areLeaves 86 = .ok (.iload 5, 2) := by decide +kernel
theorem dL_areLeaves_88 : decode cL_areLeaves 88 = .ok (.iaload, 1) := by decide +kernel
theorem dL_areLeaves_89 : decode cL_areLeaves 89 = .ok (.bipush 10, 2) := by decide +kernel
theorem dL_areLeaves_91 : decode cL_areLeaves 91 = .ok (.irem, 1) := by decide +kernel
theorem dL_areLeaves_92 : decode cL_areLeaves 92 = .ok (.if_icmp .ne 144, 3) := by decide +kernel
theorem dL_areLeaves_95 : decode cL_areLeaves 95 = .ok (.aload_n 0, 1) := by decide +kernel
theorem dL_areLeaves_96 : decode cL_areLeaves 96 = .ok (.iload 5, 2) := by decide +kernel
theorem dL_areLeaves_98 : decode cL_areLeaves 98 = .ok (.iconst 1, 1) := by decide +kernel
theorem dL_areLeaves_99 : decode cL_areLeaves 99 = .ok (.invokevirtual 153, 3) := by decide +kernel
theorem dL_areLeaves_102 : decode cL_areLeaves 102 = .ok (.iload 6, 2) := by decide +kernel
theorem dL_areLeaves_104 : decode cL_areLeaves 104 = .ok (.iconst (-1), 1) := by decide +kernel
theorem dL_areLeaves_105 : decode cL_areLeaves 105 = .ok (.if_icmp .ne 7, 3) := by decide +kernel
theorem dL_areLeaves_108 : decode cL_areLeaves 108 = .ok (.iconst 0, 1) := by decide +kernel
theorem dL_areLeaves_109 : decode cL_areLeaves 109 = .ok (.goto 15, 3) := by decide +kernel
theorem dL_areLeaves_112 : decode cL_areLeaves 112 = .ok (.iload 6, 2) := by decide +kernel
theorem dL_areLeaves_114 : decode cL_areLeaves 114 = .ok (.bipush (-2), 2) := by decide +kernel
theorem dL_areLeaves_116 : decode cL_areLeaves 116 = .ok (.if_icmp .ne 7, 3) := by decide +kernel
theorem dL_areLeaves_119 : decode cL_areLeaves 119 = .ok (.iconst 2, 1) := by decide +kernel
theorem dL_areLeaves_120 : decode cL_areLeaves 120 = .ok (.goto 4, 3) := by decide +kernel
theorem dL_areLeaves_123 : decode cL_areLeaves 123 = .ok (.iconst 1, 1) := by decide +kernel
theorem dL_areLeaves_124 : decode cL_areLeaves 124 = .ok (.if_icmp .ne 112, 3) := by decide +kernel
theorem dL_areLeaves_127 : decode cL_areLeaves 127 = .ok (.aload_n 0, 1) := by decide +kernel
theorem dL_areLeaves_128 : decode cL_areLeaves 128 = .ok (.iload 5, 2) := by decide +kernel
theorem dL_areLeaves_130 : decode cL_areLeaves 130 = .ok (.iconst 2, 1) := by decide +kernel
theorem dL_areLeaves_131 : decode cL_areLeaves 131 = .ok (.invokevirtual 153, 3) := by decide +kernel
theorem dL_areLeaves_134 : decode cL_areLeaves 134 = .ok (.iload 5, 2) := by decide +kernel
theorem dL_areLeaves_136 : decode cL_areLeaves 136 = .ok (.aload_n 3, 1) := by decide +kernel
theorem dL_areLeaves_137 : decode cL_areLeaves 137 = .ok (.invokestatic 156, 3) := by decide +kernel
theorem dL_areLeaves_140 : decode cL_areLeaves 140 = .ok (.if_icmp .ne 96, 3) := by decide +kernel
theorem dL_areLeaves_143 : decode cL_areLeaves 143 = .ok (.aload_n 0, 1) := by decide +kernel
theorem dL_areLeaves_144 : decode cL_areLeaves 144 = .ok (.iload 5, 2) := by decide +kernel
theorem dL_areLeaves_146 : decode cL_areLeaves 146 = .ok (.iconst 3, 1) := by decide +kernel
theorem dL_areLeaves_147 : decode cL_areLeaves 147 = .ok (.invokevirtual 153, 3) := by decide +kernel
theorem dL_areLeaves_150 : decode cL_areLeaves 150 = .ok (.iload 5, 2) := by decide +kernel
theorem dL_areLeaves_152 : decode cL_areLeaves 152 = .ok (.aload_n 3, 1) := by decide +kernel
theorem dL_areLeaves_153 : decode cL_areLeaves 153 = .ok (.invokestatic 79, 3) := by decide +kernel
theorem dL_areLeaves_156 : decode cL_areLeaves 156 = .ok (.if_icmp .ne 80, 3) := by decide +kernel
theorem dL_areLeaves_159 : decode cL_areLeaves 159 = .ok (.aload_n 0, 1) := by decide +kernel
theorem dL_areLeaves_160 : decode cL_areLeaves 160 = .ok (.iload 5, 2) := by decide +kernel
theorem dL_areLeaves_162 : decode cL_areLeaves 162 = .ok (.iconst 4, 1) := by decide +kernel
theorem dL_areLeaves_163 : decode cL_areLeaves 163 = .ok (.invokevirtual 153, 3) := by decide +kernel
theorem dL_areLeaves_166 : decode cL_areLeaves 166 = .ok (.iload 6, 2) := by decide +kernel
theorem dL_areLeaves_168 : decode cL_areLeaves 168 = .ok (.ifCond .ge 7, 3) := by decide +kernel
theorem dL_areLeaves_171 : decode cL_areLeaves 171 = .ok (.iconst (-1), 1) := by decide +kernel
theorem dL_areLeaves_172 : decode cL_areLeaves 172 = .ok (.goto 5, 3) := by decide +kernel
theorem dL_areLeaves_175 : decode cL_areLeaves 175 = .ok (.iload 6, 2) := by decide +kernel
theorem dL_areLeaves_177 : decode cL_areLeaves 177 = .ok (.if_icmp .ne 59, 3) := by decide +kernel
theorem dL_areLeaves_180 : decode cL_areLeaves 180 = .ok (.aload_n 0, 1) := by decide +kernel
theorem dL_areLeaves_181 : decode cL_areLeaves 181 = .ok (.iload 5, 2) := by decide +kernel
theorem dL_areLeaves_183 : decode cL_areLeaves 183 = .ok (.iconst 5, 1) := by decide +kernel
theorem dL_areLeaves_184 : decode cL_areLeaves 184 = .ok (.invokevirtual 153, 3) := by decide +kernel
theorem dL_areLeaves_187 : decode cL_areLeaves 187 = .ok (.iload 7, 2) := by decide +kernel
theorem dL_areLeaves_189 : decode cL_areLeaves 189 = .ok (.if_icmp .ne 47, 3) := by decide +kernel
theorem dL_areLeaves_192 : decode cL_areLeaves 192 = .ok (.aload_n 0, 1) := by decide +kernel
theorem dL_areLeaves_193 : decode cL_areLeaves 193 = .ok (.iload 5, 2) := by decide +kernel
theorem dL_areLeaves_195 : decode cL_areLeaves 195 = .ok (.bipush 6, 2) := by decide +kernel
theorem dL_areLeaves_197 : decode cL_areLeaves 197 = .ok (.invokevirtual 153, 3) := by decide +kernel
theorem dL_areLeaves_200 : decode cL_areLeaves 200 = .ok (.iload 5, 2) := by decide +kernel
theorem dL_areLeaves_202 : decode cL_areLeaves 202 = .ok (.iconst 2, 1) := by decide +kernel
theorem dL_areLeaves_203 : decode cL_areLeaves 203 = .ok (.iconst (-1), 1) := by decide +kernel
theorem dL_areLeaves_204 : decode cL_areLeaves 204 = .ok (.aload 4, 2) := by decide +kernel
theorem dL_areLeaves_206 : decode cL_areLeaves 206 = .ok (.invokestatic 75, 3) := by decide +kernel
theorem dL_areLeaves_209 : decode cL_areLeaves 209 = .ok (.if_icmp .ne 27, 3) := by decide +kernel
theorem dL_areLeaves_212 : decode cL_areLeaves 212 = .ok (.aload_n 0, 1) := by decide +kernel
theorem dL_areLeaves_213 : decode cL_areLeaves 213 = .ok (.iload 5, 2) := by decide +kernel
theorem dL_areLeaves_215 : decode cL_areLeaves 215 = .ok (.bipush 7, 2) := by decide +kernel
theorem dL_areLeaves_217 : decode cL_areLeaves 217 = .ok (.invokevirtual 153, 3) := by decide +kernel
theorem dL_areLeaves_220 : decode cL_areLeaves 220 = .ok (.iload 5, 2) := by decide +kernel
theorem dL_areLeaves_222 : decode cL_areLeaves 222 = .ok (.iconst 1, 1) := by decide +kernel
theorem dL_areLeaves_223 : decode cL_areLeaves 223 = .ok (.iconst (-1), 1) := by decide +kernel
theorem dL_areLeaves_224 : decode cL_areLeaves 224 = .ok (.aload 4, 2) := by decide +kernel
theorem dL_areLeaves_226 : decode cL_areLeaves 226 = .ok (.invokestatic 75, 3) := by decide +kernel
theorem dL_areLeaves_229 : decode cL_areLeaves 229 = .ok (.if_icmp .ne 7, 3) := by decide +kernel
theorem dL_areLeaves_232 : decode cL_areLeaves 232 = .ok (.iconst 1, 1) := by decide +kernel
theorem dL_areLeaves_233 : decode cL_areLeaves 233 = .ok (.goto 4, 3) := by decide +kernel
theorem dL_areLeaves_236 : decode cL_areLeaves 236 = .ok (.iconst 0, 1) := by decide +kernel
theorem dL_areLeaves_237 : decode cL_areLeaves 237 = .ok (.istore 8, 2) := by decide +kernel
theorem dL_areLeaves_239 : decode cL_areLeaves 239 = .ok (.iload 8, 2) := by decide +kernel
theorem dL_areLeaves_241 : decode cL_areLeaves 241 = .ok (.ifCond .eq 55, 3) := by decide +kernel
theorem dL_areLeaves_244 : decode cL_areLeaves 244 = .ok (.aload_n 0, 1) := by decide +kernel
theorem dL_areLeaves_245 : decode cL_areLeaves 245 = .ok (.iload 5, 2) := by decide +kernel
theorem dL_areLeaves_247 : decode cL_areLeaves 247 = .ok (.invokevirtual 159, 3) := by decide +kernel
theorem dL_areLeaves_250 : decode cL_areLeaves 250 = .ok (.iload 6, 2) := by decide +kernel
theorem dL_areLeaves_252 : decode cL_areLeaves 252 = .ok (.bipush (-2), 2) := by decide +kernel
theorem dL_areLeaves_254 : decode cL_areLeaves 254 = .ok (.if_icmp .ne 7, 3) := by decide +kernel
theorem dL_areLeaves_257 : decode cL_areLeaves 257 = .ok (.iconst 0, 1) := by decide +kernel
theorem dL_areLeaves_258 : decode cL_areLeaves 258 = .ok (.goto 35, 3) := by decide +kernel
theorem dL_areLeaves_261 : decode cL_areLeaves 261 = .ok (.iload 6, 2) := by decide +kernel
theorem dL_areLeaves_263 : decode cL_areLeaves 263 = .ok (.iconst (-1), 1) := by decide +kernel
theorem dL_areLeaves_264 : decode cL_areLeaves 264 = .ok (.if_icmp .ne 7, 3) := by decide +kernel
theorem dL_areLeaves_267 : decode cL_areLeaves 267 = .ok (.iconst 1, 1) := by decide +kernel
theorem dL_areLeaves_268 : decode cL_areLeaves 268 = .ok (.goto 25, 3) := by decide +kernel
theorem dL_areLeaves_271 : decode cL_areLeaves 271 = .ok (.iload 5, 2) := by decide +kernel
theorem dL_areLeaves_273 : decode cL_areLeaves 273 = .ok (.aload_n 1, 1) := by decide +kernel
theorem dL_areLeaves_274 : decode cL_areLeaves 274 = .ok (.bipush 8, 2) := by decide +kernel
theorem dL_areLeaves_276 : decode cL_areLeaves 276 = .ok (.iaload, 1) := by decide +kernel
theorem dL_areLeaves_277 : decode cL_areLeaves 277 = .ok (.iconst (-1), 1) := by decide +kernel
theorem dL_areLeaves_278 : decode cL_areLeaves 278 = .ok (.aload_n 1, 1) := by decide +kernel
theorem dL_areLeaves_279 : decode cL_areLeaves 279 = .ok (.aload_n 3, 1) := by decide +kernel
theorem dL_areLeaves_280 : decode cL_areLeaves 280 = .ok (.aload 4, 2) := by decide +kernel
theorem dL_areLeaves_282 : decode cL_areLeaves 282 = .ok (.invokestatic 82, 3) := by decide +kernel
theorem dL_areLeaves_285 : decode cL_areLeaves 285 = .ok (.ifCond .eq 7, 3) := by decide +kernel
theorem dL_areLeaves_288 : decode cL_areLeaves 288 = .ok (.iconst 3, 1) := by decide +kernel
theorem dL_areLeaves_289 : decode cL_areLeaves 289 = .ok (.goto 4, 3) := by decide +kernel
theorem dL_areLeaves_292 : decode cL_areLeaves 292 = .ok (.iconst 2, 1) := by decide +kernel
theorem dL_areLeaves_293 : decode cL_areLeaves 293 = .ok (.if_icmp .eq 5, 3) := by decide +kernel
theorem dL_areLeaves_296 : decode cL_areLeaves 296 = .ok (.iconst 0, 1) := by decide +kernel
theorem dL_areLeaves_297 : decode cL_areLeaves 297 = .ok (.ireturn, 1) := by decide +kernel
theorem dL_areLeaves_298 : decode cL_areLeaves 298 = .ok (.iinc 5 1, 3) := by decide +kernel
theorem dL_areLeaves_301 : decode cL_areLeaves 301 = .ok (.goto (-298), 3) := by decide +kernel
theorem dL_areLeaves_304 : decode cL_areLeaves 304 = .ok (.iconst 0, 1) := by decide +kernel
theorem dL_areLeaves_305 : decode cL_areLeaves 305 = .ok (.istore 5, 2) := by decide +kernel
theorem dL_areLeaves_307 : decode cL_areLeaves 307 = .ok (.iload 5, 2) := by decide +kernel
theorem dL_areLeaves_309 : decode cL_areLeaves 309 = .ok (.bipush 12, 2) := by decide +kernel
theorem dL_areLeaves_311 : decode cL_areLeaves 311 = .ok (.if_icmp .ge 24, 3) := by decide +kernel
theorem dL_areLeaves_314 : decode cL_areLeaves 314 = .ok (.aload_n 0, 1) := by decide +kernel
theorem dL_areLeaves_315 : decode cL_areLeaves 315 = .ok (.iload 5, 2) := by decide +kernel
theorem dL_areLeaves_317 : decode cL_areLeaves 317 = .ok (.invokevirtual 162, 3) := by decide +kernel
theorem dL_areLeaves_320 : decode cL_areLeaves 320 = .ok (.aload_n 2, 1) := by decide +kernel
theorem dL_areLeaves_321 : decode cL_areLeaves 321 = .ok (.iload 5, 2) := by decide +kernel
theorem dL_areLeaves_323 : decode cL_areLeaves 323 = .ok (.iaload, 1) := by decide +kernel
theorem dL_areLeaves_324 : decode cL_areLeaves 324 = .ok (.if_icmp .eq 5, 3) := by decide +kernel
theorem dL_areLeaves_327 : decode cL_areLeaves 327 = .ok (.iconst 0, 1) := by decide +kernel
theorem dL_areLeaves_328 : decode cL_areLeaves 328 = .ok (.ireturn, 1) := by decide +kernel
theorem dL_areLeaves_329 : decode cL_areLeaves 329 = .ok (.iinc 5 1, 3) := by decide +kernel
theorem dL_areLeaves_332 : decode cL_areLeaves 332 = .ok (.goto (-25), 3) := by decide +kernel
theorem dL_areLeaves_335 : decode cL_areLeaves 335 = .ok (.iconst 1, 1) := by decide +kernel
theorem dL_areLeaves_336 : decode cL_areLeaves 336 = .ok (.ireturn, 1) := by decide +kernel
theorem dL_isChild_0 : decode cL_isChild 0 = .ok (.iconst 0, 1) := by decide +kernel
theorem dL_isChild_1 : decode cL_isChild 1 = .ok (.istore 7, 2) := by decide +kernel
theorem dL_isChild_3 : decode cL_isChild 3 = .ok (.iconst 0, 1) := by decide +kernel
theorem dL_isChild_4 : decode cL_isChild 4 = .ok (.istore 8, 2) := by decide +kernel
theorem dL_isChild_6 : decode cL_isChild 6 = .ok (.iconst 0, 1) := by decide +kernel
theorem dL_isChild_7 : decode cL_isChild 7 = .ok (.istore 9, 2) := by decide +kernel
theorem dL_isChild_9 : decode cL_isChild 9 = .ok (.iload 9, 2) := by decide +kernel
theorem dL_isChild_11 : decode cL_isChild 11 = .ok (.iconst 3, 1) := by decide +kernel
theorem dL_isChild_12 : decode cL_isChild 12 = .ok (.if_icmp .ge 181, 3) := by decide +kernel
theorem dL_isChild_15 : decode cL_isChild 15 = .ok (.aload 6, 2) := by decide +kernel
theorem dL_isChild_17 : decode cL_isChild 17 = .ok (.bipush 6, 2) := by decide +kernel
theorem dL_isChild_19 : decode cL_isChild 19 = .ok (.iload_n 1, 1) := by decide +kernel
theorem dL_isChild_20 : decode cL_isChild 20 = .ok (.imul, 1) := by decide +kernel
theorem dL_isChild_21 : decode cL_isChild 21 = .ok (.iconst 2, 1) := by decide +kernel
theorem dL_isChild_22 : decode cL_isChild 22 = .ok (.iload 9, 2) := by decide +kernel
theorem dL_isChild_24 : decode cL_isChild 24 = .ok (.imul, 1) := by decide +kernel
theorem dL_isChild_25 : decode cL_isChild 25 = .ok (.iadd, 1) := by decide +kernel
theorem dL_isChild_26 : decode cL_isChild 26 = .ok (.iaload, 1) := by decide +kernel
theorem dL_isChild_27 : decode cL_isChild 27 = .ok (.istore 10, 2) := by decide +kernel
theorem dL_isChild_29 : decode cL_isChild 29 = .ok (.aload 6, 2) := by decide +kernel
theorem dL_isChild_31 : decode cL_isChild 31 = .ok (.bipush 6, 2) := by decide +kernel
theorem dL_isChild_33 : decode cL_isChild 33 = .ok (.iload_n 1, 1) := by decide +kernel
theorem dL_isChild_34 : decode cL_isChild 34 = .ok (.imul, 1) := by decide +kernel
theorem dL_isChild_35 : decode cL_isChild 35 = .ok (.iconst 2, 1) := by decide +kernel
theorem dL_isChild_36 : decode cL_isChild 36 = .ok (.iload 9, 2) := by decide +kernel
theorem dL_isChild_38 : decode cL_isChild 38 = .ok (.imul, 1) := by decide +kernel
theorem dL_isChild_39 : decode cL_isChild 39 = .ok (.iadd, 1) := by decide +kernel
theorem dL_isChild_40 : decode cL_isChild 40 = .ok (.iconst 1, 1) := by decide +kernel
theorem dL_isChild_41 : decode cL_isChild 41 = .ok (.iadd, 1) := by decide +kernel
theorem dL_isChild_42 : decode cL_isChild 42 = .ok (.iaload, 1) := by decide +kernel
theorem dL_isChild_43 : decode cL_isChild 43 = .ok (.istore 11, 2) := by decide +kernel
theorem dL_isChild_45 : decode cL_isChild 45 = .ok (.iload 10, 2) := by decide +kernel
theorem dL_isChild_47 : decode cL_isChild 47 = .ok (.iconst 2, 1) := by decide +kernel
theorem dL_isChild_48 : decode cL_isChild 48 = .ok (.if_icmp .ne 29, 3) := by decide +kernel
theorem dL_isChild_51 : decode cL_isChild 51 = .ok (.iload 11, 2) := by decide +kernel
theorem dL_isChild_53 : decode cL_isChild 53 = .ok (.aload_n 3, 1) := by decide +kernel
theorem dL_isChild_54 : decode cL_isChild 54 = .ok (.invokestatic 69, 3) := by decide +kernel
theorem dL_isChild_57 : decode cL_isChild 57 = .ok (.ifCond .lt 20, 3) := by decide +kernel
theorem dL_isChild_60 : decode cL_isChild 60 = .ok (.iload 11, 2) := by decide +kernel
theorem dL_isChild_62 : decode cL_isChild 62 = .ok (.iconst 2, 1) := by decide +kernel
theorem dL_isChild_63 : decode cL_isChild 63 = .ok (.iconst (-1), 1) := by decide +kernel
theorem dL_isChild_64 : decode cL_isChild 64 = .ok (.aload 6, 2) := by decide +kernel
theorem dL_isChild_66 : decode cL_isChild 66 = .ok (.invokestatic 75, 3) := by decide +kernel
theorem dL_isChild_69 : decode cL_isChild 69 = .ok (.iconst 1, 1) := by decide +kernel
theorem dL_isChild_70 : decode cL_isChild 70 = .ok (.if_icmp .ne 7, 3) := by decide +kernel
theorem dL_isChild_73 : decode cL_isChild 73 = .ok (.iconst 1, 1) := by decide +kernel
theorem dL_isChild_74 : decode cL_isChild 74 = .ok (.goto 4, 3) := by decide +kernel
theorem dL_isChild_77 : decode cL_isChild 77 = .ok (.iconst 0, 1) := by decide +kernel
theorem dL_isChild_78 : decode cL_isChild 78 = .ok (.istore 12, 2) := by decide +kernel
theorem dL_isChild_80 : decode cL_isChild 80 = .ok (.iload 7, 2) := by decide +kernel
theorem dL_isChild_82 : decode cL_isChild 82 = .ok (.iload 10, 2) := by decide +kernel
theorem dL_isChild_84 : decode cL_isChild 84 = .ok (.iconst 2, 1) := by decide +kernel
theorem dL_isChild_85 : decode cL_isChild 85 = .ok (.if_icmp .ne 7, 3) := by decide +kernel
theorem dL_isChild_88 : decode cL_isChild 88 = .ok (.iconst 1, 1) := by decide +kernel
theorem dL_isChild_89 : decode cL_isChild 89 = .ok (.goto 4, 3) := by decide +kernel
theorem dL_isChild_92 : decode cL_isChild 92 = .ok (.iconst 0, 1) := by decide +kernel
theorem dL_isChild_93 : decode cL_isChild 93 = .ok (.iadd, 1) := by decide +kernel
theorem dL_isChild_94 : decode cL_isChild 94 = .ok (.istore 7, 2) := by decide +kernel
theorem dL_isChild_96 : decode cL_isChild 96 = .ok (.iload 8, 2) := by decide +kernel
theorem dL_isChild_98 : decode cL_isChild 98 = .ok (.iload 10, 2) := by decide +kernel
theorem dL_isChild_100 : decode cL_isChild 100 = .ok (.iconst 1, 1) := by decide +kernel
theorem dL_isChild_101 : decode cL_isChild 101 = .ok (.if_icmp .ne 7, 3) := by decide +kernel
theorem dL_isChild_104 : decode cL_isChild 104 = .ok (.iconst 1, 1) := by decide +kernel
theorem dL_isChild_105 : decode cL_isChild 105 = .ok (.goto 4, 3) := by decide +kernel
theorem dL_isChild_108 : decode cL_isChild 108 = .ok (.iconst 0, 1) := by decide +kernel
theorem dL_isChild_109 : decode cL_isChild 109 = .ok (.iadd, 1) := by decide +kernel
theorem dL_isChild_110 : decode cL_isChild 110 = .ok (.istore 8, 2) := by decide +kernel
theorem dL_isChild_112 : decode cL_isChild 112 = .ok (.aload_n 0, 1) := by decide +kernel
theorem dL_isChild_113 : decode cL_isChild 113 = .ok (.iload_n 1, 1) := by decide +kernel
theorem dL_isChild_114 : decode cL_isChild 114 = .ok (.iload 9, 2) := by decide +kernel
theorem dL_isChild_116 : decode cL_isChild 116 = .ok (.iconst 0, 1) := by decide +kernel
theorem dL_isChild_117 : decode cL_isChild 117 = .ok (.invokevirtual 164, 3) := by decide +kernel
theorem dL_isChild_120 : decode cL_isChild 120 = .ok (.iload 10, 2) := by decide +kernel
theorem dL_isChild_122 : decode cL_isChild 122 = .ok (.if_icmp .ne 63, 3) := by decide +kernel
theorem dL_isChild_125 : decode cL_isChild 125 = .ok (.aload_n 0, 1) := by decide +kernel
theorem dL_isChild_126 : decode cL_isChild 126 = .ok (.iload_n 1, 1) := by decide +kernel
theorem dL_isChild_127 : decode cL_isChild 127 = .ok (.iload 9, 2) := by decide +kernel
theorem dL_isChild_129 : decode cL_isChild 129 = .ok (.iconst 1, 1) := by decide +kernel
theorem dL_isChild_130 : decode cL_isChild 130 = .ok (.invokevirtual 164, 3) := by decide +kernel
theorem dL_isChild_133 : decode cL_isChild 133 = .ok (.iload 11, 2) := by decide +kernel
theorem dL_isChild_135 : decode cL_isChild 135 = .ok (.if_icmp .ne 50, 3) := by decide +kernel
theorem dL_isChild_138 : decode cL_isChild 138 = .ok (.aload_n 0, 1) := by decide +kernel
theorem dL_isChild_139 : decode cL_isChild 139 = .ok (.iload_n 1, 1) := by decide +kernel
theorem dL_isChild_140 : decode cL_isChild 140 = .ok (.iload 9, 2) := by decide +kernel
theorem dL_isChild_142 : decode cL_isChild 142 = .ok (.iconst 2, 1) := by decide +kernel
theorem dL_isChild_143 : decode cL_isChild 143 = .ok (.invokevirtual 164, 3) := by decide +kernel
theorem dL_isChild_146 : decode cL_isChild 146 = .ok (.iload 10, 2) := by decide +kernel
theorem dL_isChild_148 : decode cL_isChild 148 = .ok (.iconst 1, 1) := by decide +kernel
theorem dL_isChild_149 : decode cL_isChild 149 = .ok (.if_icmp .ne 12, 3) := by decide +kernel
theorem dL_isChild_152 : decode cL_isChild 152 = .ok (.iload 11, 2) := by decide +kernel
theorem dL_isChild_154 : decode cL_isChild 154 = .ok (.aload_n 3, 1) := by decide +kernel
theorem dL_isChild_155 : decode cL_isChild 155 = .ok (.invokestatic 156, 3) := by decide +kernel
theorem dL_isChild_158 : decode cL_isChild 158 = .ok (.goto 4, 3) := by decide +kernel
theorem dL_isChild_161 : decode cL_isChild 161 = .ok (.iconst (-1), 1) := by decide +kernel
theorem dL_isChild_162 : decode cL_isChild 162 = .ok (.if_icmp .ne 23, 3) := by decide +kernel
theorem dL_isChild_165 : decode cL_isChild 165 = .ok (.aload_n 0, 1) := by decide +kernel
theorem dL_isChild_166 : decode cL_isChild 166 = .ok (.iload_n 1, 1) := by decide +kernel
theorem dL_isChild_167 : decode cL_isChild 167 = .ok (.iload 9, 2) := by decide +kernel
theorem dL_isChild_169 : decode cL_isChild 169 = .ok (.invokevirtual 167, 3) := by decide +kernel
theorem dL_isChild_172 : decode cL_isChild 172 = .ok (.iload 12, 2) := by decide +kernel
theorem dL_isChild_174 : decode cL_isChild 174 = .ok (.ifCond .eq 7, 3) := by decide +kernel
theorem dL_isChild_177 : decode cL_isChild 177 = .ok (.iconst 1, 1) := by decide +kernel
theorem dL_isChild_178 : decode cL_isChild 178 = .ok (.goto 4, 3) := by decide +kernel
theorem dL_isChild_181 : decode cL_isChild 181 = .ok (.iconst 0, 1) := by decide +kernel
theorem dL_isChild_182 : decode cL_isChild 182 = .ok (.if_icmp .eq 5, 3) := by decide +kernel
theorem dL_isChild_185 : decode cL_isChild 185 = .ok (.iconst 0, 1) := by decide +kernel
theorem dL_isChild_186 : decode cL_isChild 186 = .ok (.ireturn, 1) := by decide +kernel
theorem dL_isChild_187 : decode cL_isChild 187 = .ok (.iinc 9 1, 3) := by decide +kernel
theorem dL_isChild_190 : decode cL_isChild 190 = .ok (.goto (-181), 3) := by decide +kernel
theorem dL_isChild_193 : decode cL_isChild 193 = .ok (.iconst 0, 1) := by decide +kernel
theorem dL_isChild_194 : decode cL_isChild 194 = .ok (.istore 9, 2) := by decide +kernel
theorem dL_isChild_196 : decode cL_isChild 196 = .ok (.iconst 0, 1) := by decide +kernel
theorem dL_isChild_197 : decode cL_isChild 197 = .ok (.istore 10, 2) := by decide +kernel
theorem dL_isChild_199 : decode cL_isChild 199 = .ok (.iconst 0, 1) := by decide +kernel
theorem dL_isChild_200 : decode cL_isChild 200 = .ok (.istore 11, 2) := by decide +kernel
theorem dL_isChild_202 : decode cL_isChild 202 = .ok (.iload 11, 2) := by decide +kernel
theorem dL_isChild_204 : decode cL_isChild 204 = .ok (.aload_n 2, 1) := by decide +kernel
theorem dL_isChild_205 : decode cL_isChild 205 = .ok (.bipush 9, 2) := by decide +kernel
theorem dL_isChild_207 : decode cL_isChild 207 = .ok (.iaload, 1) := by decide +kernel
theorem dL_isChild_208 : decode cL_isChild 208 = .ok (.if_icmp .ge 75, 3) := by decide +kernel
theorem dL_isChild_211 : decode cL_isChild 211 = .ok (.iload 10, 2) := by decide +kernel
theorem dL_isChild_213 : decode cL_isChild 213 = .ok (.aload 4, 2) := by decide +kernel
theorem dL_isChild_215 : decode cL_isChild 215 = .ok (.iload 11, 2) := by decide +kernel
theorem dL_isChild_217 : decode cL_isChild 217 = .ok (.iaload, 1) := by decide +kernel
theorem dL_isChild_218 : decode cL_isChild 218 = .ok (.aload_n 2, 1) := by decide +kernel
theorem dL_isChild_219 : decode cL_isChild 219 = .ok (.bipush 8, 2) := by decide +kernel
theorem dL_isChild_221 : decode cL_isChild 221 = .ok (.iaload, 1) := by decide +kernel
theorem dL_isChild_222 : decode cL_isChild 222 = .ok (.iload_n 1, 1) := by decide +kernel
theorem dL_isChild_223 : decode cL_isChild 223 = .ok (.aload_n 2, 1) := by decide +kernel
theorem dL_isChild_224 : decode cL_isChild 224 = .ok (.aload_n 3, 1) := by decide +kernel
theorem dL_isChild_225 : decode cL_isChild 225 = .ok (.aload 6, 2) := by decide +kernel
theorem dL_isChild_227 : decode cL_isChild 227 = .ok (.invokestatic 82, 3) := by decide +kernel
theorem dL_isChild_230 : decode cL_isChild 230 = .ok (.ifCond .eq 7, 3) := by decide +kernel
theorem dL_isChild_233 : decode cL_isChild 233 = .ok (.iconst 1, 1) := by decide +kernel
theorem dL_isChild_234 : decode cL_isChild 234 = .ok (.goto 4, 3) := by decide +kernel
theorem dL_isChild_237 : decode cL_isChild 237 = .ok (.iconst 0, 1) := by decide +kernel
theorem dL_isChild_238 : decode cL_isChild 238 = .ok (.iadd, 1) := by decide +kernel
theorem dL_isChild_239 : decode cL_isChild 239 = .ok (.istore 10, 2) := by decide +kernel
theorem dL_isChild_241 : decode cL_isChild 241 = .ok (.aload 4, 2) := by decide +kernel
theorem dL_isChild_243 : decode cL_isChild 243 = .ok (.iload 11, 2) := by decide +kernel
theorem dL_isChild_245 : decode cL_isChild 245 = .ok (.iaload, 1) := by decide +kernel
theorem dL_isChild_246 : decode cL_isChild 246 = .ok (.aload_n 3, 1) := by decide +kernel
theorem dL_isChild_247 : decode cL_isChild 247 = .ok (.invokestatic 69, 3) := by decide +kernel
theorem dL_isChild_250 : decode cL_isChild 250 = .ok (.iload_n 1, 1) := by decide +kernel
theorem dL_isChild_251 : decode cL_isChild 251 = .ok (.if_icmp .eq 6, 3) := by decide +kernel
theorem dL_isChild_254 : decode cL_isChild 254 = .ok (.goto 23, 3) := by decide +kernel
theorem dL_isChild_257 : decode cL_isChild 257 = .ok (.aload_n 0, 1) := by decide +kernel
theorem dL_isChild_258 : decode cL_isChild 258 = .ok (.iload_n 1, 1) := by decide +kernel
theorem dL_isChild_259 : decode cL_isChild 259 = .ok (.iload 9, 2) := by decide +kernel
theorem dL_isChild_261 : decode cL_isChild 261 = .ok (.invokevirtual 170, 3) := by decide +kernel
theorem dL_isChild_264 : decode cL_isChild 264 = .ok (.aload 4, 2) := by decide +kernel
theorem dL_isChild_266 : decode cL_isChild 266 = .ok (.iload 11, 2) := by decide +kernel
theorem dL_isChild_268 : decode cL_isChild 268 = .ok (.iaload, 1) := by decide +kernel
theorem dL_isChild_269 : decode cL_isChild 269 = .ok (.if_icmp .eq 5, 3) := by decide +kernel
theorem dL_isChild_272 : decode cL_isChild 272 = .ok (.iconst 0, 1) := by decide +kernel
theorem dL_isChild_273 : decode cL_isChild 273 = .ok (.ireturn, 1) := by decide +kernel
theorem dL_isChild_274 : decode cL_isChild 274 = .ok (.iinc 9 1, 3) := by decide +kernel
theorem dL_isChild_277 : decode cL_isChild 277 = .ok (.iinc 11 1, 3) := by decide +kernel
theorem dL_isChild_280 : decode cL_isChild 280 = .ok (.goto (-78), 3) := by decide +kernel
theorem dL_isChild_283 : decode cL_isChild 283 = .ok (.aload_n 0, 1) := by decide +kernel
theorem dL_isChild_284 : decode cL_isChild 284 = .ok (.iload_n 1, 1) := by decide +kernel
theorem dL_isChild_285 : decode cL_isChild 285 = .ok (.iconst 0, 1) := by decide +kernel
theorem dL_isChild_286 : decode cL_isChild 286 = .ok (.invokevirtual 66, 3) := by decide +kernel
theorem dL_isChild_289 : decode cL_isChild 289 = .ok (.aload 5, 2) := by decide +kernel
theorem dL_isChild_291 : decode cL_isChild 291 = .ok (.bipush 6, 2) := by decide +kernel
theorem dL_isChild_293 : decode cL_isChild 293 = .ok (.iload_n 1, 1) := by decide +kernel
theorem dL_isChild_294 : decode cL_isChild 294 = .ok (.imul, 1) := by decide +kernel
theorem dL_isChild_295 : decode cL_isChild 295 = .ok (.iconst 1, 1) := by decide +kernel
theorem dL_isChild_296 : decode cL_isChild 296 = .ok (.iadd, 1) := by decide +kernel
theorem dL_isChild_297 : decode cL_isChild 297 = .ok (.iaload, 1) := by decide +kernel
theorem dL_isChild_298 : decode cL_isChild 298 = .ok (.if_icmp .ne 135, 3) := by decide +kernel
theorem dL_isChild_301 : decode cL_isChild 301 = .ok (.aload_n 0, 1) := by decide +kernel
theorem dL_isChild_302 : decode cL_isChild 302 = .ok (.iload_n 1, 1) := by decide +kernel
theorem dL_isChild_303 : decode cL_isChild 303 = .ok (.iconst 1, 1) := by decide +kernel
theorem dL_isChild_304 : decode cL_isChild 304 = .ok (.invokevirtual 66, 3) := by decide +kernel
theorem dL_isChild_307 : decode cL_isChild 307 = .ok (.aload 5, 2) := by decide +kernel
theorem dL_isChild_309 : decode cL_isChild 309 = .ok (.bipush 6, 2) := by decide +kernel
theorem dL_isChild_311 : decode cL_isChild 311 = .ok (.iload_n 1, 1) := by decide +kernel
theorem dL_isChild_312 : decode cL_isChild 312 = .ok (.imul, 1) := by decide +kernel
theorem dL_isChild_313 : decode cL_isChild 313 = .ok (.iconst 2, 1) := by decide +kernel
theorem dL_isChild_314 : decode cL_isChild 314 = .ok (.iadd, 1) := by decide +kernel
theorem dL_isChild_315 : decode cL_isChild 315 = .ok (.iaload, 1) := by decide +kernel
theorem dL_isChild_316 : decode cL_isChild 316 = .ok (.if_icmp .ne 117, 3) := by decide +kernel
theorem dL_isChild_319 : decode cL_isChild 319 = .ok (.aload_n 0, 1) := by decide +kernel
theorem dL_isChild_320 : decode cL_isChild 320 = .ok (.iload_n 1, 1) := by decide +kernel
theorem dL_isChild_321 : decode cL_isChild 321 = .ok (.iconst 2, 1) := by decide +kernel
theorem dL_isChild_322 : decode cL_isChild 322 = .ok (.invokevirtual 66, 3) := by decide +kernel
theorem dL_isChild_325 : decode cL_isChild 325 = .ok (.iload 7, 2) := by decide +kernel
theorem dL_isChild_327 : decode cL_isChild 327 = .ok (.if_icmp .ne 106, 3) := by decide +kernel
theorem dL_isChild_330 : decode cL_isChild 330 = .ok (.aload_n 0, 1) := by decide +kernel
theorem dL_isChild_331 : decode cL_isChild 331 = .ok (.iload_n 1, 1) := by decide +kernel
theorem dL_isChild_332 : decode cL_isChild 332 = .ok (.iconst 3, 1) := by decide +kernel
theorem dL_isChild_333 : decode cL_isChild 333 = .ok (.invokevirtual 66, 3) := by decide +kernel
theorem dL_isChild_336 : decode cL_isChild 336 = .ok (.iload 8, 2) := by decide +kernel
theorem dL_isChild_338 : decode cL_isChild 338 = .ok (.if_icmp .ne 95, 3) := by decide +kernel
theorem dL_isChild_341 : decode cL_isChild 341 = .ok (.aload_n 0, 1) := by decide +kernel
theorem dL_isChild_342 : decode cL_isChild 342 = .ok (.iload_n 1, 1) := by decide +kernel
theorem dL_isChild_343 : decode cL_isChild 343 = .ok (.iconst 4, 1) := by decide +kernel
theorem dL_isChild_344 : decode cL_isChild 344 = .ok (.invokevirtual 66, 3) := by decide +kernel
theorem dL_isChild_347 : decode cL_isChild 347 = .ok (.iload 9, 2) := by decide +kernel
theorem dL_isChild_349 : decode cL_isChild 349 = .ok (.if_icmp .ne 84, 3) := by decide +kernel
theorem dL_isChild_352 : decode cL_isChild 352 = .ok (.aload_n 0, 1) := by decide +kernel
theorem dL_isChild_353 : decode cL_isChild 353 = .ok (.iload_n 1, 1) := by decide +kernel
theorem dL_isChild_354 : decode cL_isChild 354 = .ok (.iconst 5, 1) := by decide +kernel
theorem dL_isChild_355 : decode cL_isChild 355 = .ok (.invokevirtual 66, 3) := by decide +kernel
theorem dL_isChild_358 : decode cL_isChild 358 = .ok (.aload 5, 2) := by decide +kernel
theorem dL_isChild_360 : decode cL_isChild 360 = .ok (.bipush 6, 2) := by decide +kernel
theorem dL_isChild_362 : decode cL_isChild 362 = .ok (.iload_n 1, 1) := by decide +kernel
theorem dL_isChild_363 : decode cL_isChild 363 = .ok (.imul, 1) := by decide +kernel
theorem dL_isChild_364 : decode cL_isChild 364 = .ok (.iconst 3, 1) := by decide +kernel
theorem dL_isChild_365 : decode cL_isChild 365 = .ok (.iadd, 1) := by decide +kernel
theorem dL_isChild_366 : decode cL_isChild 366 = .ok (.iaload, 1) := by decide +kernel
theorem dL_isChild_367 : decode cL_isChild 367 = .ok (.if_icmp .ne 66, 3) := by decide +kernel
theorem dL_isChild_370 : decode cL_isChild 370 = .ok (.aload_n 0, 1) := by decide +kernel
theorem dL_isChild_371 : decode cL_isChild 371 = .ok (.iload_n 1, 1) := by decide +kernel
theorem dL_isChild_372 : decode cL_isChild 372 = .ok (.bipush 6, 2) := by decide +kernel
theorem dL_isChild_374 : decode cL_isChild 374 = .ok (.invokevirtual 66, 3) := by decide +kernel
theorem dL_isChild_377 : decode cL_isChild 377 = .ok (.aload 5, 2) := by decide +kernel
theorem dL_isChild_379 : decode cL_isChild 379 = .ok (.bipush 6, 2) := by decide +kernel
theorem dL_isChild_381 : decode cL_isChild 381 = .ok (.iload_n 1, 1) := by decide +kernel
theorem dL_isChild_382 : decode cL_isChild 382 = .ok (.imul, 1) := by decide +kernel
theorem dL_isChild_383 : decode cL_isChild 383 = .ok (.iconst 4, 1) := by decide +kernel
theorem dL_isChild_384 : decode cL_isChild 384 = .ok (.iadd, 1) := by decide +kernel
theorem dL_isChild_385 : decode cL_isChild 385 = .ok (.iaload, 1) := by decide +kernel
theorem dL_isChild_386 : decode cL_isChild 386 = .ok (.if_icmp .ne 47, 3) := by decide +kernel
theorem dL_isChild_389 : decode cL_isChild 389 = .ok (.aload_n 0, 1) := by decide +kernel
theorem dL_isChild_390 : decode cL_isChild 390 = .ok (.iload_n 1, 1) := by decide +kernel
theorem dL_isChild_391 : decode cL_isChild 391 = .ok (.bipush 7, 2) := by decide +kernel
theorem dL_isChild_393 : decode cL_isChild 393 = .ok (.invokevirtual 66, 3) := by decide +kernel
theorem dL_isChild_396 : decode cL_isChild 396 = .ok (.aload 5, 2) := by decide +kernel
theorem dL_isChild_398 : decode cL_isChild 398 = .ok (.bipush 6, 2) := by decide +kernel
theorem dL_isChild_400 : decode cL_isChild 400 = .ok (.iload_n 1, 1) := by decide +kernel
theorem dL_isChild_401 : decode cL_isChild 401 = .ok (.imul, 1) := by decide +kernel
theorem dL_isChild_402 : decode cL_isChild 402 = .ok (.iconst 5, 1) := by decide +kernel
theorem dL_isChild_403 : decode cL_isChild 403 = .ok (.iadd, 1) := by decide +kernel
theorem dL_isChild_404 : decode cL_isChild 404 = .ok (.iaload, 1) := by decide +kernel
theorem dL_isChild_405 : decode cL_isChild 405 = .ok (.if_icmp .ne 28, 3) := by decide +kernel
theorem dL_isChild_408 : decode cL_isChild 408 = .ok (.aload_n 0, 1) := by decide +kernel
theorem dL_isChild_409 : decode cL_isChild 409 = .ok (.iload_n 1, 1) := by decide +kernel
theorem dL_isChild_410 : decode cL_isChild 410 = .ok (.iload 9, 2) := by decide +kernel
theorem dL_isChild_412 : decode cL_isChild 412 = .ok (.invokevirtual 170, 3) := by decide +kernel
theorem dL_isChild_415 : decode cL_isChild 415 = .ok (.iconst (-1), 1) := by decide +kernel
theorem dL_isChild_416 : decode cL_isChild 416 = .ok (.if_icmp .ne 17, 3) := by decide +kernel
theorem dL_isChild_419 : decode cL_isChild 419 = .ok (.aload_n 0, 1) := by decide +kernel
theorem dL_isChild_420 : decode cL_isChild 420 = .ok (.iload_n 1, 1) := by decide +kernel
theorem dL_isChild_421 : decode cL_isChild 421 = .ok (.invokevirtual 172, 3) := by decide +kernel
theorem dL_isChild_424 : decode cL_isChild 424 = .ok (.iload 10, 2) := by decide +kernel
theorem dL_isChild_426 : decode cL_isChild 426 = .ok (.if_icmp .ne 7, 3) := by decide +kernel
theorem dL_isChild_429 : decode cL_isChild 429 = .ok (.iconst 1, 1) := by decide +kernel
theorem dL_isChild_430 : decode cL_isChild 430 = .ok (.goto 4, 3) := by decide +kernel
theorem dL_isChild_433 : decode cL_isChild 433 = .ok (.iconst 0, 1) := by decide +kernel
theorem dL_isChild_434 : decode cL_isChild 434 = .ok (.ireturn, 1) := by decide +kernel
theorem dL_burns_0 : decode cL_burns 0 = .ok (.iconst 0, 1) := by decide +kernel
theorem dL_burns_1 : decode cL_burns 1 = .ok (.istore 6, 2) := by decide +kernel
theorem dL_burns_3 : decode cL_burns 3 = .ok (.iconst 0, 1) := by decide +kernel
theorem dL_burns_4 : decode cL_burns 4 = .ok (.istore 7, 2) := by decide +kernel
theorem dL_burns_6 : decode cL_burns 6 = .ok (.iload 7, 2) := by decide +kernel
theorem dL_burns_8 : decode cL_burns 8 = .ok (.aload_n 2, 1) := by decide +kernel
theorem dL_burns_9 : decode cL_burns 9 = .ok (.bipush 9, 2) := by decide +kernel
theorem dL_burns_11 : decode cL_burns 11 = .ok (.iaload, 1) := by decide +kernel
theorem dL_burns_12 : decode cL_burns 12 = .ok (.if_icmp .ge 49, 3) := by decide +kernel
theorem dL_burns_15 : decode cL_burns 15 = .ok (.iload 6, 2) := by decide +kernel
theorem dL_burns_17 : decode cL_burns 17 = .ok (.aload 4, 2) := by decide +kernel
theorem dL_burns_19 : decode cL_burns 19 = .ok (.iload 7, 2) := by decide +kernel
theorem dL_burns_21 : decode cL_burns 21 = .ok (.iaload, 1) := by decide +kernel
theorem dL_burns_22 : decode cL_burns 22 = .ok (.aload_n 3, 1) := by decide +kernel
theorem dL_burns_23 : decode cL_burns 23 = .ok (.invokestatic 69, 3) := by decide +kernel
theorem dL_burns_26 : decode cL_burns 26 = .ok (.iload_n 0, 1) := by decide +kernel
theorem dL_burns_27 : decode cL_burns 27 = .ok (.if_icmp .ne 24, 3) := by decide +kernel
theorem dL_burns_30 : decode cL_burns 30 = .ok (.aload 4, 2) := by decide +kernel
theorem dL_burns_32 : decode cL_burns 32 = .ok (.iload 7, 2) := by decide +kernel
theorem dL_burns_34 : decode cL_burns 34 = .ok (.iaload, 1) := by decide +kernel
theorem dL_burns_35 : decode cL_burns 35 = .ok (.iload_n 1, 1) := by decide +kernel
theorem dL_burns_36 : decode cL_burns 36 = .ok (.iconst (-1), 1) := by decide +kernel
theorem dL_burns_37 : decode cL_burns 37 = .ok (.aload_n 2, 1) := by decide +kernel
theorem dL_burns_38 : decode cL_burns 38 = .ok (.aload_n 3, 1) := by decide +kernel
theorem dL_burns_39 : decode cL_burns 39 = .ok (.aload 5, 2) := by decide +kernel
theorem dL_burns_41 : decode cL_burns 41 = .ok (.invokestatic 82, 3) := by decide +kernel
theorem dL_burns_44 : decode cL_burns 44 = .ok (.ifCond .eq 7, 3) := by decide +kernel
theorem dL_burns_47 : decode cL_burns 47 = .ok (.iconst 1, 1) := by decide +kernel
theorem dL_burns_48 : decode cL_burns 48 = .ok (.goto 4, 3) := by decide +kernel
theorem dL_burns_51 : decode cL_burns 51 = .ok (.iconst 0, 1) := by decide +kernel
theorem dL_burns_52 : decode cL_burns 52 = .ok (.iadd, 1) := by decide +kernel
theorem dL_burns_53 : decode cL_burns 53 = .ok (.istore 6, 2) := by decide +kernel
theorem dL_burns_55 : decode cL_burns 55 = .ok (.iinc 7 1, 3) := by decide +kernel
theorem dL_burns_58 : decode cL_burns 58 = .ok (.goto (-52), 3) := by decide +kernel
theorem dL_burns_61 : decode cL_burns 61 = .ok (.iload 6, 2) := by decide +kernel
theorem dL_burns_63 : decode cL_burns 63 = .ok (.ireturn, 1) := by decide +kernel
theorem dL_areChildren_0 : decode cL_areChildren 0 = .ok (.iconst (-1), 1) := by decide +kernel
theorem dL_areChildren_1 : decode cL_areChildren 1 = .ok (.istore 6, 2) := by decide +kernel
theorem dL_areChildren_3 : decode cL_areChildren 3 = .ok (.iconst 0, 1) := by decide +kernel
theorem dL_areChildren_4 : decode cL_areChildren 4 = .ok (.istore 7, 2) := by decide +kernel
theorem dL_areChildren_6 : decode cL_areChildren 6 = .ok (.iconst 0, 1) := by decide +kernel
theorem dL_areChildren_7 : decode cL_areChildren 7 = .ok (.istore 8, 2) := by decide +kernel
theorem dL_areChildren_9 : decode cL_areChildren 9 = .ok (.iload 8, 2) := by decide +kernel
theorem dL_areChildren_11 : decode cL_areChildren 11 = .ok (.iconst 5, 1) := by decide +kernel
theorem dL_areChildren_12 : decode cL_areChildren 12 = .ok (.if_icmp .ge 156, 3) := by decide +kernel
theorem dL_areChildren_15 : decode cL_areChildren 15 = .ok (.aload 4, 2) := by decide +kernel
theorem dL_areChildren_17 : decode cL_areChildren 17 = .ok (.bipush 6, 2) := by decide +kernel
theorem dL_areChildren_19 : decode cL_areChildren 19 = .ok (.iload 8, 2) := by decide +kernel
theorem dL_areChildren_21 : decode cL_areChildren 21 = .ok (.imul, 1) := by decide +kernel
theorem dL_areChildren_22 : decode cL_areChildren 22 = .ok (.iaload, 1) := by decide +kernel
theorem dL_areChildren_23 : decode cL_areChildren 23 = .ok (.ifCond .ne 17, 3) := by decide +kernel
theorem dL_areChildren_26 : decode cL_areChildren 26 = .ok (.aload_n 0, 1) := by decide +kernel
theorem dL_areChildren_27 : decode cL_areChildren 27 = .ok (.iload 8, 2) := by decide +kernel
theorem dL_areChildren_29 : decode cL_areChildren 29 = .ok (.iconst 0, 1) := by decide +kernel
theorem dL_areChildren_30 : decode cL_areChildren 30 = .ok (.invokestatic 175, 3) := by decide +kernel
theorem dL_areChildren_33 : decode cL_areChildren 33 = .ok (.bipush (-31), 2) := by decide +kernel
theorem dL_areChildren_35 : decode cL_areChildren 35 = .ok (.if_icmp .eq 127, 3) := by decide +kernel
theorem dL_areChildren_38 : decode cL_areChildren 38 = .ok (.iconst 0, 1) := by decide +kernel
theorem dL_areChildren_39 : decode cL_areChildren 39 = .ok (.ireturn, 1) := by decide +kernel
theorem dL_areChildren_40 : decode cL_areChildren 40 = .ok (.aload_n 0, 1) := by decide +kernel
theorem dL_areChildren_41 : decode cL_areChildren 41 = .ok (.iload 8, 2) := by decide +kernel
theorem dL_areChildren_43 : decode cL_areChildren 43 = .ok (.aload_n 1, 1) := by decide +kernel
theorem dL_areChildren_44 : decode cL_areChildren 44 = .ok (.aload_n 2, 1) := by decide +kernel
theorem dL_areChildren_45 : decode cL_areChildren 45 = .ok (.aload_n 3, 1) := by decide +kernel
theorem dL_areChildren_46 : decode cL_areChildren 46 = .ok (.aload 4, 2) := by decide +kernel
theorem dL_areChildren_48 : decode cL_areChildren 48 = .ok (.aload 5, 2) := by decide +kernel
theorem dL_areChildren_50 : decode cL_areChildren 50 = .ok (.invokestatic 177, 3) := by decide +kernel
theorem dL_areChildren_53 : decode cL_areChildren 53 = .ok (.ifCond .eq 45, 3) := by decide +kernel
theorem dL_areChildren_56 : decode cL_areChildren 56 = .ok (.aload_n 0, 1) := by decide +kernel
theorem dL_areChildren_57 : decode cL_areChildren 57 = .ok (.iload 8, 2) := by decide +kernel
theorem dL_areChildren_59 : decode cL_areChildren 59 = .ok (.iconst 0, 1) := by decide +kernel
theorem dL_areChildren_60 : decode cL_areChildren 60 = .ok (.invokevirtual 181, 3) := by decide +kernel
theorem dL_areChildren_63 : decode cL_areChildren 63 = .ok (.iload 8, 2) := by decide +kernel
theorem dL_areChildren_65 : decode cL_areChildren 65 = .ok (.iconst 0, 1) := by decide +kernel
theorem dL_areChildren_66 : decode cL_areChildren 66 = .ok (.aload_n 1, 1) := by decide +kernel
theorem dL_areChildren_67 : decode cL_areChildren 67 = .ok (.aload_n 2, 1) := by decide +kernel
theorem dL_areChildren_68 : decode cL_areChildren 68 = .ok (.aload_n 3, 1) := by decide +kernel
theorem dL_areChildren_69 : decode cL_areChildren 69 = .ok (.aload 5, 2) := by decide +kernel
theorem dL_areChildren_71 : decode cL_areChildren 71 = .ok (.invokestatic 184, 3) := by decide +kernel
theorem dL_areChildren_74 : decode cL_areChildren 74 = .ok (.if_icmp .ne 24, 3) := by decide +kernel
theorem dL_areChildren_77 : decode cL_areChildren 77 = .ok (.aload_n 0, 1) := by decide +kernel
theorem dL_areChildren_78 : decode cL_areChildren 78 = .ok (.iload 8, 2) := by decide +kernel
theorem dL_areChildren_80 : decode cL_areChildren 80 = .ok (.iconst 1, 1) := by decide +kernel
theorem dL_areChildren_81 : decode cL_areChildren 81 = .ok (.invokevirtual 181, 3) := by decide +kernel
theorem dL_areChildren_84 : decode cL_areChildren 84 = .ok (.iload 8, 2) := by decide +kernel
theorem dL_areChildren_86 : decode cL_areChildren 86 = .ok (.iconst 1, 1) := by decide +kernel
theorem dL_areChildren_87 : decode cL_areChildren 87 = .ok (.aload_n 1, 1) := by decide +kernel
theorem dL_areChildren_88 : decode cL_areChildren 88 = .ok (.aload_n 2, 1) := by decide +kernel
theorem dL_areChildren_89 : decode cL_areChildren 89 = .ok (.aload_n 3, 1) := by decide +kernel
theorem dL_areChildren_90 : decode cL_areChildren 90 = .ok (.aload 5, 2) := by decide +kernel
theorem dL_areChildren_92 : decode cL_areChildren 92 = .ok (.invokestatic 184, 3) := by decide +kernel
theorem dL_areChildren_95 : decode cL_areChildren 95 = .ok (.if_icmp .eq 5, 3) := by decide +kernel
theorem dL_areChildren_98 : decode cL_areChildren 98 = .ok (.iconst 0, 1) := by decide +kernel
theorem dL_areChildren_99 : decode cL_areChildren 99 = .ok (.ireturn, 1) := by decide +kernel
theorem dL_areChildren_100 : decode cL_areChildren 100 = .ok (.iload 8, 2) := by decide +kernel
theorem dL_areChildren_102 : decode cL_areChildren 102 = .ok (.aload_n 1, 1) := by decide +kernel
theorem dL_areChildren_103 : decode cL_areChildren 103 = .ok (.bipush 8, 2) := by decide +kernel
theorem dL_areChildren_105 : decode cL_areChildren 105 = .ok (.iaload, 1) := by decide +kernel
theorem dL_areChildren_106 : decode cL_areChildren 106 = .ok (.aload_n 1, 1) := by decide +kernel
theorem dL_areChildren_107 : decode cL_areChildren 107 = .ok (.aload_n 2, 1) := by decide +kernel
theorem dL_areChildren_108 : decode cL_areChildren 108 = .ok (.aload_n 3, 1) := by decide +kernel
theorem dL_areChildren_109 : decode cL_areChildren 109 = .ok (.aload 5, 2) := by decide +kernel
theorem dL_areChildren_111 : decode cL_areChildren 111 = .ok (.invokestatic 184, 3) := by decide +kernel
theorem dL_areChildren_114 : decode cL_areChildren 114 = .ok (.istore 9, 2) := by decide +kernel
theorem dL_areChildren_116 : decode cL_areChildren 116 = .ok (.iload 9, 2) := by decide +kernel
theorem dL_areChildren_118 : decode cL_areChildren 118 = .ok (.iload 7, 2) := by decide +kernel
theorem dL_areChildren_120 : decode cL_areChildren 120 = .ok (.if_icmp .gt 34, 3) := by decide +kernel
theorem dL_areChildren_123 : decode cL_areChildren 123 = .ok (.iload 9, 2) := by decide +kernel
theorem dL_areChildren_125 : decode cL_areChildren 125 = .ok (.ifCond .le 37, 3) := by decide +kernel
theorem dL_areChildren_128 : decode cL_areChildren 128 = .ok (.iload 9, 2) := by decide +kernel
theorem dL_areChildren_130 : decode cL_areChildren 130 = .ok (.iload 7, 2) := by decide +kernel
theorem dL_areChildren_132 : decode cL_areChildren 132 = .ok (.if_icmp .ne 30, 3) := by decide +kernel
theorem dL_areChildren_135 : decode cL_areChildren 135 = .ok (.iload 8, 2) := by decide +kernel
theorem dL_areChildren_137 : decode cL_areChildren 137 = .ok (.aload_n 1, 1) := by decide +kernel
theorem dL_areChildren_138 : decode cL_areChildren 138 = .ok (.aload_n 2, 1) := by decide +kernel
theorem dL_areChildren_139 : decode cL_areChildren 139 = .ok (.aload_n 3, 1) := by decide +kernel
theorem dL_areChildren_140 : decode cL_areChildren 140 = .ok (.invokestatic 94, 3) := by decide +kernel
theorem dL_areChildren_143 : decode cL_areChildren 143 = .ok (.iload 6, 2) := by decide +kernel
theorem dL_areChildren_145 : decode cL_areChildren 145 = .ok (.aload_n 1, 1) := by decide +kernel
theorem dL_areChildren_146 : decode cL_areChildren 146 = .ok (.aload_n 2, 1) := by decide +kernel
theorem dL_areChildren_147 : decode cL_areChildren 147 = .ok (.aload_n 3, 1) := by decide +kernel
theorem dL_areChildren_148 : decode cL_areChildren 148 = .ok (.invokestatic 94, 3) := by decide +kernel
theorem dL_areChildren_151 : decode cL_areChildren 151 = .ok (.if_icmp .le 11, 3) := by decide +kernel
theorem dL_areChildren_154 : decode cL_areChildren 154 = .ok (.iload 8, 2) := by decide +kernel
theorem dL_areChildren_156 : decode cL_areChildren 156 = .ok (.istore 6, 2) := by decide +kernel
theorem dL_areChildren_158 : decode cL_areChildren 158 = .ok (.iload 9, 2) := by decide +kernel
theorem dL_areChildren_160 : decode cL_areChildren 160 = .ok (.istore 7, 2) := by decide +kernel
theorem dL_areChildren_162 : decode cL_areChildren 162 = .ok (.iinc 8 1, 3) := by decide +kernel
theorem dL_areChildren_165 : decode cL_areChildren 165 = .ok (.goto (-156), 3) := by decide +kernel
theorem dL_areChildren_168 : decode cL_areChildren 168 = .ok (.aload_n 0, 1) := by decide +kernel
theorem dL_areChildren_169 : decode cL_areChildren 169 = .ok (.invokevirtual 188, 3) := by decide +kernel
theorem dL_areChildren_172 : decode cL_areChildren 172 = .ok (.iload 6, 2) := by decide +kernel
theorem dL_areChildren_174 : decode cL_areChildren 174 = .ok (.if_icmp .ne 7, 3) := by decide +kernel
theorem dL_areChildren_177 : decode cL_areChildren 177 = .ok (.iconst 1, 1) := by decide +kernel
theorem dL_areChildren_178 : decode cL_areChildren 178 = .ok (.goto 4, 3) := by decide +kernel
theorem dL_areChildren_181 : decode cL_areChildren 181 = .ok (.iconst 0, 1) := by decide +kernel
theorem dL_areChildren_182 : decode cL_areChildren 182 = .ok (.ireturn, 1) := by decide +kernel
theorem dL_isSo_0 : decode cL_isSo 0 = .ok (.iconst 0, 1) := by decide +kernel
theorem dL_isSo_1 : decode cL_isSo 1 = .ok (.istore 7, 2) := by decide +kernel
theorem dL_isSo_3 : decode cL_isSo 3 = .ok (.iconst 0, 1) := by decide +kernel
theorem dL_isSo_4 : decode cL_isSo 4 = .ok (.istore 8, 2) := by decide +kernel
theorem dL_isSo_6 : decode cL_isSo 6 = .ok (.iconst (-1), 1) := by decide +kernel
theorem dL_isSo_7 : decode cL_isSo 7 = .ok (.istore 9, 2) := by decide +kernel
theorem dL_isSo_9 : decode cL_isSo 9 = .ok (.iconst 0, 1) := by decide +kernel
theorem dL_isSo_10 : decode cL_isSo 10 = .ok (.istore 10, 2) := by decide +kernel
theorem dL_isSo_12 : decode cL_isSo 12 = .ok (.iconst 0, 1) := by decide +kernel
theorem dL_isSo_13 : decode cL_isSo 13 = .ok (.istore 11, 2) := by decide +kernel
theorem dL_isSo_15 : decode cL_isSo 15 = .ok (.iconst 0, 1) := by decide +kernel
theorem dL_isSo_16 : decode cL_isSo 16 = .ok (.istore 12, 2) := by decide +kernel
theorem dL_isSo_18 : decode cL_isSo 18 = .ok (.iconst 0, 1) := by decide +kernel
theorem dL_isSo_19 : decode cL_isSo 19 = .ok (.istore 13, 2) := by decide +kernel
theorem dL_isSo_21 : decode cL_isSo 21 = .ok (.iconst 0, 1) := by decide +kernel
theorem dL_isSo_22 : decode cL_isSo 22 = .ok (.istore 14, 2) := by decide +kernel
theorem dL_isSo_24 : decode cL_isSo 24 = .ok (.iconst 0, 1) := by decide +kernel
theorem dL_isSo_25 : decode cL_isSo 25 = .ok (.istore 15, 2) := by decide +kernel
theorem dL_isSo_27 : decode cL_isSo 27 = .ok (.iload 15, 2) := by decide +kernel
theorem dL_isSo_29 : decode cL_isSo 29 = .ok (.aload_n 1, 1) := by decide +kernel
theorem dL_isSo_30 : decode cL_isSo 30 = .ok (.iconst 1, 1) := by decide +kernel
theorem dL_isSo_31 : decode cL_isSo 31 = .ok (.iaload, 1) := by decide +kernel
theorem dL_isSo_32 : decode cL_isSo 32 = .ok (.if_icmp .ge 114, 3) := by decide +kernel
theorem dL_isSo_35 : decode cL_isSo 35 = .ok (.iload 15, 2) := by decide +kernel
theorem dL_isSo_37 : decode cL_isSo 37 = .ok (.iconst 2, 1) := by decide +kernel
theorem dL_isSo_38 : decode cL_isSo 38 = .ok (.iconst (-1), 1) := by decide +kernel
theorem dL_isSo_39 : decode cL_isSo 39 = .ok (.aload 6, 2) := by decide +kernel
theorem dL_isSo_41 : decode cL_isSo 41 = .ok (.invokestatic 75, 3) := by decide +kernel
theorem dL_isSo_44 : decode cL_isSo 44 = .ok (.istore 16, 2) := by decide +kernel
theorem dL_isSo_46 : decode cL_isSo 46 = .ok (.iload 7, 2) := by decide +kernel
theorem dL_isSo_48 : decode cL_isSo 48 = .ok (.iload 15, 2) := by decide +kernel
theorem dL_isSo_50 : decode cL_isSo 50 = .ok (.aload_n 3, 1) := by decide +kernel
theorem dL_isSo_51 : decode cL_isSo 51 = .ok (.invokestatic 69, 3) := by decide +kernel
theorem dL_isSo_54 : decode cL_isSo 54 = .ok (.bipush (-2), 2) := by decide +kernel
theorem dL_isSo_56 : decode cL_isSo 56 = .ok (.if_icmp .ne 7, 3) := by decide +kernel
theorem dL_isSo_59 : decode cL_isSo 59 = .ok (.iconst 1, 1) := by decide +kernel
theorem dL_isSo_60 : decode cL_isSo 60 = .ok (.goto 4, 3) := by decide +kernel
theorem dL_isSo_63 : decode cL_isSo 63 = .ok (.iconst 0, 1) := by decide +kernel
theorem dL_isSo_64 : decode cL_isSo 64 = .ok (.iadd, 1) := by decide +kernel
theorem dL_isSo_65 : decode cL_isSo 65 = .ok (.istore 7, 2) := by decide +kernel
theorem dL_isSo_67 : decode cL_isSo 67 = .ok (.iload 8, 2) := by decide +kernel
theorem dL_isSo_69 : decode cL_isSo 69 = .ok (.iload 15, 2) := by decide +kernel
theorem dL_isSo_71 : decode cL_isSo 71 = .ok (.aload_n 3, 1) := by decide +kernel
theorem dL_isSo_72 : decode cL_isSo 72 = .ok (.invokestatic 69, 3) := by decide +kernel
theorem dL_isSo_75 : decode cL_isSo 75 = .ok (.iconst (-1), 1) := by decide +kernel
theorem dL_isSo_76 : decode cL_isSo 76 = .ok (.if_icmp .ne 7, 3) := by decide +kernel
theorem dL_isSo_79 : decode cL_isSo 79 = .ok (.iconst 1, 1) := by decide +kernel
theorem dL_isSo_80 : decode cL_isSo 80 = .ok (.goto 4, 3) := by decide +kernel
theorem dL_isSo_83 : decode cL_isSo 83 = .ok (.iconst 0, 1) := by decide +kernel
theorem dL_isSo_84 : decode cL_isSo 84 = .ok (.iadd, 1) := by decide +kernel
theorem dL_isSo_85 : decode cL_isSo 85 = .ok (.istore 8, 2) := by decide +kernel
theorem dL_isSo_87 : decode cL_isSo 87 = .ok (.iload 11, 2) := by decide +kernel
theorem dL_isSo_89 : decode cL_isSo 89 = .ok (.iload 16, 2) := by decide +kernel
theorem dL_isSo_91 : decode cL_isSo 91 = .ok (.iadd, 1) := by decide +kernel
theorem dL_isSo_92 : decode cL_isSo 92 = .ok (.istore 11, 2) := by decide +kernel
theorem dL_isSo_94 : decode cL_isSo 94 = .ok (.iload 12, 2) := by decide +kernel
theorem dL_isSo_96 : decode cL_isSo 96 = .ok (.iload 15, 2) := by decide +kernel
theorem dL_isSo_98 : decode cL_isSo 98 = .ok (.iconst 1, 1) := by decide +kernel
theorem dL_isSo_99 : decode cL_isSo 99 = .ok (.iconst (-1), 1) := by decide +kernel
theorem dL_isSo_100 : decode cL_isSo 100 = .ok (.aload 6, 2) := by decide +kernel
theorem dL_isSo_102 : decode cL_isSo 102 = .ok (.invokestatic 75, 3) := by decide +kernel
theorem dL_isSo_105 : decode cL_isSo 105 = .ok (.iadd, 1) := by decide +kernel
theorem dL_isSo_106 : decode cL_isSo 106 = .ok (.istore 12, 2) := by decide +kernel
theorem dL_isSo_108 : decode cL_isSo 108 = .ok (.iload 16, 2) := by decide +kernel
theorem dL_isSo_110 : decode cL_isSo 110 = .ok (.iload 10, 2) := by decide +kernel
theorem dL_isSo_112 : decode cL_isSo 112 = .ok (.if_icmp .le 8, 3) := by decide +kernel
theorem dL_isSo_115 : decode cL_isSo 115 = .ok (.iload 15, 2) := by decide +kernel
theorem dL_isSo_117 : decode cL_isSo 117 = .ok (.goto 5, 3) := by decide +kernel
theorem dL_isSo_120 : decode cL_isSo 120 = .ok (.iload 9, 2) := by decide +kernel
theorem dL_isSo_122 : decode cL_isSo 122 = .ok (.istore 9, 2) := by decide +kernel
theorem dL_isSo_124 : decode cL_isSo 124 = .ok (.iload 16, 2) := by decide +kernel
theorem dL_isSo_126 : decode cL_isSo 126 = .ok (.iload 10, 2) := by decide +kernel
theorem dL_isSo_128 : decode cL_isSo 128 = .ok (.if_icmp .le 8, 3) := by decide +kernel
theorem dL_isSo_131 : decode cL_isSo 131 = .ok (.iload 16, 2) := by decide +kernel
theorem dL_isSo_133 : decode cL_isSo 133 = .ok (.goto 5, 3) := by decide +kernel
theorem dL_isSo_136 : decode cL_isSo 136 = .ok (.iload 10, 2) := by decide +kernel
theorem dL_isSo_138 : decode cL_isSo 138 = .ok (.istore 10, 2) := by decide +kernel
theorem dL_isSo_140 : decode cL_isSo 140 = .ok (.iinc 15 1, 3) := by decide +kernel
theorem dL_isSo_143 : decode cL_isSo 143 = .ok (.goto (-116), 3) := by decide +kernel
theorem dL_isSo_146 : decode cL_isSo 146 = .ok (.iconst 0, 1) := by decide +kernel
theorem dL_isSo_147 : decode cL_isSo 147 = .ok (.istore 15, 2) := by decide +kernel
theorem dL_isSo_149 : decode cL_isSo 149 = .ok (.iload 15, 2) := by decide +kernel
theorem dL_isSo_151 : decode cL_isSo 151 = .ok (.iconst 5, 1) := by decide +kernel
theorem dL_isSo_152 : decode cL_isSo 152 = .ok (.if_icmp .ge 40, 3) := by decide +kernel
theorem dL_isSo_155 : decode cL_isSo 155 = .ok (.iload 13, 2) := by decide +kernel
theorem dL_isSo_157 : decode cL_isSo 157 = .ok (.aload 5, 2) := by decide +kernel
theorem dL_isSo_159 : decode cL_isSo 159 = .ok (.bipush 6, 2) := by decide +kernel
theorem dL_isSo_161 : decode cL_isSo 161 = .ok (.iload 15, 2) := by decide +kernel
theorem dL_isSo_163 : decode cL_isSo 163 = .ok (.imul, 1) := by decide +kernel
theorem dL_isSo_164 : decode cL_isSo 164 = .ok (.iaload, 1) := by decide +kernel
theorem dL_isSo_165 : decode cL_isSo 165 = .ok (.iload 15, 2) := by decide +kernel
theorem dL_isSo_167 : decode cL_isSo 167 = .ok (.ishl, 1) := by decide +kernel
theorem dL_isSo_168 : decode cL_isSo 168 = .ok (.ior, 1) := by decide +kernel
theorem dL_isSo_169 : decode cL_isSo 169 = .ok (.istore 13, 2) := by decide +kernel
theorem dL_isSo_171 : decode cL_isSo 171 = .ok (.iload 14, 2) := by decide +kernel
theorem dL_isSo_173 : decode cL_isSo 173 = .ok (.aload 5, 2) := by decide +kernel
theorem dL_isSo_175 : decode cL_isSo 175 = .ok (.bipush 6, 2) := by decide +kernel
theorem dL_isSo_177 : decode cL_isSo 177 = .ok (.iload 15, 2) := by decide +kernel
theorem dL_isSo_179 : decode cL_isSo 179 = .ok (.imul, 1) := by decide +kernel
theorem dL_isSo_180 : decode cL_isSo 180 = .ok (.iconst 1, 1) := by decide +kernel
theorem dL_isSo_181 : decode cL_isSo 181 = .ok (.iadd, 1) := by decide +kernel
theorem dL_isSo_182 : decode cL_isSo 182 = .ok (.iaload, 1) := by decide +kernel
theorem dL_isSo_183 : decode cL_isSo 183 = .ok (.iadd, 1) := by decide +kernel
theorem dL_isSo_184 : decode cL_isSo 184 = .ok (.istore 14, 2) := by decide +kernel
theorem dL_isSo_186 : decode cL_isSo 186 = .ok (.iinc 15 1, 3) := by decide +kernel
theorem dL_isSo_189 : decode cL_isSo 189 = .ok (.goto (-40), 3) := by decide +kernel
theorem dL_isSo_192 : decode cL_isSo 192 = .ok (.aload_n 0, 1) := by decide +kernel
theorem dL_isSo_193 : decode cL_isSo 193 = .ok (.iconst 0, 1) := by decide +kernel
theorem dL_isSo_194 : decode cL_isSo 194 = .ok (.invokevirtual 191, 3) := by decide +kernel
theorem dL_isSo_197 : decode cL_isSo 197 = .ok (.iload 13, 2) := by decide +kernel
theorem dL_isSo_199 : decode cL_isSo 199 = .ok (.if_icmp .ne 169, 3) := by decide +kernel
theorem dL_isSo_202 : decode cL_isSo 202 = .ok (.aload_n 0, 1) := by decide +kernel
theorem dL_isSo_203 : decode cL_isSo 203 = .ok (.iconst 1, 1) := by decide +kernel
theorem dL_isSo_204 : decode cL_isSo 204 = .ok (.invokevirtual 191, 3) := by decide +kernel
theorem dL_isSo_207 : decode cL_isSo 207 = .ok (.aload 5, 2) := by decide +kernel
theorem dL_isSo_209 : decode cL_isSo 209 = .ok (.invokestatic 90, 3) := by decide +kernel
theorem dL_isSo_212 : decode cL_isSo 212 = .ok (.if_icmp .ne 156, 3) := by decide +kernel
theorem dL_isSo_215 : decode cL_isSo 215 = .ok (.aload_n 0, 1) := by decide +kernel
theorem dL_isSo_216 : decode cL_isSo 216 = .ok (.iconst 2, 1) := by decide +kernel
theorem dL_isSo_217 : decode cL_isSo 217 = .ok (.invokevirtual 191, 3) := by decide +kernel
theorem dL_isSo_220 : decode cL_isSo 220 = .ok (.iload 14, 2) := by decide +kernel
theorem dL_isSo_222 : decode cL_isSo 222 = .ok (.if_icmp .ne 146, 3) := by decide +kernel
theorem dL_isSo_225 : decode cL_isSo 225 = .ok (.aload_n 0, 1) := by decide +kernel
theorem dL_isSo_226 : decode cL_isSo 226 = .ok (.iconst 3, 1) := by decide +kernel
theorem dL_isSo_227 : decode cL_isSo 227 = .ok (.invokevirtual 191, 3) := by decide +kernel
theorem dL_isSo_230 : decode cL_isSo 230 = .ok (.aload_n 1, 1) := by decide +kernel
theorem dL_isSo_231 : decode cL_isSo 231 = .ok (.iconst 0, 1) := by decide +kernel
theorem dL_isSo_232 : decode cL_isSo 232 = .ok (.iaload, 1) := by decide +kernel
theorem dL_isSo_233 : decode cL_isSo 233 = .ok (.if_icmp .ne 135, 3) := by decide +kernel
theorem dL_isSo_236 : decode cL_isSo 236 = .ok (.aload_n 0, 1) := by decide +kernel
theorem dL_isSo_237 : decode cL_isSo 237 = .ok (.iconst 4, 1) := by decide +kernel
theorem dL_isSo_238 : decode cL_isSo 238 = .ok (.invokevirtual 191, 3) := by decide +kernel
theorem dL_isSo_241 : decode cL_isSo 241 = .ok (.aload_n 1, 1) := by decide +kernel
theorem dL_isSo_242 : decode cL_isSo 242 = .ok (.iconst 1, 1) := by decide +kernel
theorem dL_isSo_243 : decode cL_isSo 243 = .ok (.iaload, 1) := by decide +kernel
theorem dL_isSo_244 : decode cL_isSo 244 = .ok (.if_icmp .ne 124, 3) := by decide +kernel
theorem dL_isSo_247 : decode cL_isSo 247 = .ok (.aload_n 0, 1) := by decide +kernel
theorem dL_isSo_248 : decode cL_isSo 248 = .ok (.iconst 5, 1) := by decide +kernel
theorem dL_isSo_249 : decode cL_isSo 249 = .ok (.invokevirtual 191, 3) := by decide +kernel
theorem dL_isSo_252 : decode cL_isSo 252 = .ok (.iload 8, 2) := by decide +kernel
theorem dL_isSo_254 : decode cL_isSo 254 = .ok (.if_icmp .ne 114, 3) := by decide +kernel
theorem dL_isSo_257 : decode cL_isSo 257 = .ok (.aload_n 0, 1) := by decide +kernel
theorem dL_isSo_258 : decode cL_isSo 258 = .ok (.bipush 6, 2) := by decide +kernel
theorem dL_isSo_260 : decode cL_isSo 260 = .ok (.invokevirtual 191, 3) := by decide +kernel
theorem dL_isSo_263 : decode cL_isSo 263 = .ok (.aload_n 1, 1) := by decide +kernel
theorem dL_isSo_264 : decode cL_isSo 264 = .ok (.bipush 9, 2) := by decide +kernel
theorem dL_isSo_266 : decode cL_isSo 266 = .ok (.iaload, 1) := by decide +kernel
theorem dL_isSo_267 : decode cL_isSo 267 = .ok (.if_icmp .ne 101, 3) := by decide +kernel
theorem dL_isSo_270 : decode cL_isSo 270 = .ok (.aload_n 0, 1) := by decide +kernel
theorem dL_isSo_271 : decode cL_isSo 271 = .ok (.bipush 7, 2) := by decide +kernel
theorem dL_isSo_273 : decode cL_isSo 273 = .ok (.invokevirtual 191, 3) := by decide +kernel
theorem dL_isSo_276 : decode cL_isSo 276 = .ok (.iload 7, 2) := by decide +kernel
theorem dL_isSo_278 : decode cL_isSo 278 = .ok (.if_icmp .ne 90, 3) := by decide +kernel
theorem dL_isSo_281 : decode cL_isSo 281 = .ok (.aload_n 0, 1) := by decide +kernel
theorem dL_isSo_282 : decode cL_isSo 282 = .ok (.bipush 8, 2) := by decide +kernel
theorem dL_isSo_284 : decode cL_isSo 284 = .ok (.invokevirtual 191, 3) := by decide +kernel
theorem dL_isSo_287 : decode cL_isSo 287 = .ok (.iload 11, 2) := by decide +kernel
theorem dL_isSo_289 : decode cL_isSo 289 = .ok (.if_icmp .ne 79, 3) := by decide +kernel
theorem dL_isSo_292 : decode cL_isSo 292 = .ok (.aload_n 0, 1) := by decide +kernel
theorem dL_isSo_293 : decode cL_isSo 293 = .ok (.bipush 9, 2) := by decide +kernel
theorem dL_isSo_295 : decode cL_isSo 295 = .ok (.invokevirtual 191, 3) := by decide +kernel
theorem dL_isSo_298 : decode cL_isSo 298 = .ok (.iload 12, 2) := by decide +kernel
theorem dL_isSo_300 : decode cL_isSo 300 = .ok (.if_icmp .ne 68, 3) := by decide +kernel
theorem dL_isSo_303 : decode cL_isSo 303 = .ok (.aload_n 0, 1) := by decide +kernel
theorem dL_isSo_304 : decode cL_isSo 304 = .ok (.bipush 10, 2) := by decide +kernel
theorem dL_isSo_306 : decode cL_isSo 306 = .ok (.invokevirtual 191, 3) := by decide +kernel
theorem dL_isSo_309 : decode cL_isSo 309 = .ok (.aload_n 1, 1) := by decide +kernel
theorem dL_isSo_310 : decode cL_isSo 310 = .ok (.iconst 2, 1) := by decide +kernel
theorem dL_isSo_311 : decode cL_isSo 311 = .ok (.iaload, 1) := by decide +kernel
theorem dL_isSo_312 : decode cL_isSo 312 = .ok (.if_icmp .ne 56, 3) := by decide +kernel
theorem dL_isSo_315 : decode cL_isSo 315 = .ok (.aload_n 0, 1) := by decide +kernel
theorem dL_isSo_316 : decode cL_isSo 316 = .ok (.bipush 11, 2) := by decide +kernel
theorem dL_isSo_318 : decode cL_isSo 318 = .ok (.invokevirtual 191, 3) := by decide +kernel
theorem dL_isSo_321 : decode cL_isSo 321 = .ok (.aload_n 1, 1) := by decide +kernel
theorem dL_isSo_322 : decode cL_isSo 322 = .ok (.iconst 3, 1) := by decide +kernel
theorem dL_isSo_323 : decode cL_isSo 323 = .ok (.iaload, 1) := by decide +kernel
theorem dL_isSo_324 : decode cL_isSo 324 = .ok (.if_icmp .ne 44, 3) := by decide +kernel
theorem dL_isSo_327 : decode cL_isSo 327 = .ok (.aload_n 0, 1) := by decide +kernel
theorem dL_isSo_328 : decode cL_isSo 328 = .ok (.bipush 12, 2) := by decide +kernel
theorem dL_isSo_330 : decode cL_isSo 330 = .ok (.invokevirtual 191, 3) := by decide +kernel
theorem dL_isSo_333 : decode cL_isSo 333 = .ok (.aload_n 1, 1) := by decide +kernel
theorem dL_isSo_334 : decode cL_isSo 334 = .ok (.iconst 4, 1) := by decide +kernel
theorem dL_isSo_335 : decode cL_isSo 335 = .ok (.iaload, 1) := by decide +kernel
theorem dL_isSo_336 : decode cL_isSo 336 = .ok (.if_icmp .ne 32, 3) := by decide +kernel
theorem dL_isSo_339 : decode cL_isSo 339 = .ok (.aload_n 0, 1) := by decide +kernel
theorem dL_isSo_340 : decode cL_isSo 340 = .ok (.bipush 13, 2) := by decide +kernel
theorem dL_isSo_342 : decode cL_isSo 342 = .ok (.invokevirtual 191, 3) := by decide +kernel
theorem dL_isSo_345 : decode cL_isSo 345 = .ok (.aload_n 1, 1) := by decide +kernel
theorem dL_isSo_346 : decode cL_isSo 346 = .ok (.iconst 5, 1) := by decide +kernel
theorem dL_isSo_347 : decode cL_isSo 347 = .ok (.iaload, 1) := by decide +kernel
theorem dL_isSo_348 : decode cL_isSo 348 = .ok (.if_icmp .ne 20, 3) := by decide +kernel
theorem dL_isSo_351 : decode cL_isSo 351 = .ok (.aload_n 0, 1) := by decide +kernel
theorem dL_isSo_352 : decode cL_isSo 352 = .ok (.bipush 14, 2) := by decide +kernel
theorem dL_isSo_354 : decode cL_isSo 354 = .ok (.invokevirtual 191, 3) := by decide +kernel
theorem dL_isSo_357 : decode cL_isSo 357 = .ok (.aload_n 1, 1) := by decide +kernel
theorem dL_isSo_358 : decode cL_isSo 358 = .ok (.bipush 6, 2) := by decide +kernel
theorem dL_isSo_360 : decode cL_isSo 360 = .ok (.iaload, 1) := by decide +kernel
theorem dL_isSo_361 : decode cL_isSo 361 = .ok (.if_icmp .ne 7, 3) := by decide +kernel
theorem dL_isSo_364 : decode cL_isSo 364 = .ok (.iconst 1, 1) := by decide +kernel
theorem dL_isSo_365 : decode cL_isSo 365 = .ok (.goto 4, 3) := by decide +kernel
theorem dL_isSo_368 : decode cL_isSo 368 = .ok (.iconst 0, 1) := by decide +kernel
theorem dL_isSo_369 : decode cL_isSo 369 = .ok (.istore 15, 2) := by decide +kernel
theorem dL_isSo_371 : decode cL_isSo 371 = .ok (.iload 15, 2) := by decide +kernel
theorem dL_isSo_373 : decode cL_isSo 373 = .ok (.ifCond .eq 150, 3) := by decide +kernel
theorem dL_isSo_376 : decode cL_isSo 376 = .ok (.aload_n 0, 1) := by decide +kernel
theorem dL_isSo_377 : decode cL_isSo 377 = .ok (.iconst 0, 1) := by decide +kernel
theorem dL_isSo_378 : decode cL_isSo 378 = .ok (.invokevirtual 194, 3) := by decide +kernel
theorem dL_isSo_381 : decode cL_isSo 381 = .ok (.aload_n 1, 1) := by decide +kernel
theorem dL_isSo_382 : decode cL_isSo 382 = .ok (.bipush 7, 2) := by decide +kernel
theorem dL_isSo_384 : decode cL_isSo 384 = .ok (.iaload, 1) := by decide +kernel
theorem dL_isSo_385 : decode cL_isSo 385 = .ok (.if_icmp .ne 138, 3) := by decide +kernel
theorem dL_isSo_388 : decode cL_isSo 388 = .ok (.aload_n 0, 1) := by decide +kernel
theorem dL_isSo_389 : decode cL_isSo 389 = .ok (.iconst 1, 1) := by decide +kernel
theorem dL_isSo_390 : decode cL_isSo 390 = .ok (.invokevirtual 194, 3) := by decide +kernel
theorem dL_isSo_393 : decode cL_isSo 393 = .ok (.aload_n 1, 1) := by decide +kernel
theorem dL_isSo_394 : decode cL_isSo 394 = .ok (.bipush 8, 2) := by decide +kernel
theorem dL_isSo_396 : decode cL_isSo 396 = .ok (.iaload, 1) := by decide +kernel
theorem dL_isSo_397 : decode cL_isSo 397 = .ok (.if_icmp .ne 126, 3) := by decide +kernel
theorem dL_isSo_400 : decode cL_isSo 400 = .ok (.aload_n 0, 1) := by decide +kernel
theorem dL_isSo_401 : decode cL_isSo 401 = .ok (.invokevirtual 197, 3) := by decide +kernel
theorem dL_isSo_404 : decode cL_isSo 404 = .ok (.aload_n 1, 1) := by decide +kernel
theorem dL_isSo_405 : decode cL_isSo 405 = .ok (.aload 5, 2) := by decide +kernel
theorem dL_isSo_407 : decode cL_isSo 407 = .ok (.invokestatic 114, 3) := by decide +kernel
theorem dL_isSo_410 : decode cL_isSo 410 = .ok (.if_icmp .ne 113, 3) := by decide +kernel
theorem dL_isSo_413 : decode cL_isSo 413 = .ok (.aload_n 0, 1) := by decide +kernel
theorem dL_isSo_414 : decode cL_isSo 414 = .ok (.invokevirtual 199, 3) := by decide +kernel
theorem dL_isSo_417 : decode cL_isSo 417 = .ok (.aload_n 1, 1) := by decide +kernel
theorem dL_isSo_418 : decode cL_isSo 418 = .ok (.bipush 9, 2) := by decide +kernel
theorem dL_isSo_420 : decode cL_isSo 420 = .ok (.iaload, 1) := by decide +kernel
theorem dL_isSo_421 : decode cL_isSo 421 = .ok (.if_icmp .ne 102, 3) := by decide +kernel
theorem dL_isSo_424 : decode cL_isSo 424 = .ok (.aload_n 0, 1) := by decide +kernel
theorem dL_isSo_425 : decode cL_isSo 425 = .ok (.invokevirtual 202, 3) := by decide +kernel
theorem dL_isSo_428 : decode cL_isSo 428 = .ok (.iload 9, 2) := by decide +kernel
theorem dL_isSo_430 : decode cL_isSo 430 = .ok (.if_icmp .ne 93, 3) := by decide +kernel
theorem dL_isSo_433 : decode cL_isSo 433 = .ok (.aload_n 0, 1) := by decide +kernel
theorem dL_isSo_434 : decode cL_isSo 434 = .ok (.invokevirtual 205, 3) := by decide +kernel
theorem dL_isSo_437 : decode cL_isSo 437 = .ok (.iload 7, 2) := by decide +kernel
theorem dL_isSo_439 : decode cL_isSo 439 = .ok (.aload_n 1, 1) := by decide +kernel
theorem dL_isSo_440 : decode cL_isSo 440 = .ok (.bipush 9, 2) := by decide +kernel
theorem dL_isSo_442 : decode cL_isSo 442 = .ok (.iaload, 1) := by decide +kernel
theorem dL_isSo_443 : decode cL_isSo 443 = .ok (.iadd, 1) := by decide +kernel
theorem dL_isSo_444 : decode cL_isSo 444 = .ok (.ifCond .ne 7, 3) := by decide +kernel
theorem dL_isSo_447 : decode cL_isSo 447 = .ok (.dconst 1, 1) := by decide +kernel
theorem dL_isSo_448 : decode cL_isSo 448 = .ok (.goto 15, 3) := by decide +kernel
theorem dL_isSo_451 : decode cL_isSo 451 = .ok (.iload 7, 2) := by decide +kernel
theorem dL_isSo_453 : decode cL_isSo 453 = .ok (.i2d, 1) := by decide +kernel
theorem dL_isSo_454 : decode cL_isSo 454 = .ok (.iload 7, 2) := by decide +kernel
theorem dL_isSo_456 : decode cL_isSo 456 = .ok (.aload_n 1, 1) := by decide +kernel
theorem dL_isSo_457 : decode cL_isSo 457 = .ok (.bipush 9, 2) := by decide +kernel
theorem dL_isSo_459 : decode cL_isSo 459 = .ok (.iaload, 1) := by decide +kernel
theorem dL_isSo_460 : decode cL_isSo 460 = .ok (.iadd, 1) := by decide +kernel
theorem dL_isSo_461 : decode cL_isSo 461 = .ok (.i2d, 1) := by decide +kernel
theorem dL_isSo_462 : decode cL_isSo 462 = .ok (.ddiv, 1) := by decide +kernel
theorem dL_isSo_463 : decode cL_isSo 463 = .ok (.dcmp .l, 1) := by decide +kernel
theorem dL_isSo_464 : decode cL_isSo 464 = .ok (.ifCond .ne 59, 3) := by decide +kernel
theorem dL_isSo_467 : decode cL_isSo 467 = .ok (.aload_n 0, 1) := by decide +kernel
theorem dL_isSo_468 : decode cL_isSo 468 = .ok (.invokevirtual 209, 3) := by decide +kernel
theorem dL_isSo_471 : decode cL_isSo 471 = .ok (.aload_n 1, 1) := by decide +kernel
theorem dL_isSo_472 : decode cL_isSo 472 = .ok (.bipush 9, 2) := by decide +kernel
theorem dL_isSo_474 : decode cL_isSo 474 = .ok (.iaload, 1) := by decide +kernel
theorem dL_isSo_475 : decode cL_isSo 475 = .ok (.i2f, 1) := by decide +kernel
theorem dL_isSo_476 : decode cL_isSo 476 = .ok (.aload_n 1, 1) := by decide +kernel
theorem dL_isSo_477 : decode cL_isSo 477 = .ok (.bipush 7, 2) := by decide +kernel
theorem dL_isSo_479 : decode cL_isSo 479 = .ok (.iaload, 1) := by decide +kernel
theorem dL_isSo_480 : decode cL_isSo 480 = .ok (.aload 5, 2) := by decide +kernel
theorem dL_isSo_482 : decode cL_isSo 482 = .ok (.invokestatic 90, 3) := by decide +kernel
theorem dL_isSo_485 : decode cL_isSo 485 = .ok (.imul, 1) := by decide +kernel
theorem dL_isSo_486 : decode cL_isSo 486 = .ok (.i2f, 1) := by decide +kernel
theorem dL_isSo_487 : decode cL_isSo 487 = .ok (.fdiv, 1) := by decide +kernel
theorem dL_isSo_488 : decode cL_isSo 488 = .ok (.fcmp .l, 1) := by decide +kernel
theorem dL_isSo_489 : decode cL_isSo 489 = .ok (.ifCond .ne 34, 3) := by decide +kernel
theorem dL_isSo_492 : decode cL_isSo 492 = .ok (.aload_n 0, 1) := by decide +kernel
theorem dL_isSo_493 : decode cL_isSo 493 = .ok (.aload_n 1, 1) := by decide +kernel
theorem dL_isSo_494 : decode cL_isSo 494 = .ok (.aload_n 2, 1) := by decide +kernel
theorem dL_isSo_495 : decode cL_isSo 495 = .ok (.aload_n 3, 1) := by decide +kernel
theorem dL_isSo_496 : decode cL_isSo 496 = .ok (.aload 6, 2) := by decide +kernel
theorem dL_isSo_498 : decode cL_isSo 498 = .ok (.invokestatic 213, 3) := by decide +kernel
theorem dL_isSo_501 : decode cL_isSo 501 = .ok (.ifCond .eq 22, 3) := by decide +kernel
theorem dL_isSo_504 : decode cL_isSo 504 = .ok (.aload_n 0, 1) := by decide +kernel
theorem dL_isSo_505 : decode cL_isSo 505 = .ok (.aload_n 1, 1) := by decide +kernel
theorem dL_isSo_506 : decode cL_isSo 506 = .ok (.aload_n 3, 1) := by decide +kernel
theorem dL_isSo_507 : decode cL_isSo 507 = .ok (.aload 4, 2) := by decide +kernel
theorem dL_isSo_509 : decode cL_isSo 509 = .ok (.aload 5, 2) := by decide +kernel
theorem dL_isSo_511 : decode cL_isSo 511 = .ok (.aload 6, 2) := by decide +kernel
theorem dL_isSo_513 : decode cL_isSo 513 = .ok (.invokestatic 217, 3) := by decide +kernel
theorem dL_isSo_516 : decode cL_isSo 516 = .ok (.ifCond .eq 7, 3) := by decide +kernel
theorem dL_isSo_519 : decode cL_isSo 519 = .ok (.iconst 1, 1) := by decide +kernel
theorem dL_isSo_520 : decode cL_isSo 520 = .ok (.goto 4, 3) := by decide +kernel
theorem dL_isSo_523 : decode cL_isSo 523 = .ok (.iconst 0, 1) := by decide +kernel
theorem dL_isSo_524 : decode cL_isSo 524 = .ok (.ireturn, 1) := by decide +kernel
theorem dL_law_0 : decode cL_law 0 = .ok (.new 10, 3) := by decide +kernel
theorem dL_law_3 : decode cL_law 3 = .ok (.dup, 1) := by decide +kernel
theorem dL_law_4 : decode cL_law 4 = .ok (.invokespecial 221, 3) := by decide +kernel
theorem dL_law_7 : decode cL_law 7 = .ok (.astore_n 1, 1) := by decide +kernel
theorem dL_law_8 : decode cL_law 8 = .ok (.bipush 10, 2) := by decide +kernel
theorem dL_law_10 : decode cL_law 10 = .ok (.newarray .int, 2) := by decide +kernel
theorem dL_law_12 : decode cL_law 12 = .ok (.astore_n 2, 1) := by decide +kernel
theorem dL_law_13 : decode cL_law 13 = .ok (.bipush 12, 2) := by decide +kernel
theorem dL_law_15 : decode cL_law 15 = .ok (.newarray .int, 2) := by decide +kernel
theorem dL_law_17 : decode cL_law 17 = .ok (.astore_n 3, 1) := by decide +kernel
theorem dL_law_18 : decode cL_law 18 = .ok (.bipush 40, 2) := by decide +kernel
theorem dL_law_20 : decode cL_law 20 = .ok (.newarray .int, 2) := by decide +kernel
theorem dL_law_22 : decode cL_law 22 = .ok (.astore 4, 2) := by decide +kernel
theorem dL_law_24 : decode cL_law 24 = .ok (.bipush 40, 2) := by decide +kernel
theorem dL_law_26 : decode cL_law 26 = .ok (.newarray .int, 2) := by decide +kernel
theorem dL_law_28 : decode cL_law 28 = .ok (.astore 5, 2) := by decide +kernel
theorem dL_law_30 : decode cL_law 30 = .ok (.bipush 30, 2) := by decide +kernel
theorem dL_law_32 : decode cL_law 32 = .ok (.newarray .int, 2) := by decide +kernel
theorem dL_law_34 : decode cL_law 34 = .ok (.astore 6, 2) := by decide +kernel
theorem dL_law_36 : decode cL_law 36 = .ok (.bipush 30, 2) := by decide +kernel
theorem dL_law_38 : decode cL_law 38 = .ok (.newarray .int, 2) := by decide +kernel
theorem dL_law_40 : decode cL_law 40 = .ok (.astore 7, 2) := by decide +kernel
theorem dL_law_42 : decode cL_law 42 = .ok (.aload_n 2, 1) := by decide +kernel
theorem dL_law_43 : decode cL_law 43 = .ok (.bipush 7, 2) := by decide +kernel
theorem dL_law_45 : decode cL_law 45 = .ok (.iconst 4, 1) := by decide +kernel
theorem dL_law_46 : decode cL_law 46 = .ok (.iastore, 1) := by decide +kernel
theorem dL_law_47 : decode cL_law 47 = .ok (.iconst 0, 1) := by decide +kernel
theorem dL_law_48 : decode cL_law 48 = .ok (.istore 8, 2) := by decide +kernel
theorem dL_law_50 : decode cL_law 50 = .ok (.iload 8, 2) := by decide +kernel
theorem dL_law_52 : decode cL_law 52 = .ok (.bipush 12, 2) := by decide +kernel
theorem dL_law_54 : decode cL_law 54 = .ok (.if_icmp .ge 14, 3) := by decide +kernel
theorem dL_law_57 : decode cL_law 57 = .ok (.aload_n 3, 1) := by decide +kernel
theorem dL_law_58 : decode cL_law 58 = .ok (.iload 8, 2) := by decide +kernel
theorem dL_law_60 : decode cL_law 60 = .ok (.iconst (-1), 1) := by decide +kernel
theorem dL_law_61 : decode cL_law 61 = .ok (.iastore, 1) := by decide +kernel
theorem dL_law_62 : decode cL_law 62 = .ok (.iinc 8 1, 3) := by decide +kernel
theorem dL_law_65 : decode cL_law 65 = .ok (.goto (-15), 3) := by decide +kernel
theorem dL_law_68 : decode cL_law 68 = .ok (.iconst 0, 1) := by decide +kernel
theorem dL_law_69 : decode cL_law 69 = .ok (.istore 8, 2) := by decide +kernel
theorem dL_law_71 : decode cL_law 71 = .ok (.iload 8, 2) := by decide +kernel
theorem dL_law_73 : decode cL_law 73 = .ok (.iconst 5, 1) := by decide +kernel
theorem dL_law_74 : decode cL_law 74 = .ok (.if_icmp .ge 18, 3) := by decide +kernel
theorem dL_law_77 : decode cL_law 77 = .ok (.iload 8, 2) := by decide +kernel
theorem dL_law_79 : decode cL_law 79 = .ok (.aload 6, 2) := by decide +kernel
theorem dL_law_81 : decode cL_law 81 = .ok (.aload 7, 2) := by decide +kernel
theorem dL_law_83 : decode cL_law 83 = .ok (.invokestatic 108, 3) := by decide +kernel
theorem dL_law_86 : decode cL_law 86 = .ok (.iinc 8 1, 3) := by decide +kernel
theorem dL_law_89 : decode cL_law 89 = .ok (.goto (-18), 3) := by decide +kernel
theorem dL_law_92 : decode cL_law 92 = .ok (.aload 6, 2) := by decide +kernel
theorem dL_law_94 : decode cL_law 94 = .ok (.iconst 0, 1) := by decide +kernel
theorem dL_law_95 : decode cL_law 95 = .ok (.iconst 1, 1) := by decide +kernel
theorem dL_law_96 : decode cL_law 96 = .ok (.iastore, 1) := by decide +kernel
theorem dL_law_97 : decode cL_law 97 = .ok (.aload 6, 2) := by decide +kernel
theorem dL_law_99 : decode cL_law 99 = .ok (.bipush 6, 2) := by decide +kernel
theorem dL_law_101 : decode cL_law 101 = .ok (.iconst 1, 1) := by decide +kernel
theorem dL_law_102 : decode cL_law 102 = .ok (.iastore, 1) := by decide +kernel
theorem dL_law_103 : decode cL_law 103 = .ok (.aload_n 1, 1) := by decide +kernel
theorem dL_law_104 : decode cL_law 104 = .ok (.aload_n 2, 1) := by decide +kernel
theorem dL_law_105 : decode cL_law 105 = .ok (.aload_n 3, 1) := by decide +kernel
theorem dL_law_106 : decode cL_law 106 = .ok (.aload 4, 2) := by decide +kernel
theorem dL_law_108 : decode cL_law 108 = .ok (.aload 5, 2) := by decide +kernel
theorem dL_law_110 : decode cL_law 110 = .ok (.aload 6, 2) := by decide +kernel
theorem dL_law_112 : decode cL_law 112 = .ok (.aload 7, 2) := by decide +kernel
theorem dL_law_114 : decode cL_law 114 = .ok (.invokestatic 222, 3) := by decide +kernel
theorem dL_law_117 : decode cL_law 117 = .ok (.ifCond .eq 12, 3) := by decide +kernel
theorem dL_law_120 : decode cL_law 120 = .ok (.aload_n 1, 1) := by decide +kernel
theorem dL_law_121 : decode cL_law 121 = .ok (.invokestatic 226, 3) := by decide +kernel
theorem dL_law_124 : decode cL_law 124 = .ok (.bipush (-33), 2) := by decide +kernel
theorem dL_law_126 : decode cL_law 126 = .ok (.if_icmp .eq 5, 3) := by decide +kernel
theorem dL_law_129 : decode cL_law 129 = .ok (.iconst 0, 1) := by decide +kernel
theorem dL_law_130 : decode cL_law 130 = .ok (.ireturn, 1) := by decide +kernel
theorem dL_law_131 : decode cL_law 131 = .ok (.iconst 0, 1) := by decide +kernel
theorem dL_law_132 : decode cL_law 132 = .ok (.istore 8, 2) := by decide +kernel
theorem dL_law_134 : decode cL_law 134 = .ok (.iload 8, 2) := by decide +kernel
theorem dL_law_136 : decode cL_law 136 = .ok (.bipush 44, 2) := by decide +kernel
theorem dL_law_138 : decode cL_law 138 = .ok (.if_icmp .ge 173, 3) := by decide +kernel
theorem dL_law_141 : decode cL_law 141 = .ok (.aload_n 0, 1) := by decide +kernel
theorem dL_law_142 : decode cL_law 142 = .ok (.iconst 2, 1) := by decide +kernel
theorem dL_law_143 : decode cL_law 143 = .ok (.iload 8, 2) := by decide +kernel
theorem dL_law_145 : decode cL_law 145 = .ok (.imul, 1) := by decide +kernel
theorem dL_law_146 : decode cL_law 146 = .ok (.invokestatic 228, 3) := by decide +kernel
theorem dL_law_149 : decode cL_law 149 = .ok (.istore 9, 2) := by decide +kernel
theorem dL_law_151 : decode cL_law 151 = .ok (.aload_n 0, 1) := by decide +kernel
theorem dL_law_152 : decode cL_law 152 = .ok (.iconst 2, 1) := by decide +kernel
theorem dL_law_153 : decode cL_law 153 = .ok (.iload 8, 2) := by decide +kernel
theorem dL_law_155 : decode cL_law 155 = .ok (.imul, 1) := by decide +kernel
theorem dL_law_156 : decode cL_law 156 = .ok (.iconst 1, 1) := by decide +kernel
theorem dL_law_157 : decode cL_law 157 = .ok (.iadd, 1) := by decide +kernel
theorem dL_law_158 : decode cL_law 158 = .ok (.invokestatic 228, 3) := by decide +kernel
theorem dL_law_161 : decode cL_law 161 = .ok (.istore 10, 2) := by decide +kernel
theorem dL_law_163 : decode cL_law 163 = .ok (.iload 8, 2) := by decide +kernel
theorem dL_law_165 : decode cL_law 165 = .ok (.iconst 2, 1) := by decide +kernel
theorem dL_law_166 : decode cL_law 166 = .ok (.if_icmp .ge 7, 3) := by decide +kernel
theorem dL_law_169 : decode cL_law 169 = .ok (.iconst 0, 1) := by decide +kernel
theorem dL_law_170 : decode cL_law 170 = .ok (.goto 13, 3) := by decide +kernel
theorem dL_law_173 : decode cL_law 173 = .ok (.iload 9, 2) := by decide +kernel
theorem dL_law_175 : decode cL_law 175 = .ok (.bipush 12, 2) := by decide +kernel
theorem dL_law_177 : decode cL_law 177 = .ok (.ishr, 1) := by decide +kernel
theorem dL_law_178 : decode cL_law 178 = .ok (.bipush 9, 2) := by decide +kernel
theorem dL_law_180 : decode cL_law 180 = .ok (.invokestatic 102, 3) := by decide +kernel
theorem dL_law_183 : decode cL_law 183 = .ok (.istore 11, 2) := by decide +kernel
theorem dL_law_185 : decode cL_law 185 = .ok (.iload 8, 2) := by decide +kernel
theorem dL_law_187 : decode cL_law 187 = .ok (.iconst 2, 1) := by decide +kernel
theorem dL_law_188 : decode cL_law 188 = .ok (.if_icmp .ge 22, 3) := by decide +kernel
theorem dL_law_191 : decode cL_law 191 = .ok (.aload_n 1, 1) := by decide +kernel
theorem dL_law_192 : decode cL_law 192 = .ok (.iconst 0, 1) := by decide +kernel
theorem dL_law_193 : decode cL_law 193 = .ok (.iload 8, 2) := by decide +kernel
theorem dL_law_195 : decode cL_law 195 = .ok (.aload_n 2, 1) := by decide +kernel
theorem dL_law_196 : decode cL_law 196 = .ok (.aload 4, 2) := by decide +kernel
theorem dL_law_198 : decode cL_law 198 = .ok (.aload 5, 2) := by decide +kernel
theorem dL_law_200 : decode cL_law 200 = .ok (.aload 6, 2) := by decide +kernel
theorem dL_law_202 : decode cL_law 202 = .ok (.aload 7, 2) := by decide +kernel
theorem dL_law_204 : decode cL_law 204 = .ok (.invokestatic 232, 3) := by decide +kernel
theorem dL_law_207 : decode cL_law 207 = .ok (.goto 72, 3) := by decide +kernel
theorem dL_law_210 : decode cL_law 210 = .ok (.iload 11, 2) := by decide +kernel
theorem dL_law_212 : decode cL_law 212 = .ok (.iconst 2, 1) := by decide +kernel
theorem dL_law_213 : decode cL_law 213 = .ok (.if_icmp .ge 23, 3) := by decide +kernel
theorem dL_law_216 : decode cL_law 216 = .ok (.aload_n 1, 1) := by decide +kernel
theorem dL_law_217 : decode cL_law 217 = .ok (.iload 9, 2) := by decide +kernel
theorem dL_law_219 : decode cL_law 219 = .ok (.iload 10, 2) := by decide +kernel
theorem dL_law_221 : decode cL_law 221 = .ok (.aload_n 2, 1) := by decide +kernel
theorem dL_law_222 : decode cL_law 222 = .ok (.aload 4, 2) := by decide +kernel
theorem dL_law_224 : decode cL_law 224 = .ok (.aload 5, 2) := by decide +kernel
theorem dL_law_226 : decode cL_law 226 = .ok (.aload 6, 2) := by decide +kernel
theorem dL_law_228 : decode cL_law 228 = .ok (.aload 7, 2) := by decide +kernel
theorem dL_law_230 : decode cL_law 230 = .ok (.invokestatic 232, 3) := by decide +kernel
theorem dL_law_233 : decode cL_law 233 = .ok (.goto 46, 3) := by decide +kernel
theorem dL_law_236 : decode cL_law 236 = .ok (.iload 11, 2) := by decide +kernel
theorem dL_law_238 : decode cL_law 238 = .ok (.iconst 5, 1) := by decide +kernel
theorem dL_law_239 : decode cL_law 239 = .ok (.if_icmp .ge 22, 3) := by decide +kernel
theorem dL_law_242 : decode cL_law 242 = .ok (.aload_n 1, 1) := by decide +kernel
theorem dL_law_243 : decode cL_law 243 = .ok (.iload 9, 2) := by decide +kernel
theorem dL_law_245 : decode cL_law 245 = .ok (.iload 10, 2) := by decide +kernel
theorem dL_law_247 : decode cL_law 247 = .ok (.aload_n 2, 1) := by decide +kernel
theorem dL_law_248 : decode cL_law 248 = .ok (.aload_n 3, 1) := by decide +kernel
theorem dL_law_249 : decode cL_law 249 = .ok (.aload 4, 2) := by decide +kernel
theorem dL_law_251 : decode cL_law 251 = .ok (.aload 6, 2) := by decide +kernel
theorem dL_law_253 : decode cL_law 253 = .ok (.aload 7, 2) := by decide +kernel
theorem dL_law_255 : decode cL_law 255 = .ok (.invokestatic 236, 3) := by decide +kernel
theorem dL_law_258 : decode cL_law 258 = .ok (.goto 21, 3) := by decide +kernel
theorem dL_law_261 : decode cL_law 261 = .ok (.aload_n 1, 1) := by decide +kernel
theorem dL_law_262 : decode cL_law 262 = .ok (.iload 9, 2) := by decide +kernel
theorem dL_law_264 : decode cL_law 264 = .ok (.iload 10, 2) := by decide +kernel
theorem dL_law_266 : decode cL_law 266 = .ok (.aload_n 2, 1) := by decide +kernel
theorem dL_law_267 : decode cL_law 267 = .ok (.aload_n 3, 1) := by decide +kernel
theorem dL_law_268 : decode cL_law 268 = .ok (.aload 4, 2) := by decide +kernel
theorem dL_law_270 : decode cL_law 270 = .ok (.aload 5, 2) := by decide +kernel
theorem dL_law_272 : decode cL_law 272 = .ok (.aload 6, 2) := by decide +kernel
theorem dL_law_274 : decode cL_law 274 = .ok (.aload 7, 2) := by decide +kernel
theorem dL_law_276 : decode cL_law 276 = .ok (.invokestatic 239, 3) := by decide +kernel
theorem dL_law_279 : decode cL_law 279 = .ok (.istore 12, 2) := by decide +kernel
theorem dL_law_281 : decode cL_law 281 = .ok (.iload 12, 2) := by decide +kernel
theorem dL_law_283 : decode cL_law 283 = .ok (.ifCond .eq 20, 3) := by decide +kernel
theorem dL_law_286 : decode cL_law 286 = .ok (.aload_n 1, 1) := by decide +kernel
theorem dL_law_287 : decode cL_law 287 = .ok (.aload_n 2, 1) := by decide +kernel
theorem dL_law_288 : decode cL_law 288 = .ok (.aload_n 3, 1) := by decide +kernel
theorem dL_law_289 : decode cL_law 289 = .ok (.aload 4, 2) := by decide +kernel
theorem dL_law_291 : decode cL_law 291 = .ok (.aload 5, 2) := by decide +kernel
theorem dL_law_293 : decode cL_law 293 = .ok (.aload 6, 2) := by decide +kernel
theorem dL_law_295 : decode cL_law 295 = .ok (.aload 7, 2) := by decide +kernel
theorem dL_law_297 : decode cL_law 297 = .ok (.invokestatic 222, 3) := by decide +kernel
theorem dL_law_300 : decode cL_law 300 = .ok (.ifCond .ne 5, 3) := by decide +kernel
theorem dL_law_303 : decode cL_law 303 = .ok (.iconst 0, 1) := by decide +kernel
theorem dL_law_304 : decode cL_law 304 = .ok (.ireturn, 1) := by decide +kernel
theorem dL_law_305 : decode cL_law 305 = .ok (.iinc 8 1, 3) := by decide +kernel
theorem dL_law_308 : decode cL_law 308 = .ok (.goto (-174), 3) := by decide +kernel
theorem dL_law_311 : decode cL_law 311 = .ok (.aload_n 1, 1) := by decide +kernel
theorem dL_law_312 : decode cL_law 312 = .ok (.bipush 15, 2) := by decide +kernel
theorem dL_law_314 : decode cL_law 314 = .ok (.invokevirtual 191, 3) := by decide +kernel
theorem dL_law_317 : decode cL_law 317 = .ok (.bipush 6, 2) := by decide +kernel
theorem dL_law_319 : decode cL_law 319 = .ok (.if_icmp .gt 16, 3) := by decide +kernel
theorem dL_law_322 : decode cL_law 322 = .ok (.aload_n 1, 1) := by decide +kernel
theorem dL_law_323 : decode cL_law 323 = .ok (.bipush 15, 2) := by decide +kernel
theorem dL_law_325 : decode cL_law 325 = .ok (.invokevirtual 191, 3) := by decide +kernel
theorem dL_law_328 : decode cL_law 328 = .ok (.ifCond .le 7, 3) := by decide +kernel
theorem dL_law_331 : decode cL_law 331 = .ok (.iconst 1, 1) := by decide +kernel
theorem dL_law_332 : decode cL_law 332 = .ok (.goto 4, 3) := by decide +kernel
theorem dL_law_335 : decode cL_law 335 = .ok (.iconst 0, 1) := by decide +kernel
theorem dL_law_336 : decode cL_law 336 = .ok (.ireturn, 1) := by decide +kernel
