theorem dX4_mend_26 : decode cX4_mend 26 = .ok (.ireturn, 1) := by decide +kernel
theorem dX4_mend_27 : decode cX4_mend 27 = .ok (.aload_n 0, 1) := by decide +kernel
theorem dX4_mend_28 : decode cX4_mend 28 = .ok (.getfield 10, 3) := by decide +kernel
theorem dX4_mend_31 : decode cX4_mend 31 = .ok (.iload_n 1, 1) := by decide +kernel
theorem dX4_mend_32 : decode cX4_mend 32 = .ok (.invokevirtual 86, 3) := by decide +kernel
theorem dX4_mend_35 : decode cX4_mend 35 = .ok (.aload_n 0, 1) := by decide +kernel
theorem dX4_mend_36 : decode cX4_mend 36 = .ok (.getfield 10, 3) := by decide +kernel
theorem dX4_mend_39 : decode cX4_mend 39 = .ok (.iload_n 1, 1) := by decide +kernel
theorem dX4_mend_40 : decode cX4_mend 40 = .ok (.invokevirtual 89, 3) := by decide +kernel
theorem dX4_mend_43 : decode cX4_mend 43 = .ok (.ixor, 1) := by decide +kernel
theorem dX4_mend_44 : decode cX4_mend 44 = .ok (.invokestatic 99, 3) := by decide +kernel
theorem dX4_mend_47 : decode cX4_mend 47 = .ok (.istore_n 2, 1) := by decide +kernel
theorem dX4_mend_48 : decode cX4_mend 48 = .ok (.aload_n 0, 1) := by decide +kernel
theorem dX4_mend_49 : decode cX4_mend 49 = .ok (.getfield 26, 3) := by decide +kernel
theorem dX4_mend_52 : decode cX4_mend 52 = .ok (.aload_n 0, 1) := by decide +kernel
theorem dX4_mend_53 : decode cX4_mend 53 = .ok (.getfield 10, 3) := by decide +kernel
theorem dX4_mend_56 : decode cX4_mend 56 = .ok (.invokevirtual 41, 3) := by decide +kernel
theorem dX4_mend_59 : decode cX4_mend 59 = .ok (.aload_n 0, 1) := by decide +kernel
theorem dX4_mend_60 : decode cX4_mend 60 = .ok (.getfield 10, 3) := by decide +kernel
theorem dX4_mend_63 : decode cX4_mend 63 = .ok (.iload_n 1, 1) := by decide +kernel
theorem dX4_mend_64 : decode cX4_mend 64 = .ok (.invokevirtual 114, 3) := by decide +kernel
theorem dX4_mend_67 : decode cX4_mend 67 = .ok (.iload_n 2, 1) := by decide +kernel
theorem dX4_mend_68 : decode cX4_mend 68 = .ok (.ireturn, 1) := by decide +kernel
theorem dX4_turn_0 : decode cX4_turn 0 = .ok (.aload_n 0, 1) := by decide +kernel
theorem dX4_turn_1 : decode cX4_turn 1 = .ok (.getfield 10, 3) := by decide +kernel
theorem dX4_turn_4 : decode cX4_turn 4 = .ok (.iload_n 1, 1) := by decide +kernel
theorem dX4_turn_5 : decode cX4_turn 5 = .ok (.invokevirtual 83, 3) := by decide +kernel
theorem dX4_turn_8 : decode cX4_turn 8 = .ok (.ifCond .ne 5, 3) := by decide +kernel
theorem dX4_turn_11 : decode cX4_turn 11 = .ok (.iconst (-1), 1) := by decide +kernel
theorem dX4_turn_12 : decode cX4_turn 12 = .ok (.ireturn, 1) := by decide +kernel
theorem dX4_turn_13 : decode cX4_turn 13 = .ok (.iload_n 2, 1) := by decide +kernel
theorem dX4_turn_14 : decode cX4_turn 14 = .ok (.invokestatic 118, 3) := by decide +kernel
theorem dX4_turn_17 : decode cX4_turn 17 = .ok (.ifCond .ne 6, 3) := by decide +kernel
theorem dX4_turn_20 : decode cX4_turn 20 = .ok (.bipush (-2), 2) := by decide +kernel
theorem dX4_turn_22 : decode cX4_turn 22 = .ok (.ireturn, 1) := by decide +kernel
theorem dX4_turn_23 : decode cX4_turn 23 = .ok (.aload_n 0, 1) := by decide +kernel
theorem dX4_turn_24 : decode cX4_turn 24 = .ok (.getfield 10, 3) := by decide +kernel
theorem dX4_turn_27 : decode cX4_turn 27 = .ok (.getfield 45, 3) := by decide +kernel
theorem dX4_turn_30 : decode cX4_turn 30 = .ok (.iload_n 2, 1) := by decide +kernel
theorem dX4_turn_31 : decode cX4_turn 31 = .ok (.invokevirtual 121, 3) := by decide +kernel
theorem dX4_turn_34 : decode cX4_turn 34 = .ok (.ifCond .eq 6, 3) := by decide +kernel
theorem dX4_turn_37 : decode cX4_turn 37 = .ok (.bipush (-5), 2) := by decide +kernel
theorem dX4_turn_39 : decode cX4_turn 39 = .ok (.ireturn, 1) := by decide +kernel
theorem dX4_turn_40 : decode cX4_turn 40 = .ok (.aload_n 0, 1) := by decide +kernel
theorem dX4_turn_41 : decode cX4_turn 41 = .ok (.getfield 26, 3) := by decide +kernel
theorem dX4_turn_44 : decode cX4_turn 44 = .ok (.aload_n 0, 1) := by decide +kernel
theorem dX4_turn_45 : decode cX4_turn 45 = .ok (.getfield 10, 3) := by decide +kernel
theorem dX4_turn_48 : decode cX4_turn 48 = .ok (.invokevirtual 41, 3) := by decide +kernel
theorem dX4_turn_51 : decode cX4_turn 51 = .ok (.aload_n 0, 1) := by decide +kernel
theorem dX4_turn_52 : decode cX4_turn 52 = .ok (.getfield 10, 3) := by decide +kernel
theorem dX4_turn_55 : decode cX4_turn 55 = .ok (.iload_n 1, 1) := by decide +kernel
theorem dX4_turn_56 : decode cX4_turn 56 = .ok (.iload_n 2, 1) := by decide +kernel
theorem dX4_turn_57 : decode cX4_turn 57 = .ok (.invokevirtual 124, 3) := by decide +kernel
theorem dX4_turn_60 : decode cX4_turn 60 = .ok (.aload_n 0, 1) := by decide +kernel
theorem dX4_turn_61 : decode cX4_turn 61 = .ok (.getfield 10, 3) := by decide +kernel
theorem dX4_turn_64 : decode cX4_turn 64 = .ok (.iload_n 1, 1) := by decide +kernel
theorem dX4_turn_65 : decode cX4_turn 65 = .ok (.invokevirtual 86, 3) := by decide +kernel
theorem dX4_turn_68 : decode cX4_turn 68 = .ok (.ireturn, 1) := by decide +kernel
theorem dX4_stack_0 : decode cX4_stack 0 = .ok (.aload_n 0, 1) := by decide +kernel
theorem dX4_stack_1 : decode cX4_stack 1 = .ok (.getfield 10, 3) := by decide +kernel
theorem dX4_stack_4 : decode cX4_stack 4 = .ok (.iload_n 1, 1) := by decide +kernel
theorem dX4_stack_5 : decode cX4_stack 5 = .ok (.invokevirtual 83, 3) := by decide +kernel
theorem dX4_stack_8 : decode cX4_stack 8 = .ok (.ifCond .ne 5, 3) := by decide +kernel
theorem dX4_stack_11 : decode cX4_stack 11 = .ok (.iconst (-1), 1) := by decide +kernel
theorem dX4_stack_12 : decode cX4_stack 12 = .ok (.ireturn, 1) := by decide +kernel
theorem dX4_stack_13 : decode cX4_stack 13 = .ok (.aload_n 0, 1) := by decide +kernel
theorem dX4_stack_14 : decode cX4_stack 14 = .ok (.getfield 10, 3) := by decide +kernel
theorem dX4_stack_17 : decode cX4_stack 17 = .ok (.invokevirtual 127, 3) := by decide +kernel
theorem dX4_stack_20 : decode cX4_stack 20 = .ok (.iload_n 1, 1) := by decide +kernel
theorem dX4_stack_21 : decode cX4_stack 21 = .ok (.invokestatic 92, 3) := by decide +kernel
theorem dX4_stack_24 : decode cX4_stack 24 = .ok (.iload_n 2, 1) := by decide +kernel
theorem dX4_stack_25 : decode cX4_stack 25 = .ok (.if_icmp .ne 6, 3) := by decide +kernel
theorem dX4_stack_28 : decode cX4_stack 28 = .ok (.bipush (-5), 2) := by decide +kernel
theorem dX4_stack_30 : decode cX4_stack 30 = .ok (.ireturn, 1) := by decide +kernel
theorem dX4_stack_31 : decode cX4_stack 31 = .ok (.aload_n 0, 1) := by decide +kernel
theorem dX4_stack_32 : decode cX4_stack 32 = .ok (.getfield 26, 3) := by decide +kernel
theorem dX4_stack_35 : decode cX4_stack 35 = .ok (.aload_n 0, 1) := by decide +kernel
theorem dX4_stack_36 : decode cX4_stack 36 = .ok (.getfield 10, 3) := by decide +kernel
theorem dX4_stack_39 : decode cX4_stack 39 = .ok (.invokevirtual 41, 3) := by decide +kernel
theorem dX4_stack_42 : decode cX4_stack 42 = .ok (.aload_n 0, 1) := by decide +kernel
theorem dX4_stack_43 : decode cX4_stack 43 = .ok (.getfield 10, 3) := by decide +kernel
theorem dX4_stack_46 : decode cX4_stack 46 = .ok (.iload_n 1, 1) := by decide +kernel
theorem dX4_stack_47 : decode cX4_stack 47 = .ok (.invokevirtual 130, 3) := by decide +kernel
theorem dX4_stack_50 : decode cX4_stack 50 = .ok (.aload_n 0, 1) := by decide +kernel
theorem dX4_stack_51 : decode cX4_stack 51 = .ok (.getfield 10, 3) := by decide +kernel
theorem dX4_stack_54 : decode cX4_stack 54 = .ok (.invokevirtual 127, 3) := by decide +kernel
theorem dX4_stack_57 : decode cX4_stack 57 = .ok (.invokestatic 99, 3) := by decide +kernel
theorem dX4_stack_60 : decode cX4_stack 60 = .ok (.ireturn, 1) := by decide +kernel
theorem dX4_turnStack_0 : decode cX4_turnStack 0 = .ok (.iload_n 1, 1) := by decide +kernel
theorem dX4_turnStack_1 : decode cX4_turnStack 1 = .ok (.invokestatic 118, 3) := by decide +kernel
theorem dX4_turnStack_4 : decode cX4_turnStack 4 = .ok (.ifCond .ne 6, 3) := by decide +kernel
theorem dX4_turnStack_7 : decode cX4_turnStack 7 = .ok (.bipush (-2), 2) := by decide +kernel
theorem dX4_turnStack_9 : decode cX4_turnStack 9 = .ok (.ireturn, 1) := by decide +kernel
theorem dX4_turnStack_10 : decode cX4_turnStack 10 = .ok (.aload_n 0, 1) := by decide +kernel
theorem dX4_turnStack_11 : decode cX4_turnStack 11 = .ok (.getfield 10, 3) := by decide +kernel
theorem dX4_turnStack_14 : decode cX4_turnStack 14 = .ok (.invokevirtual 127, 3) := by decide +kernel
theorem dX4_turnStack_17 : decode cX4_turnStack 17 = .ok (.ifCond .eq 17, 3) := by decide +kernel
theorem dX4_turnStack_20 : decode cX4_turnStack 20 = .ok (.aload_n 0, 1) := by decide +kernel
theorem dX4_turnStack_21 : decode cX4_turnStack 21 = .ok (.getfield 10, 3) := by decide +kernel
theorem dX4_turnStack_24 : decode cX4_turnStack 24 = .ok (.getfield 45, 3) := by decide +kernel
theorem dX4_turnStack_27 : decode cX4_turnStack 27 = .ok (.iload_n 1, 1) := by decide +kernel
theorem dX4_turnStack_28 : decode cX4_turnStack 28 = .ok (.invokevirtual 121, 3) := by decide +kernel
theorem dX4_turnStack_31 : decode cX4_turnStack 31 = .ok (.ifCond .eq 6, 3) := by decide +kernel
theorem dX4_turnStack_34 : decode cX4_turnStack 34 = .ok (.bipush (-5), 2) := by decide +kernel
theorem dX4_turnStack_36 : decode cX4_turnStack 36 = .ok (.ireturn, 1) := by decide +kernel
theorem dX4_turnStack_37 : decode cX4_turnStack 37 = .ok (.aload_n 0, 1) := by decide +kernel
theorem dX4_turnStack_38 : decode cX4_turnStack 38 = .ok (.getfield 26, 3) := by decide +kernel
theorem dX4_turnStack_41 : decode cX4_turnStack 41 = .ok (.aload_n 0, 1) := by decide +kernel
theorem dX4_turnStack_42 : decode cX4_turnStack 42 = .ok (.getfield 10, 3) := by decide +kernel
theorem dX4_turnStack_45 : decode cX4_turnStack 45 = .ok (.invokevirtual 41, 3) := by decide +kernel
theorem dX4_turnStack_48 : decode cX4_turnStack 48 = .ok (.aload_n 0, 1) := by decide +kernel
theorem dX4_turnStack_49 : decode cX4_turnStack 49 = .ok (.getfield 10, 3) := by decide +kernel
theorem dX4_turnStack_52 : decode cX4_turnStack 52 = .ok (.iload_n 1, 1) := by decide +kernel
theorem dX4_turnStack_53 : decode cX4_turnStack 53 = .ok (.invokevirtual 133, 3) := by decide +kernel
theorem dX4_turnStack_56 : decode cX4_turnStack 56 = .ok (.aload_n 0, 1) := by decide +kernel
theorem dX4_turnStack_57 : decode cX4_turnStack 57 = .ok (.getfield 10, 3) := by decide +kernel
theorem dX4_turnStack_60 : decode cX4_turnStack 60 = .ok (.invokevirtual 127, 3) := by decide +kernel
theorem dX4_turnStack_63 : decode cX4_turnStack 63 = .ok (.invokestatic 99, 3) := by decide +kernel
theorem dX4_turnStack_66 : decode cX4_turnStack 66 = .ok (.ireturn, 1) := by decide +kernel
theorem dX4_type_0 : decode cX4_type 0 = .ok (.aload_n 0, 1) := by decide +kernel
theorem dX4_type_1 : decode cX4_type 1 = .ok (.getfield 33, 3) := by decide +kernel
theorem dX4_type_4 : decode cX4_type 4 = .ok (.invokevirtual 136, 3) := by decide +kernel
theorem dX4_type_7 : decode cX4_type 7 = .ok (.bipush 80, 2) := by decide +kernel
theorem dX4_type_9 : decode cX4_type 9 = .ok (.if_icmp .lt 6, 3) := by decide +kernel
theorem dX4_type_12 : decode cX4_type 12 = .ok (.bipush (-3), 2) := by decide +kernel
theorem dX4_type_14 : decode cX4_type 14 = .ok (.ireturn, 1) := by decide +kernel
theorem dX4_type_15 : decode cX4_type 15 = .ok (.aload_n 0, 1) := by decide +kernel
theorem dX4_type_16 : decode cX4_type 16 = .ok (.getfield 33, 3) := by decide +kernel
theorem dX4_type_19 : decode cX4_type 19 = .ok (.iload_n 1, 1) := by decide +kernel
theorem dX4_type_20 : decode cX4_type 20 = .ok (.invokevirtual 139, 3) := by decide +kernel
theorem dX4_type_23 : decode cX4_type 23 = .ok (.aload_n 0, 1) := by decide +kernel
theorem dX4_type_24 : decode cX4_type 24 = .ok (.getfield 33, 3) := by decide +kernel
theorem dX4_type_27 : decode cX4_type 27 = .ok (.invokevirtual 136, 3) := by decide +kernel
theorem dX4_type_30 : decode cX4_type 30 = .ok (.ireturn, 1) := by decide +kernel
theorem dX4_clearText_0 : decode cX4_clearText 0 = .ok (.aload_n 0, 1) := by decide +kernel
theorem dX4_clearText_1 : decode cX4_clearText 1 = .ok (.getfield 33, 3) := by decide +kernel
theorem dX4_clearText_4 : decode cX4_clearText 4 = .ok (.invokevirtual 136, 3) := by decide +kernel
theorem dX4_clearText_7 : decode cX4_clearText 7 = .ok (.istore_n 1, 1) := by decide +kernel
theorem dX4_clearText_8 : decode cX4_clearText 8 = .ok (.aload_n 0, 1) := by decide +kernel
theorem dX4_clearText_9 : decode cX4_clearText 9 = .ok (.getfield 33, 3) := by decide +kernel
theorem dX4_clearText_12 : decode cX4_clearText 12 = .ok (.invokevirtual 143, 3) := by decide +kernel
theorem dX4_clearText_15 : decode cX4_clearText 15 = .ok (.iload_n 1, 1) := by decide +kernel
theorem dX4_clearText_16 : decode cX4_clearText 16 = .ok (.ireturn, 1) := by decide +kernel
theorem dX4_fault_0 : decode cX4_fault 0 = .ok (.iload_n 1, 1) := by decide +kernel
theorem dX4_fault_1 : decode cX4_fault 1 = .ok (.ifCond .lt 8, 3) := by decide +kernel
theorem dX4_fault_4 : decode cX4_fault 4 = .ok (.iload_n 1, 1) := by decide +kernel
theorem dX4_fault_5 : decode cX4_fault 5 = .ok (.iconst 1, 1) := by decide +kernel
theorem dX4_fault_6 : decode cX4_fault 6 = .ok (.if_icmp .le 6, 3) := by decide +kernel
theorem dX4_fault_9 : decode cX4_fault 9 = .ok (.bipush (-2), 2) := by decide +kernel
theorem dX4_fault_11 : decode cX4_fault 11 = .ok (.ireturn, 1) := by decide +kernel
theorem dX4_fault_12 : decode cX4_fault 12 = .ok (.aload_n 0, 1) := by decide +kernel
theorem dX4_fault_13 : decode cX4_fault 13 = .ok (.getfield 33, 3) := by decide +kernel
theorem dX4_fault_16 : decode cX4_fault 16 = .ok (.invokevirtual 62, 3) := by decide +kernel
theorem dX4_fault_19 : decode cX4_fault 19 = .ok (.aload_n 0, 1) := by decide +kernel
theorem dX4_fault_20 : decode cX4_fault 20 = .ok (.getfield 33, 3) := by decide +kernel
theorem dX4_fault_23 : decode cX4_fault 23 = .ok (.invokevirtual 65, 3) := by decide +kernel
theorem dX4_fault_26 : decode cX4_fault 26 = .ok (.ifCond .ne 6, 3) := by decide +kernel
theorem dX4_fault_29 : decode cX4_fault 29 = .ok (.bipush (-5), 2) := by decide +kernel
theorem dX4_fault_31 : decode cX4_fault 31 = .ok (.ireturn, 1) := by decide +kernel
theorem dX4_fault_32 : decode cX4_fault 32 = .ok (.iload_n 1, 1) := by decide +kernel
theorem dX4_fault_33 : decode cX4_fault 33 = .ok (.ifCond .ne 13, 3) := by decide +kernel
theorem dX4_fault_36 : decode cX4_fault 36 = .ok (.aload_n 0, 1) := by decide +kernel
theorem dX4_fault_37 : decode cX4_fault 37 = .ok (.getfield 33, 3) := by decide +kernel
theorem dX4_fault_40 : decode cX4_fault 40 = .ok (.invokevirtual 68, 3) := by decide +kernel
theorem dX4_fault_43 : decode cX4_fault 43 = .ok (.goto 10, 3) := by decide +kernel
theorem dX4_fault_46 : decode cX4_fault 46 = .ok (.aload_n 0, 1) := by decide +kernel
theorem dX4_fault_47 : decode cX4_fault 47 = .ok (.getfield 33, 3) := by decide +kernel
theorem dX4_fault_50 : decode cX4_fault 50 = .ok (.invokevirtual 65, 3) := by decide +kernel
theorem dX4_fault_53 : decode cX4_fault 53 = .ok (.ireturn, 1) := by decide +kernel
theorem dX4_undo_0 : decode cX4_undo 0 = .ok (.aload_n 0, 1) := by decide +kernel
theorem dX4_undo_1 : decode cX4_undo 1 = .ok (.getfield 26, 3) := by decide +kernel
theorem dX4_undo_4 : decode cX4_undo 4 = .ok (.invokevirtual 146, 3) := by decide +kernel
theorem dX4_undo_7 : decode cX4_undo 7 = .ok (.ifCond .ne 6, 3) := by decide +kernel
theorem dX4_undo_10 : decode cX4_undo 10 = .ok (.bipush (-5), 2) := by decide +kernel
theorem dX4_undo_12 : decode cX4_undo 12 = .ok (.ireturn, 1) := by decide +kernel
theorem dX4_undo_13 : decode cX4_undo 13 = .ok (.aload_n 0, 1) := by decide +kernel
theorem dX4_undo_14 : decode cX4_undo 14 = .ok (.getfield 26, 3) := by decide +kernel
theorem dX4_undo_17 : decode cX4_undo 17 = .ok (.aload_n 0, 1) := by decide +kernel
theorem dX4_undo_18 : decode cX4_undo 18 = .ok (.getfield 10, 3) := by decide +kernel
theorem dX4_undo_21 : decode cX4_undo 21 = .ok (.invokevirtual 149, 3) := by decide +kernel
theorem dX4_undo_24 : decode cX4_undo 24 = .ok (.aload_n 0, 1) := by decide +kernel
theorem dX4_undo_25 : decode cX4_undo 25 = .ok (.getfield 26, 3) := by decide +kernel
theorem dX4_undo_28 : decode cX4_undo 28 = .ok (.invokevirtual 146, 3) := by decide +kernel
theorem dX4_undo_31 : decode cX4_undo 31 = .ok (.ireturn, 1) := by decide +kernel
theorem dX4_keep_0 : decode cX4_keep 0 = .ok (.aload_n 0, 1) := by decide +kernel
theorem dX4_keep_1 : decode cX4_keep 1 = .ok (.getfield 16, 3) := by decide +kernel
theorem dX4_keep_4 : decode cX4_keep 4 = .ok (.aload_n 0, 1) := by decide +kernel
theorem dX4_keep_5 : decode cX4_keep 5 = .ok (.getfield 10, 3) := by decide +kernel
theorem dX4_keep_8 : decode cX4_keep 8 = .ok (.invokevirtual 152, 3) := by decide +kernel
theorem dX4_keep_11 : decode cX4_keep 11 = .ok (.aload_n 0, 1) := by decide +kernel
theorem dX4_keep_12 : decode cX4_keep 12 = .ok (.iconst 1, 1) := by decide +kernel
theorem dX4_keep_13 : decode cX4_keep 13 = .ok (.putfield 19, 3) := by decide +kernel
theorem dX4_keep_16 : decode cX4_keep 16 = .ok (.aload_n 0, 1) := by decide +kernel
theorem dX4_keep_17 : decode cX4_keep 17 = .ok (.getfield 10, 3) := by decide +kernel
theorem dX4_keep_20 : decode cX4_keep 20 = .ok (.invokevirtual 76, 3) := by decide +kernel
theorem dX4_keep_23 : decode cX4_keep 23 = .ok (.ireturn, 1) := by decide +kernel
theorem dX4_restore_0 : decode cX4_restore 0 = .ok (.aload_n 0, 1) := by decide +kernel
theorem dX4_restore_1 : decode cX4_restore 1 = .ok (.getfield 19, 3) := by decide +kernel
theorem dX4_restore_4 : decode cX4_restore 4 = .ok (.ifCond .ne 6, 3) := by decide +kernel
theorem dX4_restore_7 : decode cX4_restore 7 = .ok (.bipush (-5), 2) := by decide +kernel
theorem dX4_restore_9 : decode cX4_restore 9 = .ok (.ireturn, 1) := by decide +kernel
theorem dX4_restore_10 : decode cX4_restore 10 = .ok (.aload_n 0, 1) := by decide +kernel
theorem dX4_restore_11 : decode cX4_restore 11 = .ok (.getfield 26, 3) := by decide +kernel
theorem dX4_restore_14 : decode cX4_restore 14 = .ok (.aload_n 0, 1) := by decide +kernel
theorem dX4_restore_15 : decode cX4_restore 15 = .ok (.getfield 10, 3) := by decide +kernel
theorem dX4_restore_18 : decode cX4_restore 18 = .ok (.invokevirtual 41, 3) := by decide +kernel
theorem dX4_restore_21 : decode cX4_restore 21 = .ok (.aload_n 0, 1) := by decide +kernel
theorem dX4_restore_22 : decode cX4_restore 22 = .ok (.getfield 10, 3) := by decide +kernel
theorem dX4_restore_25 : decode cX4_restore 25 = .ok (.aload_n 0, 1) := by decide +kernel
theorem dX4_restore_26 : decode cX4_restore 26 = .ok (.getfield 16, 3) := by decide +kernel
theorem dX4_restore_29 : decode cX4_restore 29 = .ok (.invokevirtual 152, 3) := by decide +kernel
theorem dX4_restore_32 : decode cX4_restore 32 = .ok (.aload_n 0, 1) := by decide +kernel
theorem dX4_restore_33 : decode cX4_restore 33 = .ok (.getfield 10, 3) := by decide +kernel
theorem dX4_restore_36 : decode cX4_restore 36 = .ok (.invokevirtual 76, 3) := by decide +kernel
theorem dX4_restore_39 : decode cX4_restore 39 = .ok (.ireturn, 1) := by decide +kernel
theorem dX4_place_0 : decode cX4_place 0 = .ok (.iload_n 1, 1) := by decide +kernel
theorem dX4_place_1 : decode cX4_place 1 = .ok (.invokestatic 37, 3) := by decide +kernel
theorem dX4_place_4 : decode cX4_place 4 = .ok (.ifCond .ne 5, 3) := by decide +kernel
theorem dX4_place_7 : decode cX4_place 7 = .ok (.iconst (-1), 1) := by decide +kernel
theorem dX4_place_8 : decode cX4_place 8 = .ok (.ireturn, 1) := by decide +kernel
theorem dX4_place_9 : decode cX4_place 9 = .ok (.iload_n 2, 1) := by decide +kernel
theorem dX4_place_10 : decode cX4_place 10 = .ok (.tableswitch 97 0 4 #[34, 46, 58, 73, 88], 34) := by decide +kernel
theorem dX4_place_44 : decode cX4_place 44 = .ok (.aload_n 0, 1) := by decide +kernel
theorem dX4_place_45 : decode cX4_place 45 = .ok (.getfield 10, 3) := by decide +kernel
theorem dX4_place_48 : decode cX4_place 48 = .ok (.getfield 45, 3) := by decide +kernel
theorem dX4_place_51 : decode cX4_place 51 = .ok (.iload_n 1, 1) := by decide +kernel
theorem dX4_place_52 : decode cX4_place 52 = .ok (.invokevirtual 155, 3) := by decide +kernel
theorem dX4_place_55 : decode cX4_place 55 = .ok (.ireturn, 1) := by decide +kernel
theorem dX4_place_56 : decode cX4_place 56 = .ok (.aload_n 0, 1) := by decide +kernel
theorem dX4_place_57 : decode cX4_place 57 = .ok (.getfield 10, 3) := by decide +kernel
theorem dX4_place_60 : decode cX4_place 60 = .ok (.getfield 45, 3) := by decide +kernel
theorem dX4_place_63 : decode cX4_place 63 = .ok (.iload_n 1, 1) := by decide +kernel
theorem dX4_place_64 : decode cX4_place 64 = .ok (.invokevirtual 158, 3) := by decide +kernel
theorem dX4_place_67 : decode cX4_place 67 = .ok (.ireturn, 1) := by decide +kernel
theorem dX4_place_68 : decode cX4_place 68 = .ok (.aload_n 0, 1) := by decide +kernel
theorem dX4_place_69 : decode cX4_place 69 = .ok (.getfield 10, 3) := by decide +kernel
theorem dX4_place_72 : decode cX4_place 72 = .ok (.getfield 45, 3) := by decide +kernel
theorem dX4_place_75 : decode cX4_place 75 = .ok (.iload_n 1, 1) := by decide +kernel
theorem dX4_place_76 : decode cX4_place 76 = .ok (.invokevirtual 161, 3) := by decide +kernel
theorem dX4_place_79 : decode cX4_place 79 = .ok (.invokestatic 99, 3) := by decide +kernel
theorem dX4_place_82 : decode cX4_place 82 = .ok (.ireturn, 1) := by decide +kernel
theorem dX4_place_83 : decode cX4_place 83 = .ok (.aload_n 0, 1) := by decide +kernel
theorem dX4_place_84 : decode cX4_place 84 = .ok (.getfield 10, 3) := by decide +kernel
theorem dX4_place_87 : decode cX4_place 87 = .ok (.getfield 45, 3) := by decide +kernel
theorem dX4_place_90 : decode cX4_place 90 = .ok (.iload_n 1, 1) := by decide +kernel
theorem dX4_place_91 : decode cX4_place 91 = .ok (.invokevirtual 161, 3) := by decide +kernel
theorem dX4_place_94 : decode cX4_place 94 = .ok (.invokestatic 164, 3) := by decide +kernel
theorem dX4_place_97 : decode cX4_place 97 = .ok (.ireturn, 1) := by decide +kernel
theorem dX4_place_98 : decode cX4_place 98 = .ok (.aload_n 0, 1) := by decide +kernel
theorem dX4_place_99 : decode cX4_place 99 = .ok (.getfield 10, 3) := by decide +kernel
theorem dX4_place_102 : decode cX4_place 102 = .ok (.iload_n 1, 1) := by decide +kernel
theorem dX4_place_103 : decode cX4_place 103 = .ok (.invokevirtual 167, 3) := by decide +kernel
theorem dX4_place_106 : decode cX4_place 106 = .ok (.ireturn, 1) := by decide +kernel
theorem dX4_place_107 : decode cX4_place 107 = .ok (.bipush (-2), 2) := by decide +kernel
theorem dX4_place_109 : decode cX4_place 109 = .ok (.ireturn, 1) := by decide +kernel
theorem dX4_move_0 : decode cX4_move 0 = .ok (.iload_n 1, 1) := by decide +kernel
theorem dX4_move_1 : decode cX4_move 1 = .ok (.tableswitch 93 0 4 #[35, 46, 57, 68, 79], 35) := by decide +kernel
theorem dX4_move_36 : decode cX4_move 36 = .ok (.aload_n 0, 1) := by decide +kernel
theorem dX4_move_37 : decode cX4_move 37 = .ok (.getfield 10, 3) := by decide +kernel
theorem dX4_move_40 : decode cX4_move 40 = .ok (.getfield 45, 3) := by decide +kernel
theorem dX4_move_43 : decode cX4_move 43 = .ok (.invokevirtual 55, 3) := by decide +kernel
theorem dX4_move_46 : decode cX4_move 46 = .ok (.ireturn, 1) := by decide +kernel
theorem dX4_move_47 : decode cX4_move 47 = .ok (.aload_n 0, 1) := by decide +kernel
theorem dX4_move_48 : decode cX4_move 48 = .ok (.getfield 10, 3) := by decide +kernel
theorem dX4_move_51 : decode cX4_move 51 = .ok (.getfield 45, 3) := by decide +kernel
theorem dX4_move_54 : decode cX4_move 54 = .ok (.invokevirtual 170, 3) := by decide +kernel
theorem dX4_move_57 : decode cX4_move 57 = .ok (.ireturn, 1) := by decide +kernel
theorem dX4_move_58 : decode cX4_move 58 = .ok (.aload_n 0, 1) := by decide +kernel
theorem dX4_move_59 : decode cX4_move 59 = .ok (.getfield 10, 3) := by decide +kernel
theorem dX4_move_62 : decode cX4_move 62 = .ok (.getfield 45, 3) := by decide +kernel
theorem dX4_move_65 : decode cX4_move 65 = .ok (.invokevirtual 173, 3) := by decide +kernel
theorem dX4_move_68 : decode cX4_move 68 = .ok (.ireturn, 1) := by decide +kernel
theorem dX4_move_69 : decode cX4_move 69 = .ok (.aload_n 0, 1) := by decide +kernel
theorem dX4_move_70 : decode cX4_move 70 = .ok (.getfield 10, 3) := by decide +kernel
theorem dX4_move_73 : decode cX4_move 73 = .ok (.getfield 45, 3) := by decide +kernel
theorem dX4_move_76 : decode cX4_move 76 = .ok (.invokevirtual 176, 3) := by decide +kernel
theorem dX4_move_79 : decode cX4_move 79 = .ok (.ireturn, 1) := by decide +kernel
theorem dX4_move_80 : decode cX4_move 80 = .ok (.aload_n 0, 1) := by decide +kernel
theorem dX4_move_81 : decode cX4_move 81 = .ok (.getfield 10, 3) := by decide +kernel
theorem dX4_move_84 : decode cX4_move 84 = .ok (.getfield 45, 3) := by decide +kernel
theorem dX4_move_87 : decode cX4_move 87 = .ok (.invokevirtual 179, 3) := by decide +kernel
theorem dX4_move_90 : decode cX4_move 90 = .ok (.invokestatic 110, 3) := by decide +kernel
theorem dX4_move_93 : decode cX4_move 93 = .ok (.ireturn, 1) := by decide +kernel
theorem dX4_move_94 : decode cX4_move 94 = .ok (.bipush (-2), 2) := by decide +kernel
theorem dX4_move_96 : decode cX4_move 96 = .ok (.ireturn, 1) := by decide +kernel
theorem dX4_power_0 : decode cX4_power 0 = .ok (.iload_n 1, 1) := by decide +kernel
theorem dX4_power_1 : decode cX4_power 1 = .ok (.invokestatic 37, 3) := by decide +kernel
theorem dX4_power_4 : decode cX4_power 4 = .ok (.ifCond .ne 5, 3) := by decide +kernel
theorem dX4_power_7 : decode cX4_power 7 = .ok (.iconst (-1), 1) := by decide +kernel
theorem dX4_power_8 : decode cX4_power 8 = .ok (.ireturn, 1) := by decide +kernel
theorem dX4_power_9 : decode cX4_power 9 = .ok (.iload_n 2, 1) := by decide +kernel
theorem dX4_power_10 : decode cX4_power 10 = .ok (.invokestatic 118, 3) := by decide +kernel
theorem dX4_power_13 : decode cX4_power 13 = .ok (.ifCond .ne 6, 3) := by decide +kernel
theorem dX4_power_16 : decode cX4_power 16 = .ok (.bipush (-2), 2) := by decide +kernel
theorem dX4_power_18 : decode cX4_power 18 = .ok (.ireturn, 1) := by decide +kernel
theorem dX4_power_19 : decode cX4_power 19 = .ok (.aload_n 0, 1) := by decide +kernel
theorem dX4_power_20 : decode cX4_power 20 = .ok (.getfield 10, 3) := by decide +kernel
theorem dX4_power_23 : decode cX4_power 23 = .ok (.getfield 45, 3) := by decide +kernel
theorem dX4_power_26 : decode cX4_power 26 = .ok (.iload_n 1, 1) := by decide +kernel
theorem dX4_power_27 : decode cX4_power 27 = .ok (.iload_n 2, 1) := by decide +kernel
theorem dX4_power_28 : decode cX4_power 28 = .ok (.invokevirtual 183, 3) := by decide +kernel
theorem dX4_power_31 : decode cX4_power 31 = .ok (.ireturn, 1) := by decide +kernel
theorem dX4_ticket_0 : decode cX4_ticket 0 = .ok (.aload_n 0, 1) := by decide +kernel
theorem dX4_ticket_1 : decode cX4_ticket 1 = .ok (.getfield 10, 3) := by decide +kernel
theorem dX4_ticket_4 : decode cX4_ticket 4 = .ok (.iload_n 1, 1) := by decide +kernel
theorem dX4_ticket_5 : decode cX4_ticket 5 = .ok (.invokevirtual 83, 3) := by decide +kernel
theorem dX4_ticket_8 : decode cX4_ticket 8 = .ok (.ifCond .ne 5, 3) := by decide +kernel
theorem dX4_ticket_11 : decode cX4_ticket 11 = .ok (.iconst (-1), 1) := by decide +kernel
theorem dX4_ticket_12 : decode cX4_ticket 12 = .ok (.ireturn, 1) := by decide +kernel
theorem dX4_ticket_13 : decode cX4_ticket 13 = .ok (.aload_n 0, 1) := by decide +kernel
theorem dX4_ticket_14 : decode cX4_ticket 14 = .ok (.getfield 10, 3) := by decide +kernel
theorem dX4_ticket_17 : decode cX4_ticket 17 = .ok (.iload_n 1, 1) := by decide +kernel
theorem dX4_ticket_18 : decode cX4_ticket 18 = .ok (.invokevirtual 86, 3) := by decide +kernel
theorem dX4_ticket_21 : decode cX4_ticket 21 = .ok (.istore_n 3, 1) := by decide +kernel
theorem dX4_ticket_22 : decode cX4_ticket 22 = .ok (.aload_n 0, 1) := by decide +kernel
theorem dX4_ticket_23 : decode cX4_ticket 23 = .ok (.getfield 10, 3) := by decide +kernel
theorem dX4_ticket_26 : decode cX4_ticket 26 = .ok (.iload_n 1, 1) := by decide +kernel
theorem dX4_ticket_27 : decode cX4_ticket 27 = .ok (.invokevirtual 89, 3) := by decide +kernel
theorem dX4_ticket_30 : decode cX4_ticket 30 = .ok (.istore 4, 2) := by decide +kernel
theorem dX4_ticket_32 : decode cX4_ticket 32 = .ok (.iload_n 2, 1) := by decide +kernel
theorem dX4_ticket_33 : decode cX4_ticket 33 = .ok (.tableswitch 123 0 8 #[51, 53, 56, 63, 70, 75, 87, 99, 114], 51) := by decide +kernel
theorem dX4_ticket_84 : decode cX4_ticket 84 = .ok (.iload_n 3, 1) := by decide +kernel
theorem dX4_ticket_85 : decode cX4_ticket 85 = .ok (.ireturn, 1) := by decide +kernel
theorem dX4_ticket_86 : decode cX4_ticket 86 = .ok (.iload 4, 2) := by decide +kernel
theorem dX4_ticket_88 : decode cX4_ticket 88 = .ok (.ireturn, 1) := by decide +kernel
theorem dX4_ticket_89 : decode cX4_ticket 89 = .ok (.iload_n 3, 1) := by decide +kernel
theorem dX4_ticket_90 : decode cX4_ticket 90 = .ok (.iload 4, 2) := by decide +kernel
theorem dX4_ticket_92 : decode cX4_ticket 92 = .ok (.iconst (-1), 1) := by decide +kernel
theorem dX4_ticket_93 : decode cX4_ticket 93 = .ok (.ixor, 1) := by decide +kernel
theorem dX4_ticket_94 : decode cX4_ticket 94 = .ok (.iand, 1) := by decide +kernel
theorem dX4_ticket_95 : decode cX4_ticket 95 = .ok (.ireturn, 1) := by decide +kernel
theorem dX4_ticket_96 : decode cX4_ticket 96 = .ok (.iload 4, 2) := by decide +kernel
theorem dX4_ticket_98 : decode cX4_ticket 98 = .ok (.iload_n 3, 1) := by decide +kernel
theorem dX4_ticket_99 : decode cX4_ticket 99 = .ok (.iconst (-1), 1) := by decide +kernel
theorem dX4_ticket_100 : decode cX4_ticket 100 = .ok (.ixor, 1) := by decide +kernel
theorem dX4_ticket_101 : decode cX4_ticket 101 = .ok (.iand, 1) := by decide +kernel
theorem dX4_ticket_102 : decode cX4_ticket 102 = .ok (.ireturn, 1) := by decide +kernel
theorem dX4_ticket_103 : decode cX4_ticket 103 = .ok (.iload_n 3, 1) := by decide +kernel
theorem dX4_ticket_104 : decode cX4_ticket 104 = .ok (.invokestatic 99, 3) := by decide +kernel
theorem dX4_ticket_107 : decode cX4_ticket 107 = .ok (.ireturn, 1) := by decide +kernel
theorem dX4_ticket_108 : decode cX4_ticket 108 = .ok (.aload_n 0, 1) := by decide +kernel
theorem dX4_ticket_109 : decode cX4_ticket 109 = .ok (.getfield 10, 3) := by decide +kernel
theorem dX4_ticket_112 : decode cX4_ticket 112 = .ok (.iload_n 1, 1) := by decide +kernel
theorem dX4_ticket_113 : decode cX4_ticket 113 = .ok (.invokevirtual 107, 3) := by decide +kernel
theorem dX4_ticket_116 : decode cX4_ticket 116 = .ok (.invokestatic 110, 3) := by decide +kernel
theorem dX4_ticket_119 : decode cX4_ticket 119 = .ok (.ireturn, 1) := by decide +kernel
theorem dX4_ticket_120 : decode cX4_ticket 120 = .ok (.aload_n 0, 1) := by decide +kernel
theorem dX4_ticket_121 : decode cX4_ticket 121 = .ok (.getfield 10, 3) := by decide +kernel
theorem dX4_ticket_124 : decode cX4_ticket 124 = .ok (.getfield 45, 3) := by decide +kernel
theorem dX4_ticket_127 : decode cX4_ticket 127 = .ok (.iload_n 3, 1) := by decide +kernel
theorem dX4_ticket_128 : decode cX4_ticket 128 = .ok (.invokevirtual 187, 3) := by decide +kernel
theorem dX4_ticket_131 : decode cX4_ticket 131 = .ok (.ireturn, 1) := by decide +kernel
theorem dX4_ticket_132 : decode cX4_ticket 132 = .ok (.aload_n 0, 1) := by decide +kernel
theorem dX4_ticket_133 : decode cX4_ticket 133 = .ok (.getfield 10, 3) := by decide +kernel
theorem dX4_ticket_136 : decode cX4_ticket 136 = .ok (.invokevirtual 127, 3) := by decide +kernel
theorem dX4_ticket_139 : decode cX4_ticket 139 = .ok (.iload_n 1, 1) := by decide +kernel
theorem dX4_ticket_140 : decode cX4_ticket 140 = .ok (.invokestatic 92, 3) := by decide +kernel
theorem dX4_ticket_143 : decode cX4_ticket 143 = .ok (.invokestatic 110, 3) := by decide +kernel
theorem dX4_ticket_146 : decode cX4_ticket 146 = .ok (.ireturn, 1) := by decide +kernel
theorem dX4_ticket_147 : decode cX4_ticket 147 = .ok (.aload_n 0, 1) := by decide +kernel
theorem dX4_ticket_148 : decode cX4_ticket 148 = .ok (.getfield 10, 3) := by decide +kernel
theorem dX4_ticket_151 : decode cX4_ticket 151 = .ok (.iload_n 1, 1) := by decide +kernel
theorem dX4_ticket_152 : decode cX4_ticket 152 = .ok (.invokevirtual 190, 3) := by decide +kernel
theorem dX4_ticket_155 : decode cX4_ticket 155 = .ok (.ireturn, 1) := by decide +kernel
theorem dX4_ticket_156 : decode cX4_ticket 156 = .ok (.bipush (-2), 2) := by decide +kernel
theorem dX4_ticket_158 : decode cX4_ticket 158 = .ok (.ireturn, 1) := by decide +kernel
theorem dX4_alikeIn_0 : decode cX4_alikeIn 0 = .ok (.aload_n 0, 1) := by decide +kernel
theorem dX4_alikeIn_1 : decode cX4_alikeIn 1 = .ok (.getfield 10, 3) := by decide +kernel
theorem dX4_alikeIn_4 : decode cX4_alikeIn 4 = .ok (.iload_n 1, 1) := by decide +kernel
theorem dX4_alikeIn_5 : decode cX4_alikeIn 5 = .ok (.invokevirtual 83, 3) := by decide +kernel
theorem dX4_alikeIn_8 : decode cX4_alikeIn 8 = .ok (.ifCond .eq 14, 3) := by decide +kernel
theorem dX4_alikeIn_11 : decode cX4_alikeIn 11 = .ok (.aload_n 0, 1) := by decide +kernel
theorem dX4_alikeIn_12 : decode cX4_alikeIn 12 = .ok (.getfield 10, 3) := by decide +kernel
theorem dX4_alikeIn_15 : decode cX4_alikeIn 15 = .ok (.iload_n 2, 1) := by decide +kernel
theorem dX4_alikeIn_16 : decode cX4_alikeIn 16 = .ok (.invokevirtual 83, 3) := by decide +kernel
theorem dX4_alikeIn_19 : decode cX4_alikeIn 19 = .ok (.ifCond .ne 5, 3) := by decide +kernel
theorem dX4_alikeIn_22 : decode cX4_alikeIn 22 = .ok (.iconst (-1), 1) := by decide +kernel
theorem dX4_alikeIn_23 : decode cX4_alikeIn 23 = .ok (.ireturn, 1) := by decide +kernel
theorem dX4_alikeIn_24 : decode cX4_alikeIn 24 = .ok (.aload_n 0, 1) := by decide +kernel
theorem dX4_alikeIn_25 : decode cX4_alikeIn 25 = .ok (.getfield 10, 3) := by decide +kernel
theorem dX4_alikeIn_28 : decode cX4_alikeIn 28 = .ok (.getfield 45, 3) := by decide +kernel
theorem dX4_alikeIn_31 : decode cX4_alikeIn 31 = .ok (.aload_n 0, 1) := by decide +kernel
theorem dX4_alikeIn_32 : decode cX4_alikeIn 32 = .ok (.getfield 10, 3) := by decide +kernel
theorem dX4_alikeIn_35 : decode cX4_alikeIn 35 = .ok (.iload_n 1, 1) := by decide +kernel
theorem dX4_alikeIn_36 : decode cX4_alikeIn 36 = .ok (.invokevirtual 86, 3) := by decide +kernel
theorem dX4_alikeIn_39 : decode cX4_alikeIn 39 = .ok (.aload_n 0, 1) := by decide +kernel
theorem dX4_alikeIn_40 : decode cX4_alikeIn 40 = .ok (.getfield 10, 3) := by decide +kernel
theorem dX4_alikeIn_43 : decode cX4_alikeIn 43 = .ok (.iload_n 2, 1) := by decide +kernel
theorem dX4_alikeIn_44 : decode cX4_alikeIn 44 = .ok (.invokevirtual 86, 3) := by decide +kernel
theorem dX4_alikeIn_47 : decode cX4_alikeIn 47 = .ok (.invokevirtual 193, 3) := by decide +kernel
theorem dX4_alikeIn_50 : decode cX4_alikeIn 50 = .ok (.ireturn, 1) := by decide +kernel
theorem dX4_meetsIn_0 : decode cX4_meetsIn 0 = .ok (.aload_n 0, 1) := by decide +kernel
theorem dX4_meetsIn_1 : decode cX4_meetsIn 1 = .ok (.getfield 10, 3) := by decide +kernel
theorem dX4_meetsIn_4 : decode cX4_meetsIn 4 = .ok (.iload_n 1, 1) := by decide +kernel
theorem dX4_meetsIn_5 : decode cX4_meetsIn 5 = .ok (.invokevirtual 83, 3) := by decide +kernel
theorem dX4_meetsIn_8 : decode cX4_meetsIn 8 = .ok (.ifCond .eq 14, 3) := by decide +kernel
theorem dX4_meetsIn_11 : decode cX4_meetsIn 11 = .ok (.aload_n 0, 1) := by decide +kernel
theorem dX4_meetsIn_12 : decode cX4_meetsIn 12 = .ok (.getfield 10, 3) := by decide +kernel
theorem dX4_meetsIn_15 : decode cX4_meetsIn 15 = .ok (.iload_n 2, 1) := by decide +kernel
theorem dX4_meetsIn_16 : decode cX4_meetsIn 16 = .ok (.invokevirtual 83, 3) := by decide +kernel
theorem dX4_meetsIn_19 : decode cX4_meetsIn 19 = .ok (.ifCond .ne 5, 3) := by decide +kernel
theorem dX4_meetsIn_22 : decode cX4_meetsIn 22 = .ok (.iconst (-1), 1) := by decide +kernel
theorem dX4_meetsIn_23 : decode cX4_meetsIn 23 = .ok (.ireturn, 1) := by decide +kernel
theorem dX4_meetsIn_24 : decode cX4_meetsIn 24 = .ok (.aload_n 0, 1) := by decide +kernel
theorem dX4_meetsIn_25 : decode cX4_meetsIn 25 = .ok (.getfield 10, 3) := by decide +kernel
theorem dX4_meetsIn_28 : decode cX4_meetsIn 28 = .ok (.getfield 45, 3) := by decide +kernel
theorem dX4_meetsIn_31 : decode cX4_meetsIn 31 = .ok (.aload_n 0, 1) := by decide +kernel
theorem dX4_meetsIn_32 : decode cX4_meetsIn 32 = .ok (.getfield 10, 3) := by decide +kernel
theorem dX4_meetsIn_35 : decode cX4_meetsIn 35 = .ok (.iload_n 1, 1) := by decide +kernel
theorem dX4_meetsIn_36 : decode cX4_meetsIn 36 = .ok (.invokevirtual 86, 3) := by decide +kernel
theorem dX4_meetsIn_39 : decode cX4_meetsIn 39 = .ok (.aload_n 0, 1) := by decide +kernel
theorem dX4_meetsIn_40 : decode cX4_meetsIn 40 = .ok (.getfield 10, 3) := by decide +kernel
theorem dX4_meetsIn_43 : decode cX4_meetsIn 43 = .ok (.iload_n 2, 1) := by decide +kernel
theorem dX4_meetsIn_44 : decode cX4_meetsIn 44 = .ok (.invokevirtual 86, 3) := by decide +kernel
theorem dX4_meetsIn_47 : decode cX4_meetsIn 47 = .ok (.invokevirtual 196, 3) := by decide +kernel
theorem dX4_meetsIn_50 : decode cX4_meetsIn 50 = .ok (.ireturn, 1) := by decide +kernel
theorem dX4_reason_0 : decode cX4_reason 0 = .ok (.aload_n 0, 1) := by decide +kernel
theorem dX4_reason_1 : decode cX4_reason 1 = .ok (.getfield 10, 3) := by decide +kernel
theorem dX4_reason_4 : decode cX4_reason 4 = .ok (.iload_n 1, 1) := by decide +kernel
theorem dX4_reason_5 : decode cX4_reason 5 = .ok (.invokevirtual 83, 3) := by decide +kernel
theorem dX4_reason_8 : decode cX4_reason 8 = .ok (.ifCond .eq 14, 3) := by decide +kernel
theorem dX4_reason_11 : decode cX4_reason 11 = .ok (.aload_n 0, 1) := by decide +kernel
theorem dX4_reason_12 : decode cX4_reason 12 = .ok (.getfield 10, 3) := by decide +kernel
theorem dX4_reason_15 : decode cX4_reason 15 = .ok (.iload_n 2, 1) := by decide +kernel
theorem dX4_reason_16 : decode cX4_reason 16 = .ok (.invokevirtual 83, 3) := by decide +kernel
theorem dX4_reason_19 : decode cX4_reason 19 = .ok (.ifCond .ne 5, 3) := by decide +kernel
theorem dX4_reason_22 : decode cX4_reason 22 = .ok (.iconst (-1), 1) := by decide +kernel
theorem dX4_reason_23 : decode cX4_reason 23 = .ok (.ireturn, 1) := by decide +kernel
theorem dX4_reason_24 : decode cX4_reason 24 = .ok (.aload_n 0, 1) := by decide +kernel
theorem dX4_reason_25 : decode cX4_reason 25 = .ok (.getfield 10, 3) := by decide +kernel
theorem dX4_reason_28 : decode cX4_reason 28 = .ok (.iload_n 1, 1) := by decide +kernel
theorem dX4_reason_29 : decode cX4_reason 29 = .ok (.invokevirtual 86, 3) := by decide +kernel
theorem dX4_reason_32 : decode cX4_reason 32 = .ok (.istore_n 3, 1) := by decide +kernel
theorem dX4_reason_33 : decode cX4_reason 33 = .ok (.aload_n 0, 1) := by decide +kernel
theorem dX4_reason_34 : decode cX4_reason 34 = .ok (.getfield 10, 3) := by decide +kernel
theorem dX4_reason_37 : decode cX4_reason 37 = .ok (.iload_n 2, 1) := by decide +kernel
theorem dX4_reason_38 : decode cX4_reason 38 = .ok (.invokevirtual 86, 3) := by decide +kernel
theorem dX4_reason_41 : decode cX4_reason 41 = .ok (.istore 4, 2) := by decide +kernel
theorem dX4_reason_43 : decode cX4_reason 43 = .ok (.iload_n 3, 1) := by decide +kernel
theorem dX4_reason_44 : decode cX4_reason 44 = .ok (.invokestatic 99, 3) := by decide +kernel
theorem dX4_reason_47 : decode cX4_reason 47 = .ok (.iload 4, 2) := by decide +kernel
theorem dX4_reason_49 : decode cX4_reason 49 = .ok (.invokestatic 99, 3) := by decide +kernel
theorem dX4_reason_52 : decode cX4_reason 52 = .ok (.if_icmp .eq 5, 3) := by decide +kernel
theorem dX4_reason_55 : decode cX4_reason 55 = .ok (.iconst 1, 1) := by decide +kernel
theorem dX4_reason_56 : decode cX4_reason 56 = .ok (.ireturn, 1) := by decide +kernel
theorem dX4_reason_57 : decode cX4_reason 57 = .ok (.aload_n 0, 1) := by decide +kernel
theorem dX4_reason_58 : decode cX4_reason 58 = .ok (.getfield 10, 3) := by decide +kernel
theorem dX4_reason_61 : decode cX4_reason 61 = .ok (.getfield 45, 3) := by decide +kernel
theorem dX4_reason_64 : decode cX4_reason 64 = .ok (.iload_n 3, 1) := by decide +kernel
theorem dX4_reason_65 : decode cX4_reason 65 = .ok (.iload 4, 2) := by decide +kernel
theorem dX4_reason_67 : decode cX4_reason 67 = .ok (.invokevirtual 199, 3) := by decide +kernel
theorem dX4_reason_70 : decode cX4_reason 70 = .ok (.ifCond .ne 5, 3) := by decide +kernel
theorem dX4_reason_73 : decode cX4_reason 73 = .ok (.iconst 2, 1) := by decide +kernel
theorem dX4_reason_74 : decode cX4_reason 74 = .ok (.ireturn, 1) := by decide +kernel
theorem dX4_reason_75 : decode cX4_reason 75 = .ok (.aload_n 0, 1) := by decide +kernel
theorem dX4_reason_76 : decode cX4_reason 76 = .ok (.getfield 10, 3) := by decide +kernel
theorem dX4_reason_79 : decode cX4_reason 79 = .ok (.getfield 45, 3) := by decide +kernel
theorem dX4_reason_82 : decode cX4_reason 82 = .ok (.iload_n 3, 1) := by decide +kernel
theorem dX4_reason_83 : decode cX4_reason 83 = .ok (.iload 4, 2) := by decide +kernel
theorem dX4_reason_85 : decode cX4_reason 85 = .ok (.invokevirtual 193, 3) := by decide +kernel
theorem dX4_reason_88 : decode cX4_reason 88 = .ok (.bipush (-5), 2) := by decide +kernel
theorem dX4_reason_90 : decode cX4_reason 90 = .ok (.if_icmp .ne 7, 3) := by decide +kernel
theorem dX4_reason_93 : decode cX4_reason 93 = .ok (.iconst 3, 1) := by decide +kernel
theorem dX4_reason_94 : decode cX4_reason 94 = .ok (.goto 4, 3) := by decide +kernel
theorem dX4_reason_97 : decode cX4_reason 97 = .ok (.iconst 0, 1) := by decide +kernel
theorem dX4_reason_98 : decode cX4_reason 98 = .ok (.ireturn, 1) := by decide +kernel
theorem dX4_kin_0 : decode cX4_kin 0 = .ok (.aload_n 0, 1) := by decide +kernel
theorem dX4_kin_1 : decode cX4_kin 1 = .ok (.getfield 10, 3) := by decide +kernel
theorem dX4_kin_4 : decode cX4_kin 4 = .ok (.iload_n 1, 1) := by decide +kernel
theorem dX4_kin_5 : decode cX4_kin 5 = .ok (.invokevirtual 83, 3) := by decide +kernel
theorem dX4_kin_8 : decode cX4_kin 8 = .ok (.ifCond .ne 5, 3) := by decide +kernel
theorem dX4_kin_11 : decode cX4_kin 11 = .ok (.iconst (-1), 1) := by decide +kernel
theorem dX4_kin_12 : decode cX4_kin 12 = .ok (.ireturn, 1) := by decide +kernel
theorem dX4_kin_13 : decode cX4_kin 13 = .ok (.aload_n 0, 1) := by decide +kernel
theorem dX4_kin_14 : decode cX4_kin 14 = .ok (.getfield 10, 3) := by decide +kernel
theorem dX4_kin_17 : decode cX4_kin 17 = .ok (.iload_n 1, 1) := by decide +kernel
theorem dX4_kin_18 : decode cX4_kin 18 = .ok (.invokevirtual 202, 3) := by decide +kernel
theorem dX4_kin_21 : decode cX4_kin 21 = .ok (.ireturn, 1) := by decide +kernel
theorem dX4_light_0 : decode cX4_light 0 = .ok (.aload_n 0, 1) := by decide +kernel
theorem dX4_light_1 : decode cX4_light 1 = .ok (.getfield 10, 3) := by decide +kernel
theorem dX4_light_4 : decode cX4_light 4 = .ok (.invokevirtual 205, 3) := by decide +kernel
theorem dX4_light_7 : decode cX4_light 7 = .ok (.ireturn, 1) := by decide +kernel
theorem dX4_bestTurn_0 : decode cX4_bestTurn 0 = .ok (.aload_n 0, 1) := by decide +kernel
theorem dX4_bestTurn_1 : decode cX4_bestTurn 1 = .ok (.getfield 10, 3) := by decide +kernel
theorem dX4_bestTurn_4 : decode cX4_bestTurn 4 = .ok (.iload_n 1, 1) := by decide +kernel
theorem dX4_bestTurn_5 : decode cX4_bestTurn 5 = .ok (.invokevirtual 83, 3) := by decide +kernel
theorem dX4_bestTurn_8 : decode cX4_bestTurn 8 = .ok (.ifCond .ne 5, 3) := by decide +kernel
theorem dX4_bestTurn_11 : decode cX4_bestTurn 11 = .ok (.iconst (-1), 1) := by decide +kernel
theorem dX4_bestTurn_12 : decode cX4_bestTurn 12 = .ok (.ireturn, 1) := by decide +kernel
theorem dX4_bestTurn_13 : decode cX4_bestTurn 13 = .ok (.iload_n 2, 1) := by decide +kernel
theorem dX4_bestTurn_14 : decode cX4_bestTurn 14 = .ok (.ifCond .lt 8, 3) := by decide +kernel
theorem dX4_bestTurn_17 : decode cX4_bestTurn 17 = .ok (.iload_n 2, 1) := by decide +kernel
theorem dX4_bestTurn_18 : decode cX4_bestTurn 18 = .ok (.iconst 1, 1) := by decide +kernel
theorem dX4_bestTurn_19 : decode cX4_bestTurn 19 = .ok (.if_icmp .le 6, 3) := by decide +kernel
theorem dX4_bestTurn_22 : decode cX4_bestTurn 22 = .ok (.bipush (-2), 2) := by decide +kernel
theorem dX4_bestTurn_24 : decode cX4_bestTurn 24 = .ok (.ireturn, 1) := by decide +kernel
theorem dX4_bestTurn_25 : decode cX4_bestTurn 25 = .ok (.aload_n 0, 1) := by decide +kernel
theorem dX4_bestTurn_26 : decode cX4_bestTurn 26 = .ok (.getfield 10, 3) := by decide +kernel
theorem dX4_bestTurn_29 : decode cX4_bestTurn 29 = .ok (.invokevirtual 127, 3) := by decide +kernel
theorem dX4_bestTurn_32 : decode cX4_bestTurn 32 = .ok (.iload_n 1, 1) := by decide +kernel
theorem dX4_bestTurn_33 : decode cX4_bestTurn 33 = .ok (.invokestatic 92, 3) := by decide +kernel
theorem dX4_bestTurn_36 : decode cX4_bestTurn 36 = .ok (.ifCond .ne 6, 3) := by decide +kernel
theorem dX4_bestTurn_39 : decode cX4_bestTurn 39 = .ok (.bipush (-4), 2) := by decide +kernel
theorem dX4_bestTurn_41 : decode cX4_bestTurn 41 = .ok (.ireturn, 1) := by decide +kernel
theorem dX4_bestTurn_42 : decode cX4_bestTurn 42 = .ok (.iload_n 2, 1) := by decide +kernel
theorem dX4_bestTurn_43 : decode cX4_bestTurn 43 = .ok (.ifCond .ne 14, 3) := by decide +kernel
theorem dX4_bestTurn_46 : decode cX4_bestTurn 46 = .ok (.aload_n 0, 1) := by decide +kernel
theorem dX4_bestTurn_47 : decode cX4_bestTurn 47 = .ok (.getfield 10, 3) := by decide +kernel
theorem dX4_bestTurn_50 : decode cX4_bestTurn 50 = .ok (.iload_n 1, 1) := by decide +kernel
theorem dX4_bestTurn_51 : decode cX4_bestTurn 51 = .ok (.invokevirtual 208, 3) := by decide +kernel
theorem dX4_bestTurn_54 : decode cX4_bestTurn 54 = .ok (.goto 11, 3) := by decide +kernel
theorem dX4_bestTurn_57 : decode cX4_bestTurn 57 = .ok (.aload_n 0, 1) := by decide +kernel
theorem dX4_bestTurn_58 : decode cX4_bestTurn 58 = .ok (.getfield 10, 3) := by decide +kernel
theorem dX4_bestTurn_61 : decode cX4_bestTurn 61 = .ok (.iload_n 1, 1) := by decide +kernel
theorem dX4_bestTurn_62 : decode cX4_bestTurn 62 = .ok (.invokevirtual 211, 3) := by decide +kernel
theorem dX4_bestTurn_65 : decode cX4_bestTurn 65 = .ok (.ireturn, 1) := by decide +kernel
theorem dX4_count_0 : decode cX4_count 0 = .ok (.iload_n 1, 1) := by decide +kernel
theorem dX4_count_1 : decode cX4_count 1 = .ok (.tableswitch 153 0 10 #[59, 67, 78, 86, 94, 102, 113, 121, 129, 137, 145], 59) := by decide +kernel
theorem dX4_count_60 : decode cX4_count 60 = .ok (.aload_n 0, 1) := by decide +kernel
theorem dX4_count_61 : decode cX4_count 61 = .ok (.getfield 10, 3) := by decide +kernel
theorem dX4_count_64 : decode cX4_count 64 = .ok (.invokevirtual 76, 3) := by decide +kernel
theorem dX4_count_67 : decode cX4_count 67 = .ok (.ireturn, 1) := by decide +kernel
theorem dX4_count_68 : decode cX4_count 68 = .ok (.aload_n 0, 1) := by decide +kernel
theorem dX4_count_69 : decode cX4_count 69 = .ok (.getfield 10, 3) := by decide +kernel
theorem dX4_count_72 : decode cX4_count 72 = .ok (.invokevirtual 127, 3) := by decide +kernel
theorem dX4_count_75 : decode cX4_count 75 = .ok (.invokestatic 99, 3) := by decide +kernel
theorem dX4_count_78 : decode cX4_count 78 = .ok (.ireturn, 1) := by decide +kernel
theorem dX4_count_79 : decode cX4_count 79 = .ok (.aload_n 0, 1) := by decide +kernel
theorem dX4_count_80 : decode cX4_count 80 = .ok (.getfield 10, 3) := by decide +kernel
theorem dX4_count_83 : decode cX4_count 83 = .ok (.invokevirtual 214, 3) := by decide +kernel
theorem dX4_count_86 : decode cX4_count 86 = .ok (.ireturn, 1) := by decide +kernel
theorem dX4_count_87 : decode cX4_count 87 = .ok (.aload_n 0, 1) := by decide +kernel
theorem dX4_count_88 : decode cX4_count 88 = .ok (.getfield 10, 3) := by decide +kernel
theorem dX4_count_91 : decode cX4_count 91 = .ok (.invokevirtual 217, 3) := by decide +kernel
theorem dX4_count_94 : decode cX4_count 94 = .ok (.ireturn, 1) := by decide +kernel
theorem dX4_count_95 : decode cX4_count 95 = .ok (.aload_n 0, 1) := by decide +kernel
theorem dX4_count_96 : decode cX4_count 96 = .ok (.getfield 10, 3) := by decide +kernel
theorem dX4_count_99 : decode cX4_count 99 = .ok (.invokevirtual 220, 3) := by decide +kernel
theorem dX4_count_102 : decode cX4_count 102 = .ok (.ireturn, 1) := by decide +kernel
theorem dX4_count_103 : decode cX4_count 103 = .ok (.aload_n 0, 1) := by decide +kernel
theorem dX4_count_104 : decode cX4_count 104 = .ok (.getfield 10, 3) := by decide +kernel
theorem dX4_count_107 : decode cX4_count 107 = .ok (.invokevirtual 205, 3) := by decide +kernel
theorem dX4_count_110 : decode cX4_count 110 = .ok (.invokestatic 99, 3) := by decide +kernel
theorem dX4_count_113 : decode cX4_count 113 = .ok (.ireturn, 1) := by decide +kernel
theorem dX4_count_114 : decode cX4_count 114 = .ok (.aload_n 0, 1) := by decide +kernel
theorem dX4_count_115 : decode cX4_count 115 = .ok (.getfield 10, 3) := by decide +kernel
theorem dX4_count_118 : decode cX4_count 118 = .ok (.invokevirtual 223, 3) := by decide +kernel
theorem dX4_count_121 : decode cX4_count 121 = .ok (.ireturn, 1) := by decide +kernel
theorem dX4_count_122 : decode cX4_count 122 = .ok (.aload_n 0, 1) := by decide +kernel
theorem dX4_count_123 : decode cX4_count 123 = .ok (.getfield 10, 3) := by decide +kernel
theorem dX4_count_126 : decode cX4_count 126 = .ok (.invokevirtual 226, 3) := by decide +kernel
theorem dX4_count_129 : decode cX4_count 129 = .ok (.ireturn, 1) := by decide +kernel
theorem dX4_count_130 : decode cX4_count 130 = .ok (.aload_n 0, 1) := by decide +kernel
theorem dX4_count_131 : decode cX4_count 131 = .ok (.getfield 10, 3) := by decide +kernel
theorem dX4_count_134 : decode cX4_count 134 = .ok (.invokevirtual 229, 3) := by decide +kernel
theorem dX4_count_137 : decode cX4_count 137 = .ok (.ireturn, 1) := by decide +kernel
theorem dX4_count_138 : decode cX4_count 138 = .ok (.aload_n 0, 1) := by decide +kernel
theorem dX4_count_139 : decode cX4_count 139 = .ok (.getfield 26, 3) := by decide +kernel
theorem dX4_count_142 : decode cX4_count 142 = .ok (.invokevirtual 146, 3) := by decide +kernel
theorem dX4_count_145 : decode cX4_count 145 = .ok (.ireturn, 1) := by decide +kernel
theorem dX4_count_146 : decode cX4_count 146 = .ok (.aload_n 0, 1) := by decide +kernel
theorem dX4_count_147 : decode cX4_count 147 = .ok (.getfield 33, 3) := by decide +kernel
theorem dX4_count_150 : decode cX4_count 150 = .ok (.invokevirtual 136, 3) := by decide +kernel
theorem dX4_count_153 : decode cX4_count 153 = .ok (.ireturn, 1) := by decide +kernel
theorem dX4_count_154 : decode cX4_count 154 = .ok (.bipush (-2), 2) := by decide +kernel
theorem dX4_count_156 : decode cX4_count 156 = .ok (.ireturn, 1) := by decide +kernel
theorem dX4_isPlace_0 : decode cX4_isPlace 0 = .ok (.iload_n 0, 1) := by decide +kernel
theorem dX4_isPlace_1 : decode cX4_isPlace 1 = .ok (.ifCond .lt 13, 3) := by decide +kernel
theorem dX4_isPlace_4 : decode cX4_isPlace 4 = .ok (.iload_n 0, 1) := by decide +kernel
theorem dX4_isPlace_5 : decode cX4_isPlace 5 = .ok (.bipush 24, 2) := by decide +kernel
theorem dX4_isPlace_7 : decode cX4_isPlace 7 = .ok (.if_icmp .ge 7, 3) := by decide +kernel
theorem dX4_isPlace_10 : decode cX4_isPlace 10 = .ok (.iconst 1, 1) := by decide +kernel
theorem dX4_isPlace_11 : decode cX4_isPlace 11 = .ok (.goto 4, 3) := by decide +kernel
theorem dX4_isPlace_14 : decode cX4_isPlace 14 = .ok (.iconst 0, 1) := by decide +kernel
theorem dX4_isPlace_15 : decode cX4_isPlace 15 = .ok (.ireturn, 1) := by decide +kernel
theorem dX4_isPower_0 : decode cX4_isPower 0 = .ok (.iload_n 0, 1) := by decide +kernel
theorem dX4_isPower_1 : decode cX4_isPower 1 = .ok (.sipush (-9999), 3) := by decide +kernel
theorem dX4_isPower_4 : decode cX4_isPower 4 = .ok (.if_icmp .lt 14, 3) := by decide +kernel
theorem dX4_isPower_7 : decode cX4_isPower 7 = .ok (.iload_n 0, 1) := by decide +kernel
theorem dX4_isPower_8 : decode cX4_isPower 8 = .ok (.sipush 9999, 3) := by decide +kernel
theorem dX4_isPower_11 : decode cX4_isPower 11 = .ok (.if_icmp .gt 7, 3) := by decide +kernel
theorem dX4_isPower_14 : decode cX4_isPower 14 = .ok (.iconst 1, 1) := by decide +kernel
theorem dX4_isPower_15 : decode cX4_isPower 15 = .ok (.goto 4, 3) := by decide +kernel
theorem dX4_isPower_18 : decode cX4_isPower 18 = .ok (.iconst 0, 1) := by decide +kernel
theorem dX4_isPower_19 : decode cX4_isPower 19 = .ok (.ireturn, 1) := by decide +kernel
theorem dX4_asNumber_0 : decode cX4_asNumber 0 = .ok (.iload_n 0, 1) := by decide +kernel
theorem dX4_asNumber_1 : decode cX4_asNumber 1 = .ok (.ifCond .eq 7, 3) := by decide +kernel
theorem dX4_asNumber_4 : decode cX4_asNumber 4 = .ok (.iconst 1, 1) := by decide +kernel
theorem dX4_asNumber_5 : decode cX4_asNumber 5 = .ok (.goto 4, 3) := by decide +kernel
theorem dX4_asNumber_8 : decode cX4_asNumber 8 = .ok (.iconst 0, 1) := by decide +kernel
theorem dX4_asNumber_9 : decode cX4_asNumber 9 = .ok (.ireturn, 1) := by decide +kernel
theorem dX4_only_0 : decode cX4_only 0 = .ok (.iconst 1, 1) := by decide +kernel
theorem dX4_only_1 : decode cX4_only 1 = .ok (.iload_n 0, 1) := by decide +kernel
theorem dX4_only_2 : decode cX4_only 2 = .ok (.ishl, 1) := by decide +kernel
theorem dX4_only_3 : decode cX4_only 3 = .ok (.ireturn, 1) := by decide +kernel
theorem dX4_has_0 : decode cX4_has 0 = .ok (.iload_n 0, 1) := by decide +kernel
theorem dX4_has_1 : decode cX4_has 1 = .ok (.iconst 1, 1) := by decide +kernel
theorem dX4_has_2 : decode cX4_has 2 = .ok (.iload_n 1, 1) := by decide +kernel
theorem dX4_has_3 : decode cX4_has 3 = .ok (.ishl, 1) := by decide +kernel
theorem dX4_has_4 : decode cX4_has 4 = .ok (.iand, 1) := by decide +kernel
theorem dX4_has_5 : decode cX4_has 5 = .ok (.ifCond .eq 7, 3) := by decide +kernel
theorem dX4_has_8 : decode cX4_has 8 = .ok (.iconst 1, 1) := by decide +kernel
theorem dX4_has_9 : decode cX4_has 9 = .ok (.goto 4, 3) := by decide +kernel
theorem dX4_has_12 : decode cX4_has 12 = .ok (.iconst 0, 1) := by decide +kernel
theorem dX4_has_13 : decode cX4_has 13 = .ok (.ireturn, 1) := by decide +kernel
theorem dX4_lowest_0 : decode cX4_lowest 0 = .ok (.iconst 0, 1) := by decide +kernel
theorem dX4_lowest_1 : decode cX4_lowest 1 = .ok (.istore_n 1, 1) := by decide +kernel
theorem dX4_lowest_2 : decode cX4_lowest 2 = .ok (.iload_n 1, 1) := by decide +kernel
theorem dX4_lowest_3 : decode cX4_lowest 3 = .ok (.bipush 24, 2) := by decide +kernel
theorem dX4_lowest_5 : decode cX4_lowest 5 = .ok (.if_icmp .ge 19, 3) := by decide +kernel
theorem dX4_lowest_8 : decode cX4_lowest 8 = .ok (.iload_n 0, 1) := by decide +kernel
theorem dX4_lowest_9 : decode cX4_lowest 9 = .ok (.iload_n 1, 1) := by decide +kernel
theorem dX4_lowest_10 : decode cX4_lowest 10 = .ok (.invokestatic 92, 3) := by decide +kernel
theorem dX4_lowest_13 : decode cX4_lowest 13 = .ok (.ifCond .eq 5, 3) := by decide +kernel
theorem dX4_lowest_16 : decode cX4_lowest 16 = .ok (.iload_n 1, 1) := by decide +kernel
theorem dX4_lowest_17 : decode cX4_lowest 17 = .ok (.ireturn, 1) := by decide +kernel
theorem dX4_lowest_18 : decode cX4_lowest 18 = .ok (.iinc 1 1, 3) := by decide +kernel
theorem dX4_lowest_21 : decode cX4_lowest 21 = .ok (.goto (-19), 3) := by decide +kernel
theorem dX4_lowest_24 : decode cX4_lowest 24 = .ok (.bipush (-5), 2) := by decide +kernel
theorem dX4_lowest_26 : decode cX4_lowest 26 = .ok (.ireturn, 1) := by decide +kernel
theorem dX4_leastCommonMultiple_0 : decode cX4_leastCommonMultiple 0 = .ok (.iload_n 1, 1) := by decide +kernel
theorem dX4_leastCommonMultiple_1 : decode cX4_leastCommonMultiple 1 = .ok (.iconst 1, 1) := by decide +kernel
theorem dX4_leastCommonMultiple_2 : decode cX4_leastCommonMultiple 2 = .ok (.if_icmp .ge 5, 3) := by decide +kernel
theorem dX4_leastCommonMultiple_5 : decode cX4_leastCommonMultiple 5 = .ok (.iload_n 0, 1) := by decide +kernel
theorem dX4_leastCommonMultiple_6 : decode cX4_leastCommonMultiple 6 = .ok (.ireturn, 1) := by decide +kernel
theorem dX4_leastCommonMultiple_7 : decode cX4_leastCommonMultiple 7 = .ok (.iconst 1, 1) := by decide +kernel
theorem dX4_leastCommonMultiple_8 : decode cX4_leastCommonMultiple 8 = .ok (.istore_n 2, 1) := by decide +kernel
theorem dX4_leastCommonMultiple_9 : decode cX4_leastCommonMultiple 9 = .ok (.iload_n 2, 1) := by decide +kernel
theorem dX4_leastCommonMultiple_10 : decode cX4_leastCommonMultiple 10 = .ok (.iload_n 1, 1) := by decide +kernel
theorem dX4_leastCommonMultiple_11 : decode cX4_leastCommonMultiple 11 = .ok (.if_icmp .ge 21, 3) := by decide +kernel
theorem dX4_leastCommonMultiple_14 : decode cX4_leastCommonMultiple 14 = .ok (.iload_n 0, 1) := by decide +kernel
theorem dX4_leastCommonMultiple_15 : decode cX4_leastCommonMultiple 15 = .ok (.iload_n 2, 1) := by decide +kernel
theorem dX4_leastCommonMultiple_16 : decode cX4_leastCommonMultiple 16 = .ok (.imul, 1) := by decide +kernel
theorem dX4_leastCommonMultiple_17 : decode cX4_leastCommonMultiple 17 = .ok (.iload_n 1, 1) := by decide +kernel
theorem dX4_leastCommonMultiple_18 : decode cX4_leastCommonMultiple 18 = .ok (.irem, 1) := by decide +kernel
theorem dX4_leastCommonMultiple_19 : decode cX4_leastCommonMultiple 19 = .ok (.ifCond .ne 7, 3) := by decide +kernel
theorem dX4_leastCommonMultiple_22 : decode cX4_leastCommonMultiple 22 = .ok (.iload_n 0, 1) := by decide +kernel
theorem dX4_leastCommonMultiple_23 : decode cX4_leastCommonMultiple 23 = .ok (.iload_n 2, 1) := by decide +kernel
theorem dX4_leastCommonMultiple_24 : decode cX4_leastCommonMultiple 24 = .ok (.imul, 1) := by decide +kernel
theorem dX4_leastCommonMultiple_25 : decode cX4_leastCommonMultiple 25 = .ok (.ireturn, 1) := by decide +kernel
theorem dX4_leastCommonMultiple_26 : decode cX4_leastCommonMultiple 26 = .ok (.iinc 2 1, 3) := by decide +kernel
theorem dX4_leastCommonMultiple_29 : decode cX4_leastCommonMultiple 29 = .ok (.goto (-20), 3) := by decide +kernel
theorem dX4_leastCommonMultiple_32 : decode cX4_leastCommonMultiple 32 = .ok (.iload_n 0, 1) := by decide +kernel
theorem dX4_leastCommonMultiple_33 : decode cX4_leastCommonMultiple 33 = .ok (.iload_n 1, 1) := by decide +kernel
theorem dX4_leastCommonMultiple_34 : decode cX4_leastCommonMultiple 34 = .ok (.imul, 1) := by decide +kernel
theorem dX4_leastCommonMultiple_35 : decode cX4_leastCommonMultiple 35 = .ok (.ireturn, 1) := by decide +kernel
theorem dJ6_bitCount_0f7a4_0 : decode cJ6_bitCount_0f7a4 0 = .ok (.iload_n 0, 1) := by decide +kernel
theorem dJ6_bitCount_0f7a4_1 : decode cJ6_bitCount_0f7a4 1 = .ok (.iload_n 0, 1) := by decide +kernel
theorem dJ6_bitCount_0f7a4_2 : decode cJ6_bitCount_0f7a4 2 = .ok (.iconst 1, 1) := by decide +kernel
theorem dJ6_bitCount_0f7a4_3 : decode cJ6_bitCount_0f7a4 3 = .ok (.iushr, 1) := by decide +kernel
theorem dJ6_bitCount_0f7a4_4 : decode cJ6_bitCount_0f7a4 4 = .ok (.ldc_w 265, 3) := by decide +kernel
theorem dJ6_bitCount_0f7a4_7 : decode cJ6_bitCount_0f7a4 7 = .ok (.iand, 1) := by decide +kernel
theorem dJ6_bitCount_0f7a4_8 : decode cJ6_bitCount_0f7a4 8 = .ok (.isub, 1) := by decide +kernel
theorem dJ6_bitCount_0f7a4_9 : decode cJ6_bitCount_0f7a4 9 = .ok (.istore_n 0, 1) := by decide +kernel
theorem dJ6_bitCount_0f7a4_10 : decode cJ6_bitCount_0f7a4 10 = .ok (.iload_n 0, 1) := by decide +kernel
theorem dJ6_bitCount_0f7a4_11 : decode cJ6_bitCount_0f7a4 11 = .ok (.ldc_w 266, 3) := by decide +kernel
theorem dJ6_bitCount_0f7a4_14 : decode cJ6_bitCount_0f7a4 14 = .ok (.iand, 1) := by decide +kernel
theorem dJ6_bitCount_0f7a4_15 : decode cJ6_bitCount_0f7a4 15 = .ok (.iload_n 0, 1) := by decide +kernel
theorem dJ6_bitCount_0f7a4_16 : decode cJ6_bitCount_0f7a4 16 = .ok (.iconst 2, 1) := by decide +kernel
theorem dJ6_bitCount_0f7a4_17 : decode cJ6_bitCount_0f7a4 17 = .ok (.iushr, 1) := by decide +kernel
theorem dJ6_bitCount_0f7a4_18 : decode cJ6_bitCount_0f7a4 18 = .ok (.ldc_w 266, 3) := by decide +kernel
theorem dJ6_bitCount_0f7a4_21 : decode cJ6_bitCount_0f7a4 21 = .ok (.iand, 1) := by decide +kernel
theorem dJ6_bitCount_0f7a4_22 : decode cJ6_bitCount_0f7a4 22 = .ok (.iadd, 1) := by decide +kernel
theorem dJ6_bitCount_0f7a4_23 : decode cJ6_bitCount_0f7a4 23 = .ok (.istore_n 0, 1) := by decide +kernel
theorem dJ6_bitCount_0f7a4_24 : decode cJ6_bitCount_0f7a4 24 = .ok (.iload_n 0, 1) := by decide +kernel
theorem dJ6_bitCount_0f7a4_25 : decode cJ6_bitCount_0f7a4 25 = .ok (.iload_n 0, 1) := by decide +kernel
theorem dJ6_bitCount_0f7a4_26 : decode cJ6_bitCount_0f7a4 26 = .ok (.iconst 4, 1) := by decide +kernel
theorem dJ6_bitCount_0f7a4_27 : decode cJ6_bitCount_0f7a4 27 = .ok (.iushr, 1) := by decide +kernel
theorem dJ6_bitCount_0f7a4_28 : decode cJ6_bitCount_0f7a4 28 = .ok (.iadd, 1) := by decide +kernel
theorem dJ6_bitCount_0f7a4_29 : decode cJ6_bitCount_0f7a4 29 = .ok (.ldc_w 267, 3) := by decide +kernel
theorem dJ6_bitCount_0f7a4_32 : decode cJ6_bitCount_0f7a4 32 = .ok (.iand, 1) := by decide +kernel
theorem dJ6_bitCount_0f7a4_33 : decode cJ6_bitCount_0f7a4 33 = .ok (.istore_n 0, 1) := by decide +kernel
theorem dJ6_bitCount_0f7a4_34 : decode cJ6_bitCount_0f7a4 34 = .ok (.iload_n 0, 1) := by decide +kernel
theorem dJ6_bitCount_0f7a4_35 : decode cJ6_bitCount_0f7a4 35 = .ok (.iload_n 0, 1) := by decide +kernel
theorem dJ6_bitCount_0f7a4_36 : decode cJ6_bitCount_0f7a4 36 = .ok (.bipush 8, 2) := by decide +kernel
theorem dJ6_bitCount_0f7a4_38 : decode cJ6_bitCount_0f7a4 38 = .ok (.iushr, 1) := by decide +kernel
theorem dJ6_bitCount_0f7a4_39 : decode cJ6_bitCount_0f7a4 39 = .ok (.iadd, 1) := by decide +kernel
theorem dJ6_bitCount_0f7a4_40 : decode cJ6_bitCount_0f7a4 40 = .ok (.istore_n 0, 1) := by decide +kernel
theorem dJ6_bitCount_0f7a4_41 : decode cJ6_bitCount_0f7a4 41 = .ok (.iload_n 0, 1) := by decide +kernel
theorem dJ6_bitCount_0f7a4_42 : decode cJ6_bitCount_0f7a4 42 = .ok (.iload_n 0, 1) := by decide +kernel
theorem dJ6_bitCount_0f7a4_43 : decode cJ6_bitCount_0f7a4 43 = .ok (.bipush 16, 2) := by decide +kernel
theorem dJ6_bitCount_0f7a4_45 : decode cJ6_bitCount_0f7a4 45 = .ok (.iushr, 1) := by decide +kernel
theorem dJ6_bitCount_0f7a4_46 : decode cJ6_bitCount_0f7a4 46 = .ok (.iadd, 1) := by decide +kernel
theorem dJ6_bitCount_0f7a4_47 : decode cJ6_bitCount_0f7a4 47 = .ok (.istore_n 0, 1) := by decide +kernel
theorem dJ6_bitCount_0f7a4_48 : decode cJ6_bitCount_0f7a4 48 = .ok (.iload_n 0, 1) := by decide +kernel
theorem dJ6_bitCount_0f7a4_49 : decode cJ6_bitCount_0f7a4 49 = .ok (.bipush 63, 2) := by decide +kernel
theorem dJ6_bitCount_0f7a4_51 : decode cJ6_bitCount_0f7a4 51 = .ok (.iand, 1) := by decide +kernel
theorem dJ6_bitCount_0f7a4_52 : decode cJ6_bitCount_0f7a4 52 = .ok (.ireturn, 1) := by decide +kernel
theorem dJ9_floorMod_7cf53_0 : decode cJ9_floorMod_7cf53 0 = .ok (.iload_n 0, 1) := by decide +kernel
theorem dJ9_floorMod_7cf53_1 : decode cJ9_floorMod_7cf53 1 = .ok (.iload_n 1, 1) := by decide +kernel
theorem dJ9_floorMod_7cf53_2 : decode cJ9_floorMod_7cf53 2 = .ok (.irem, 1) := by decide +kernel
theorem dJ9_floorMod_7cf53_3 : decode cJ9_floorMod_7cf53 3 = .ok (.istore_n 2, 1) := by decide +kernel
theorem dJ9_floorMod_7cf53_4 : decode cJ9_floorMod_7cf53 4 = .ok (.iload_n 0, 1) := by decide +kernel
theorem dJ9_floorMod_7cf53_5 : decode cJ9_floorMod_7cf53 5 = .ok (.iload_n 1, 1) := by decide +kernel
theorem dJ9_floorMod_7cf53_6 : decode cJ9_floorMod_7cf53 6 = .ok (.ixor, 1) := by decide +kernel
theorem dJ9_floorMod_7cf53_7 : decode cJ9_floorMod_7cf53 7 = .ok (.ifCond .ge 11, 3) := by decide +kernel
theorem dJ9_floorMod_7cf53_10 : decode cJ9_floorMod_7cf53 10 = .ok (.iload_n 2, 1) := by decide +kernel
theorem dJ9_floorMod_7cf53_11 : decode cJ9_floorMod_7cf53 11 = .ok (.ifCond .eq 7, 3) := by decide +kernel
theorem dJ9_floorMod_7cf53_14 : decode cJ9_floorMod_7cf53 14 = .ok (.iload_n 2, 1) := by decide +kernel
theorem dJ9_floorMod_7cf53_15 : decode cJ9_floorMod_7cf53 15 = .ok (.iload_n 1, 1) := by decide +kernel
theorem dJ9_floorMod_7cf53_16 : decode cJ9_floorMod_7cf53 16 = .ok (.iadd, 1) := by decide +kernel
theorem dJ9_floorMod_7cf53_17 : decode cJ9_floorMod_7cf53 17 = .ok (.ireturn, 1) := by decide +kernel
theorem dJ9_floorMod_7cf53_18 : decode cJ9_floorMod_7cf53 18 = .ok (.iload_n 2, 1) := by decide +kernel
theorem dJ9_floorMod_7cf53_19 : decode cJ9_floorMod_7cf53 19 = .ok (.ireturn, 1) := by decide +kernel
theorem dJ9_max_7cf53_0 : decode cJ9_max_7cf53 0 = .ok (.iload_n 0, 1) := by decide +kernel
theorem dJ9_max_7cf53_1 : decode cJ9_max_7cf53 1 = .ok (.iload_n 1, 1) := by decide +kernel
theorem dJ9_max_7cf53_2 : decode cJ9_max_7cf53 2 = .ok (.if_icmp .lt 7, 3) := by decide +kernel
theorem dJ9_max_7cf53_5 : decode cJ9_max_7cf53 5 = .ok (.iload_n 0, 1) := by decide +kernel
theorem dJ9_max_7cf53_6 : decode cJ9_max_7cf53 6 = .ok (.goto 4, 3) := by decide +kernel
theorem dJ9_max_7cf53_9 : decode cJ9_max_7cf53 9 = .ok (.iload_n 1, 1) := by decide +kernel
theorem dJ9_max_7cf53_10 : decode cJ9_max_7cf53 10 = .ok (.ireturn, 1) := by decide +kernel
theorem dJ9_min_7cf53_0 : decode cJ9_min_7cf53 0 = .ok (.iload_n 0, 1) := by decide +kernel
theorem dJ9_min_7cf53_1 : decode cJ9_min_7cf53 1 = .ok (.iload_n 1, 1) := by decide +kernel
theorem dJ9_min_7cf53_2 : decode cJ9_min_7cf53 2 = .ok (.if_icmp .gt 7, 3) := by decide +kernel
theorem dJ9_min_7cf53_5 : decode cJ9_min_7cf53 5 = .ok (.iload_n 0, 1) := by decide +kernel
theorem dJ9_min_7cf53_6 : decode cJ9_min_7cf53 6 = .ok (.goto 4, 3) := by decide +kernel
theorem dJ9_min_7cf53_9 : decode cJ9_min_7cf53 9 = .ok (.iload_n 1, 1) := by decide +kernel
theorem dJ9_min_7cf53_10 : decode cJ9_min_7cf53 10 = .ok (.ireturn, 1) := by decide +kernel
theorem dL_cell_0 : decode cL_cell 0 = .ok (.iload_n 1, 1) := by decide +kernel
theorem dL_cell_1 : decode cL_cell 1 = .ok (.aload_n 0, 1) := by decide +kernel
theorem dL_cell_2 : decode cL_cell 2 = .ok (.arraylength, 1) := by decide +kernel
theorem dL_cell_3 : decode cL_cell 3 = .ok (.if_icmp .ge 9, 3) := by decide +kernel
theorem dL_cell_6 : decode cL_cell 6 = .ok (.aload_n 0, 1) := by decide +kernel
theorem dL_cell_7 : decode cL_cell 7 = .ok (.iload_n 1, 1) := by decide +kernel
theorem dL_cell_8 : decode cL_cell 8 = .ok (.iaload, 1) := by decide +kernel
theorem dL_cell_9 : decode cL_cell 9 = .ok (.goto 13, 3) := by decide +kernel
theorem dL_cell_12 : decode cL_cell 12 = .ok (.ldc 7, 2) := by decide +kernel
theorem dL_cell_14 : decode cL_cell 14 = .ok (.iload_n 1, 1) := by decide +kernel
theorem dL_cell_15 : decode cL_cell 15 = .ok (.bipush 11, 2) := by decide +kernel
theorem dL_cell_17 : decode cL_cell 17 = .ok (.iadd, 1) := by decide +kernel
theorem dL_cell_18 : decode cL_cell 18 = .ok (.imul, 1) := by decide +kernel
theorem dL_cell_19 : decode cL_cell 19 = .ok (.bipush 37, 2) := by decide +kernel
theorem dL_cell_21 : decode cL_cell 21 = .ok (.iadd, 1) := by decide +kernel
theorem dL_cell_22 : decode cL_cell 22 = .ok (.ldc 8, 2) := by decide +kernel
theorem dL_cell_24 : decode cL_cell 24 = .ok (.iand, 1) := by decide +kernel
theorem dL_cell_25 : decode cL_cell 25 = .ok (.ireturn, 1) := by decide +kernel
theorem dL_acts_0 : decode cL_acts 0 = .ok (.iload_n 1, 1) := by decide +kernel
theorem dL_acts_1 : decode cL_acts 1 = .ok (.bipush 32, 2) := by decide +kernel
theorem dL_acts_3 : decode cL_acts 3 = .ok (.idiv, 1) := by decide +kernel
theorem dL_acts_4 : decode cL_acts 4 = .ok (.istore_n 2, 1) := by decide +kernel
theorem dL_acts_5 : decode cL_acts 5 = .ok (.aload_n 0, 1) := by decide +kernel
theorem dL_acts_6 : decode cL_acts 6 = .ok (.iconst 0, 1) := by decide +kernel
theorem dL_acts_7 : decode cL_acts 7 = .ok (.invokevirtual 9, 3) := by decide +kernel
theorem dL_acts_10 : decode cL_acts 10 = .ok (.istore_n 3, 1) := by decide +kernel
theorem dL_acts_11 : decode cL_acts 11 = .ok (.iload_n 3, 1) := by decide +kernel
theorem dL_acts_12 : decode cL_acts 12 = .ok (.iconst 1, 1) := by decide +kernel
theorem dL_acts_13 : decode cL_acts 13 = .ok (.if_icmp .ge 7, 3) := by decide +kernel
theorem dL_acts_16 : decode cL_acts 16 = .ok (.iconst 0, 1) := by decide +kernel
theorem dL_acts_17 : decode cL_acts 17 = .ok (.goto 6, 3) := by decide +kernel
theorem dL_acts_20 : decode cL_acts 20 = .ok (.iload_n 2, 1) := by decide +kernel
theorem dL_acts_21 : decode cL_acts 21 = .ok (.iload_n 3, 1) := by decide +kernel
theorem dL_acts_22 : decode cL_acts 22 = .ok (.irem, 1) := by decide +kernel
theorem dL_acts_23 : decode cL_acts 23 = .ok (.istore 4, 2) := by decide +kernel
theorem dL_acts_25 : decode cL_acts 25 = .ok (.iload_n 3, 1) := by decide +kernel
theorem dL_acts_26 : decode cL_acts 26 = .ok (.iconst 2, 1) := by decide +kernel
theorem dL_acts_27 : decode cL_acts 27 = .ok (.if_icmp .ge 7, 3) := by decide +kernel
theorem dL_acts_30 : decode cL_acts 30 = .ok (.iconst 0, 1) := by decide +kernel
theorem dL_acts_31 : decode cL_acts 31 = .ok (.goto 7, 3) := by decide +kernel
theorem dL_acts_34 : decode cL_acts 34 = .ok (.iload_n 1, 1) := by decide +kernel
theorem dL_acts_35 : decode cL_acts 35 = .ok (.bipush 32, 2) := by decide +kernel
theorem dL_acts_37 : decode cL_acts 37 = .ok (.irem, 1) := by decide +kernel
theorem dL_acts_38 : decode cL_acts 38 = .ok (.tableswitch 273 0 27 #[126, 126, 126, 135, 135, 151, 156, 156, 156, 170, 170, 170, 170, 199, 199, 206, 206, 206, 206, 225, 225, 225, 246, 246, 258, 263, 268, 268], 126) := by decide +kernel
theorem dL_acts_164 : decode cL_acts 164 = .ok (.aload_n 0, 1) := by decide +kernel
theorem dL_acts_165 : decode cL_acts 165 = .ok (.iload_n 2, 1) := by decide +kernel
theorem dL_acts_166 : decode cL_acts 166 = .ok (.ldc 15, 2) := by decide +kernel
theorem dL_acts_168 : decode cL_acts 168 = .ok (.iand, 1) := by decide +kernel
theorem dL_acts_169 : decode cL_acts 169 = .ok (.invokevirtual 16, 3) := by decide +kernel
theorem dL_acts_172 : decode cL_acts 172 = .ok (.ireturn, 1) := by decide +kernel
theorem dL_acts_173 : decode cL_acts 173 = .ok (.aload_n 0, 1) := by decide +kernel
theorem dL_acts_174 : decode cL_acts 174 = .ok (.iload_n 2, 1) := by decide +kernel
theorem dL_acts_175 : decode cL_acts 175 = .ok (.bipush 24, 2) := by decide +kernel
theorem dL_acts_177 : decode cL_acts 177 = .ok (.irem, 1) := by decide +kernel
theorem dL_acts_178 : decode cL_acts 178 = .ok (.iload_n 2, 1) := by decide +kernel
theorem dL_acts_179 : decode cL_acts 179 = .ok (.bipush 32, 2) := by decide +kernel
theorem dL_acts_181 : decode cL_acts 181 = .ok (.idiv, 1) := by decide +kernel
theorem dL_acts_182 : decode cL_acts 182 = .ok (.bipush 24, 2) := by decide +kernel
theorem dL_acts_184 : decode cL_acts 184 = .ok (.irem, 1) := by decide +kernel
theorem dL_acts_185 : decode cL_acts 185 = .ok (.invokevirtual 19, 3) := by decide +kernel
theorem dL_acts_188 : decode cL_acts 188 = .ok (.ireturn, 1) := by decide +kernel
theorem dL_acts_189 : decode cL_acts 189 = .ok (.aload_n 0, 1) := by decide +kernel
theorem dL_acts_190 : decode cL_acts 190 = .ok (.invokevirtual 23, 3) := by decide +kernel
theorem dL_acts_193 : decode cL_acts 193 = .ok (.ireturn, 1) := by decide +kernel
theorem dL_acts_194 : decode cL_acts 194 = .ok (.aload_n 0, 1) := by decide +kernel
theorem dL_acts_195 : decode cL_acts 195 = .ok (.iload 4, 2) := by decide +kernel
theorem dL_acts_197 : decode cL_acts 197 = .ok (.iload_n 2, 1) := by decide +kernel
theorem dL_acts_198 : decode cL_acts 198 = .ok (.bipush 16, 2) := by decide +kernel
theorem dL_acts_200 : decode cL_acts 200 = .ok (.idiv, 1) := by decide +kernel
theorem dL_acts_201 : decode cL_acts 201 = .ok (.bipush 24, 2) := by decide +kernel
theorem dL_acts_203 : decode cL_acts 203 = .ok (.irem, 1) := by decide +kernel
theorem dL_acts_204 : decode cL_acts 204 = .ok (.invokevirtual 27, 3) := by decide +kernel
theorem dL_acts_207 : decode cL_acts 207 = .ok (.ireturn, 1) := by decide +kernel
theorem dL_acts_208 : decode cL_acts 208 = .ok (.aload_n 0, 1) := by decide +kernel
theorem dL_acts_209 : decode cL_acts 209 = .ok (.iload 4, 2) := by decide +kernel
theorem dL_acts_211 : decode cL_acts 211 = .ok (.iload_n 2, 1) := by decide +kernel
theorem dL_acts_212 : decode cL_acts 212 = .ok (.bipush 16, 2) := by decide +kernel
theorem dL_acts_214 : decode cL_acts 214 = .ok (.idiv, 1) := by decide +kernel
theorem dL_acts_215 : decode cL_acts 215 = .ok (.bipush 24, 2) := by decide +kernel
theorem dL_acts_217 : decode cL_acts 217 = .ok (.irem, 1) := by decide +kernel
theorem dL_acts_218 : decode cL_acts 218 = .ok (.iload_n 2, 1) := by decide +kernel
theorem dL_acts_219 : decode cL_acts 219 = .ok (.sipush 512, 3) := by decide +kernel
theorem dL_acts_222 : decode cL_acts 222 = .ok (.idiv, 1) := by decide +kernel
theorem dL_acts_223 : decode cL_acts 223 = .ok (.iconst 2, 1) := by decide +kernel
theorem dL_acts_224 : decode cL_acts 224 = .ok (.irem, 1) := by decide +kernel
theorem dL_acts_225 : decode cL_acts 225 = .ok (.ifCond .ne 7, 3) := by decide +kernel
theorem dL_acts_228 : decode cL_acts 228 = .ok (.iconst 1, 1) := by decide +kernel
theorem dL_acts_229 : decode cL_acts 229 = .ok (.goto 4, 3) := by decide +kernel
theorem dL_acts_232 : decode cL_acts 232 = .ok (.iconst 0, 1) := by decide +kernel
theorem dL_acts_233 : decode cL_acts 233 = .ok (.invokevirtual 30, 3) := by decide +kernel
theorem dL_acts_236 : decode cL_acts 236 = .ok (.ireturn, 1) := by decide +kernel
theorem dL_acts_237 : decode cL_acts 237 = .ok (.aload_n 0, 1) := by decide +kernel
theorem dL_acts_238 : decode cL_acts 238 = .ok (.iload 4, 2) := by decide +kernel
theorem dL_acts_240 : decode cL_acts 240 = .ok (.invokevirtual 34, 3) := by decide +kernel
theorem dL_acts_243 : decode cL_acts 243 = .ok (.ireturn, 1) := by decide +kernel
theorem dL_acts_244 : decode cL_acts 244 = .ok (.aload_n 0, 1) := by decide +kernel
theorem dL_acts_245 : decode cL_acts 245 = .ok (.iload 4, 2) := by decide +kernel
theorem dL_acts_247 : decode cL_acts 247 = .ok (.iload_n 2, 1) := by decide +kernel
theorem dL_acts_248 : decode cL_acts 248 = .ok (.bipush 16, 2) := by decide +kernel
theorem dL_acts_250 : decode cL_acts 250 = .ok (.idiv, 1) := by decide +kernel
theorem dL_acts_251 : decode cL_acts 251 = .ok (.sipush 19999, 3) := by decide +kernel
theorem dL_acts_254 : decode cL_acts 254 = .ok (.irem, 1) := by decide +kernel
theorem dL_acts_255 : decode cL_acts 255 = .ok (.sipush 9999, 3) := by decide +kernel
theorem dL_acts_258 : decode cL_acts 258 = .ok (.isub, 1) := by decide +kernel
theorem dL_acts_259 : decode cL_acts 259 = .ok (.invokevirtual 37, 3) := by decide +kernel
theorem dL_acts_262 : decode cL_acts 262 = .ok (.ireturn, 1) := by decide +kernel
theorem dL_acts_263 : decode cL_acts 263 = .ok (.aload_n 0, 1) := by decide +kernel
theorem dL_acts_264 : decode cL_acts 264 = .ok (.iload 4, 2) := by decide +kernel
theorem dL_acts_266 : decode cL_acts 266 = .ok (.iload_n 2, 1) := by decide +kernel
theorem dL_acts_267 : decode cL_acts 267 = .ok (.bipush 16, 2) := by decide +kernel
theorem dL_acts_269 : decode cL_acts 269 = .ok (.idiv, 1) := by decide +kernel
theorem dL_acts_270 : decode cL_acts 270 = .ok (.iconst 3, 1) := by decide +kernel
theorem dL_acts_271 : decode cL_acts 271 = .ok (.irem, 1) := by decide +kernel
theorem dL_acts_272 : decode cL_acts 272 = .ok (.ifCond .le 7, 3) := by decide +kernel
theorem dL_acts_275 : decode cL_acts 275 = .ok (.iconst 1, 1) := by decide +kernel
theorem dL_acts_276 : decode cL_acts 276 = .ok (.goto 4, 3) := by decide +kernel
theorem dL_acts_279 : decode cL_acts 279 = .ok (.iconst 0, 1) := by decide +kernel
theorem dL_acts_280 : decode cL_acts 280 = .ok (.invokevirtual 40, 3) := by decide +kernel
theorem dL_acts_283 : decode cL_acts 283 = .ok (.ireturn, 1) := by decide +kernel
theorem dL_acts_284 : decode cL_acts 284 = .ok (.aload_n 0, 1) := by decide +kernel
theorem dL_acts_285 : decode cL_acts 285 = .ok (.iload_n 2, 1) := by decide +kernel
theorem dL_acts_286 : decode cL_acts 286 = .ok (.bipush 61, 2) := by decide +kernel
theorem dL_acts_288 : decode cL_acts 288 = .ok (.irem, 1) := by decide +kernel
theorem dL_acts_289 : decode cL_acts 289 = .ok (.bipush 30, 2) := by decide +kernel
theorem dL_acts_291 : decode cL_acts 291 = .ok (.isub, 1) := by decide +kernel
theorem dL_acts_292 : decode cL_acts 292 = .ok (.invokevirtual 44, 3) := by decide +kernel
theorem dL_acts_295 : decode cL_acts 295 = .ok (.ireturn, 1) := by decide +kernel
theorem dL_acts_296 : decode cL_acts 296 = .ok (.aload_n 0, 1) := by decide +kernel
theorem dL_acts_297 : decode cL_acts 297 = .ok (.invokevirtual 47, 3) := by decide +kernel
theorem dL_acts_300 : decode cL_acts 300 = .ok (.ireturn, 1) := by decide +kernel
theorem dL_acts_301 : decode cL_acts 301 = .ok (.aload_n 0, 1) := by decide +kernel
theorem dL_acts_302 : decode cL_acts 302 = .ok (.invokevirtual 50, 3) := by decide +kernel
theorem dL_acts_305 : decode cL_acts 305 = .ok (.ireturn, 1) := by decide +kernel
theorem dL_acts_306 : decode cL_acts 306 = .ok (.aload_n 0, 1) := by decide +kernel
theorem dL_acts_307 : decode cL_acts 307 = .ok (.invokevirtual 53, 3) := by decide +kernel
theorem dL_acts_310 : decode cL_acts 310 = .ok (.ireturn, 1) := by decide +kernel
theorem dL_acts_311 : decode cL_acts 311 = .ok (.aload_n 0, 1) := by decide +kernel
theorem dL_acts_312 : decode cL_acts 312 = .ok (.invokevirtual 56, 3) := by decide +kernel
theorem dL_acts_315 : decode cL_acts 315 = .ok (.istore 5, 2) := by decide +kernel
theorem dL_acts_317 : decode cL_acts 317 = .ok (.iload_n 2, 1) := by decide +kernel
theorem dL_acts_318 : decode cL_acts 318 = .ok (.bipush 24, 2) := by decide +kernel
theorem dL_acts_320 : decode cL_acts 320 = .ok (.irem, 1) := by decide +kernel
theorem dL_acts_321 : decode cL_acts 321 = .ok (.istore 6, 2) := by decide +kernel
theorem dL_acts_323 : decode cL_acts 323 = .ok (.iconst 0, 1) := by decide +kernel
theorem dL_acts_324 : decode cL_acts 324 = .ok (.istore 7, 2) := by decide +kernel
theorem dL_acts_326 : decode cL_acts 326 = .ok (.iload 7, 2) := by decide +kernel
theorem dL_acts_328 : decode cL_acts 328 = .ok (.iconst 2, 1) := by decide +kernel
theorem dL_acts_329 : decode cL_acts 329 = .ok (.iload_n 2, 1) := by decide +kernel
theorem dL_acts_330 : decode cL_acts 330 = .ok (.bipush 32, 2) := by decide +kernel
theorem dL_acts_332 : decode cL_acts 332 = .ok (.idiv, 1) := by decide +kernel
theorem dL_acts_333 : decode cL_acts 333 = .ok (.iconst 4, 1) := by decide +kernel
theorem dL_acts_334 : decode cL_acts 334 = .ok (.irem, 1) := by decide +kernel
theorem dL_acts_335 : decode cL_acts 335 = .ok (.iadd, 1) := by decide +kernel
theorem dL_acts_336 : decode cL_acts 336 = .ok (.if_icmp .ge 86, 3) := by decide +kernel
theorem dL_acts_339 : decode cL_acts 339 = .ok (.aload_n 0, 1) := by decide +kernel
theorem dL_acts_340 : decode cL_acts 340 = .ok (.iload 7, 2) := by decide +kernel
theorem dL_acts_342 : decode cL_acts 342 = .ok (.ifCond .ne 8, 3) := by decide +kernel
theorem dL_acts_345 : decode cL_acts 345 = .ok (.bipush 40, 2) := by decide +kernel
theorem dL_acts_347 : decode cL_acts 347 = .ok (.goto 5, 3) := by decide +kernel
theorem dL_acts_350 : decode cL_acts 350 = .ok (.bipush 44, 2) := by decide +kernel
theorem dL_acts_352 : decode cL_acts 352 = .ok (.invokevirtual 59, 3) := by decide +kernel
theorem dL_acts_355 : decode cL_acts 355 = .ok (.istore 5, 2) := by decide +kernel
theorem dL_acts_357 : decode cL_acts 357 = .ok (.iload 6, 2) := by decide +kernel
theorem dL_acts_359 : decode cL_acts 359 = .ok (.bipush 9, 2) := by decide +kernel
theorem dL_acts_361 : decode cL_acts 361 = .ok (.if_icmp .le 19, 3) := by decide +kernel
theorem dL_acts_364 : decode cL_acts 364 = .ok (.aload_n 0, 1) := by decide +kernel
theorem dL_acts_365 : decode cL_acts 365 = .ok (.bipush 48, 2) := by decide +kernel
theorem dL_acts_367 : decode cL_acts 367 = .ok (.iload 6, 2) := by decide +kernel
theorem dL_acts_369 : decode cL_acts 369 = .ok (.bipush 10, 2) := by decide +kernel
theorem dL_acts_371 : decode cL_acts 371 = .ok (.idiv, 1) := by decide +kernel
theorem dL_acts_372 : decode cL_acts 372 = .ok (.iadd, 1) := by decide +kernel
theorem dL_acts_373 : decode cL_acts 373 = .ok (.i2c, 1) := by decide +kernel
theorem dL_acts_374 : decode cL_acts 374 = .ok (.invokevirtual 59, 3) := by decide +kernel
theorem dL_acts_377 : decode cL_acts 377 = .ok (.goto 5, 3) := by decide +kernel
theorem dL_acts_380 : decode cL_acts 380 = .ok (.iload 5, 2) := by decide +kernel
theorem dL_acts_382 : decode cL_acts 382 = .ok (.istore 5, 2) := by decide +kernel
theorem dL_acts_384 : decode cL_acts 384 = .ok (.aload_n 0, 1) := by decide +kernel
theorem dL_acts_385 : decode cL_acts 385 = .ok (.bipush 48, 2) := by decide +kernel
theorem dL_acts_387 : decode cL_acts 387 = .ok (.iload 6, 2) := by decide +kernel
theorem dL_acts_389 : decode cL_acts 389 = .ok (.bipush 10, 2) := by decide +kernel
theorem dL_acts_391 : decode cL_acts 391 = .ok (.irem, 1) := by decide +kernel
theorem dL_acts_392 : decode cL_acts 392 = .ok (.iadd, 1) := by decide +kernel
theorem dL_acts_393 : decode cL_acts 393 = .ok (.i2c, 1) := by decide +kernel
theorem dL_acts_394 : decode cL_acts 394 = .ok (.invokevirtual 59, 3) := by decide +kernel
theorem dL_acts_397 : decode cL_acts 397 = .ok (.istore 5, 2) := by decide +kernel
theorem dL_acts_399 : decode cL_acts 399 = .ok (.iload 6, 2) := by decide +kernel
theorem dL_acts_401 : decode cL_acts 401 = .ok (.iconst 1, 1) := by decide +kernel
theorem dL_acts_402 : decode cL_acts 402 = .ok (.iadd, 1) := by decide +kernel
theorem dL_acts_403 : decode cL_acts 403 = .ok (.iload_n 2, 1) := by decide +kernel
theorem dL_acts_404 : decode cL_acts 404 = .ok (.sipush 128, 3) := by decide +kernel
theorem dL_acts_407 : decode cL_acts 407 = .ok (.idiv, 1) := by decide +kernel
theorem dL_acts_408 : decode cL_acts 408 = .ok (.iconst 5, 1) := by decide +kernel
theorem dL_acts_409 : decode cL_acts 409 = .ok (.irem, 1) := by decide +kernel
theorem dL_acts_410 : decode cL_acts 410 = .ok (.iadd, 1) := by decide +kernel
theorem dL_acts_411 : decode cL_acts 411 = .ok (.bipush 24, 2) := by decide +kernel
theorem dL_acts_413 : decode cL_acts 413 = .ok (.irem, 1) := by decide +kernel
theorem dL_acts_414 : decode cL_acts 414 = .ok (.istore 6, 2) := by decide +kernel
theorem dL_acts_416 : decode cL_acts 416 = .ok (.iinc 7 1, 3) := by decide +kernel
theorem dL_acts_419 : decode cL_acts 419 = .ok (.goto (-93), 3) := by decide +kernel
theorem dL_acts_422 : decode cL_acts 422 = .ok (.aload_n 0, 1) := by decide +kernel
theorem dL_acts_423 : decode cL_acts 423 = .ok (.bipush 41, 2) := by decide +kernel
theorem dL_acts_425 : decode cL_acts 425 = .ok (.invokevirtual 59, 3) := by decide +kernel
theorem dL_acts_428 : decode cL_acts 428 = .ok (.istore 5, 2) := by decide +kernel
theorem dL_acts_430 : decode cL_acts 430 = .ok (.iload 5, 2) := by decide +kernel
theorem dL_acts_432 : decode cL_acts 432 = .ok (.iconst 1, 1) := by decide +kernel
theorem dL_acts_433 : decode cL_acts 433 = .ok (.if_icmp .ge 8, 3) := by decide +kernel
theorem dL_acts_436 : decode cL_acts 436 = .ok (.bipush (-9), 2) := by decide +kernel
theorem dL_acts_438 : decode cL_acts 438 = .ok (.goto 7, 3) := by decide +kernel
theorem dL_acts_441 : decode cL_acts 441 = .ok (.aload_n 0, 1) := by decide +kernel
theorem dL_acts_442 : decode cL_acts 442 = .ok (.invokevirtual 63, 3) := by decide +kernel
theorem dL_acts_445 : decode cL_acts 445 = .ok (.ireturn, 1) := by decide +kernel
theorem dL_ones_0 : decode cL_ones 0 = .ok (.iconst 0, 1) := by decide +kernel
theorem dL_ones_1 : decode cL_ones 1 = .ok (.istore_n 1, 1) := by decide +kernel
theorem dL_ones_2 : decode cL_ones 2 = .ok (.iconst 0, 1) := by decide +kernel
theorem dL_ones_3 : decode cL_ones 3 = .ok (.istore_n 2, 1) := by decide +kernel
theorem dL_ones_4 : decode cL_ones 4 = .ok (.iload_n 2, 1) := by decide +kernel
theorem dL_ones_5 : decode cL_ones 5 = .ok (.bipush 24, 2) := by decide +kernel
theorem dL_ones_7 : decode cL_ones 7 = .ok (.if_icmp .ge 17, 3) := by decide +kernel
theorem dL_ones_10 : decode cL_ones 10 = .ok (.iload_n 1, 1) := by decide +kernel
theorem dL_ones_11 : decode cL_ones 11 = .ok (.iload_n 0, 1) := by decide +kernel
theorem dL_ones_12 : decode cL_ones 12 = .ok (.iload_n 2, 1) := by decide +kernel
theorem dL_ones_13 : decode cL_ones 13 = .ok (.ishr, 1) := by decide +kernel
theorem dL_ones_14 : decode cL_ones 14 = .ok (.iconst 1, 1) := by decide +kernel
theorem dL_ones_15 : decode cL_ones 15 = .ok (.iand, 1) := by decide +kernel
theorem dL_ones_16 : decode cL_ones 16 = .ok (.iadd, 1) := by decide +kernel
theorem dL_ones_17 : decode cL_ones 17 = .ok (.istore_n 1, 1) := by decide +kernel
theorem dL_ones_18 : decode cL_ones 18 = .ok (.iinc 2 1, 3) := by decide +kernel
theorem dL_ones_21 : decode cL_ones 21 = .ok (.goto (-17), 3) := by decide +kernel
theorem dL_ones_24 : decode cL_ones 24 = .ok (.iload_n 1, 1) := by decide +kernel
theorem dL_ones_25 : decode cL_ones 25 = .ok (.ireturn, 1) := by decide +kernel
theorem dL_hangs_0 : decode cL_hangs 0 = .ok (.aload_n 0, 1) := by decide +kernel
theorem dL_hangs_1 : decode cL_hangs 1 = .ok (.iconst 0, 1) := by decide +kernel
theorem dL_hangs_2 : decode cL_hangs 2 = .ok (.invokevirtual 9, 3) := by decide +kernel
theorem dL_hangs_5 : decode cL_hangs 5 = .ok (.istore_n 1, 1) := by decide +kernel
theorem dL_hangs_6 : decode cL_hangs 6 = .ok (.aload_n 0, 1) := by decide +kernel
theorem dL_hangs_7 : decode cL_hangs 7 = .ok (.iconst 0, 1) := by decide +kernel
theorem dL_hangs_8 : decode cL_hangs 8 = .ok (.invokevirtual 66, 3) := by decide +kernel
theorem dL_hangs_11 : decode cL_hangs 11 = .ok (.istore_n 2, 1) := by decide +kernel
theorem dL_hangs_12 : decode cL_hangs 12 = .ok (.iconst 0, 1) := by decide +kernel
theorem dL_hangs_13 : decode cL_hangs 13 = .ok (.istore_n 3, 1) := by decide +kernel
theorem dL_hangs_14 : decode cL_hangs 14 = .ok (.iconst 0, 1) := by decide +kernel
theorem dL_hangs_15 : decode cL_hangs 15 = .ok (.istore 4, 2) := by decide +kernel
theorem dL_hangs_17 : decode cL_hangs 17 = .ok (.iload_n 1, 1) := by decide +kernel
theorem dL_hangs_18 : decode cL_hangs 18 = .ok (.ifCond .lt 44, 3) := by decide +kernel
theorem dL_hangs_21 : decode cL_hangs 21 = .ok (.iload_n 1, 1) := by decide +kernel
theorem dL_hangs_22 : decode cL_hangs 22 = .ok (.bipush 12, 2) := by decide +kernel
theorem dL_hangs_24 : decode cL_hangs 24 = .ok (.if_icmp .gt 38, 3) := by decide +kernel
theorem dL_hangs_27 : decode cL_hangs 27 = .ok (.iload_n 2, 1) := by decide +kernel
theorem dL_hangs_28 : decode cL_hangs 28 = .ok (.iconst 1, 1) := by decide +kernel
theorem dL_hangs_29 : decode cL_hangs 29 = .ok (.if_icmp .lt 33, 3) := by decide +kernel
theorem dL_hangs_32 : decode cL_hangs 32 = .ok (.iload_n 2, 1) := by decide +kernel
theorem dL_hangs_33 : decode cL_hangs 33 = .ok (.sipush 840, 3) := by decide +kernel
theorem dL_hangs_36 : decode cL_hangs 36 = .ok (.if_icmp .gt 26, 3) := by decide +kernel
theorem dL_hangs_39 : decode cL_hangs 39 = .ok (.aload_n 0, 1) := by decide +kernel
theorem dL_hangs_40 : decode cL_hangs 40 = .ok (.iconst 1, 1) := by decide +kernel
theorem dL_hangs_41 : decode cL_hangs 41 = .ok (.invokevirtual 66, 3) := by decide +kernel
theorem dL_hangs_44 : decode cL_hangs 44 = .ok (.iconst 1, 1) := by decide +kernel
theorem dL_hangs_45 : decode cL_hangs 45 = .ok (.if_icmp .lt 17, 3) := by decide +kernel
theorem dL_hangs_48 : decode cL_hangs 48 = .ok (.aload_n 0, 1) := by decide +kernel
theorem dL_hangs_49 : decode cL_hangs 49 = .ok (.iconst 1, 1) := by decide +kernel
theorem dL_hangs_50 : decode cL_hangs 50 = .ok (.invokevirtual 66, 3) := by decide +kernel
theorem dL_hangs_53 : decode cL_hangs 53 = .ok (.bipush 24, 2) := by decide +kernel
theorem dL_hangs_55 : decode cL_hangs 55 = .ok (.if_icmp .gt 7, 3) := by decide +kernel
theorem dL_hangs_58 : decode cL_hangs 58 = .ok (.iconst 1, 1) := by decide +kernel
theorem dL_hangs_59 : decode cL_hangs 59 = .ok (.goto 4, 3) := by decide +kernel
theorem dL_hangs_62 : decode cL_hangs 62 = .ok (.iconst 0, 1) := by decide +kernel
theorem dL_hangs_63 : decode cL_hangs 63 = .ok (.istore 5, 2) := by decide +kernel
theorem dL_hangs_65 : decode cL_hangs 65 = .ok (.iconst 0, 1) := by decide +kernel
theorem dL_hangs_66 : decode cL_hangs 66 = .ok (.istore 6, 2) := by decide +kernel
theorem dL_hangs_68 : decode cL_hangs 68 = .ok (.iconst 0, 1) := by decide +kernel
theorem dL_hangs_69 : decode cL_hangs 69 = .ok (.istore 7, 2) := by decide +kernel
theorem dL_hangs_71 : decode cL_hangs 71 = .ok (.iload 7, 2) := by decide +kernel
theorem dL_hangs_73 : decode cL_hangs 73 = .ok (.bipush 24, 2) := by decide +kernel
theorem dL_hangs_75 : decode cL_hangs 75 = .ok (.if_icmp .ge 198, 3) := by decide +kernel
theorem dL_hangs_78 : decode cL_hangs 78 = .ok (.iload 5, 2) := by decide +kernel
theorem dL_hangs_80 : decode cL_hangs 80 = .ok (.ifCond .eq 193, 3) := by decide +kernel
theorem dL_hangs_83 : decode cL_hangs 83 = .ok (.aload_n 0, 1) := by decide +kernel
theorem dL_hangs_84 : decode cL_hangs 84 = .ok (.iload 7, 2) := by decide +kernel
theorem dL_hangs_86 : decode cL_hangs 86 = .ok (.iconst 0, 1) := by decide +kernel
theorem dL_hangs_87 : decode cL_hangs 87 = .ok (.invokevirtual 69, 3) := by decide +kernel
theorem dL_hangs_90 : decode cL_hangs 90 = .ok (.istore 8, 2) := by decide +kernel
theorem dL_hangs_92 : decode cL_hangs 92 = .ok (.iload 8, 2) := by decide +kernel
theorem dL_hangs_94 : decode cL_hangs 94 = .ok (.ifCond .lt 105, 3) := by decide +kernel
theorem dL_hangs_97 : decode cL_hangs 97 = .ok (.iload 8, 2) := by decide +kernel
theorem dL_hangs_99 : decode cL_hangs 99 = .ok (.bipush 24, 2) := by decide +kernel
theorem dL_hangs_101 : decode cL_hangs 101 = .ok (.if_icmp .ge 98, 3) := by decide +kernel
theorem dL_hangs_104 : decode cL_hangs 104 = .ok (.iload 6, 2) := by decide +kernel
theorem dL_hangs_106 : decode cL_hangs 106 = .ok (.iload 8, 2) := by decide +kernel
theorem dL_hangs_108 : decode cL_hangs 108 = .ok (.ishr, 1) := by decide +kernel
theorem dL_hangs_109 : decode cL_hangs 109 = .ok (.iconst 1, 1) := by decide +kernel
theorem dL_hangs_110 : decode cL_hangs 110 = .ok (.iand, 1) := by decide +kernel
theorem dL_hangs_111 : decode cL_hangs 111 = .ok (.ifCond .ne 88, 3) := by decide +kernel
theorem dL_hangs_114 : decode cL_hangs 114 = .ok (.aload_n 0, 1) := by decide +kernel
theorem dL_hangs_115 : decode cL_hangs 115 = .ok (.iload 8, 2) := by decide +kernel
theorem dL_hangs_117 : decode cL_hangs 117 = .ok (.iconst 1, 1) := by decide +kernel
theorem dL_hangs_118 : decode cL_hangs 118 = .ok (.invokevirtual 69, 3) := by decide +kernel
theorem dL_hangs_121 : decode cL_hangs 121 = .ok (.iload 7, 2) := by decide +kernel
theorem dL_hangs_123 : decode cL_hangs 123 = .ok (.if_icmp .ne 76, 3) := by decide +kernel
theorem dL_hangs_126 : decode cL_hangs 126 = .ok (.iload_n 2, 1) := by decide +kernel
theorem dL_hangs_127 : decode cL_hangs 127 = .ok (.aload_n 0, 1) := by decide +kernel
theorem dL_hangs_128 : decode cL_hangs 128 = .ok (.iload 7, 2) := by decide +kernel
theorem dL_hangs_130 : decode cL_hangs 130 = .ok (.iconst 2, 1) := by decide +kernel
theorem dL_hangs_131 : decode cL_hangs 131 = .ok (.invokevirtual 69, 3) := by decide +kernel
theorem dL_hangs_134 : decode cL_hangs 134 = .ok (.irem, 1) := by decide +kernel
theorem dL_hangs_135 : decode cL_hangs 135 = .ok (.ifCond .ne 64, 3) := by decide +kernel
theorem dL_hangs_138 : decode cL_hangs 138 = .ok (.aload_n 0, 1) := by decide +kernel
theorem dL_hangs_139 : decode cL_hangs 139 = .ok (.iload 7, 2) := by decide +kernel
theorem dL_hangs_141 : decode cL_hangs 141 = .ok (.iconst 2, 1) := by decide +kernel
theorem dL_hangs_142 : decode cL_hangs 142 = .ok (.invokevirtual 69, 3) := by decide +kernel
theorem dL_hangs_145 : decode cL_hangs 145 = .ok (.aload_n 0, 1) := by decide +kernel
theorem dL_hangs_146 : decode cL_hangs 146 = .ok (.iconst 3, 1) := by decide +kernel
theorem dL_hangs_147 : decode cL_hangs 147 = .ok (.invokevirtual 66, 3) := by decide +kernel
theorem dL_hangs_150 : decode cL_hangs 150 = .ok (.if_icmp .gt 49, 3) := by decide +kernel
theorem dL_hangs_153 : decode cL_hangs 153 = .ok (.aload_n 0, 1) := by decide +kernel
theorem dL_hangs_154 : decode cL_hangs 154 = .ok (.iload 7, 2) := by decide +kernel
theorem dL_hangs_156 : decode cL_hangs 156 = .ok (.iconst 3, 1) := by decide +kernel
theorem dL_hangs_157 : decode cL_hangs 157 = .ok (.invokevirtual 69, 3) := by decide +kernel
theorem dL_hangs_160 : decode cL_hangs 160 = .ok (.iload 7, 2) := by decide +kernel
theorem dL_hangs_162 : decode cL_hangs 162 = .ok (.if_icmp .gt 37, 3) := by decide +kernel
theorem dL_hangs_165 : decode cL_hangs 165 = .ok (.aload_n 0, 1) := by decide +kernel
theorem dL_hangs_166 : decode cL_hangs 166 = .ok (.iload 8, 2) := by decide +kernel
theorem dL_hangs_168 : decode cL_hangs 168 = .ok (.iconst 3, 1) := by decide +kernel
theorem dL_hangs_169 : decode cL_hangs 169 = .ok (.invokevirtual 69, 3) := by decide +kernel
theorem dL_hangs_172 : decode cL_hangs 172 = .ok (.aload_n 0, 1) := by decide +kernel
theorem dL_hangs_173 : decode cL_hangs 173 = .ok (.iload 7, 2) := by decide +kernel
theorem dL_hangs_175 : decode cL_hangs 175 = .ok (.iconst 3, 1) := by decide +kernel
theorem dL_hangs_176 : decode cL_hangs 176 = .ok (.invokevirtual 69, 3) := by decide +kernel
theorem dL_hangs_179 : decode cL_hangs 179 = .ok (.if_icmp .ne 20, 3) := by decide +kernel
theorem dL_hangs_182 : decode cL_hangs 182 = .ok (.aload_n 0, 1) := by decide +kernel
theorem dL_hangs_183 : decode cL_hangs 183 = .ok (.iload 7, 2) := by decide +kernel
theorem dL_hangs_185 : decode cL_hangs 185 = .ok (.iconst 4, 1) := by decide +kernel
theorem dL_hangs_186 : decode cL_hangs 186 = .ok (.invokevirtual 69, 3) := by decide +kernel
theorem dL_hangs_189 : decode cL_hangs 189 = .ok (.iconst 1, 1) := by decide +kernel
theorem dL_hangs_190 : decode cL_hangs 190 = .ok (.iload_n 1, 1) := by decide +kernel
theorem dL_hangs_191 : decode cL_hangs 191 = .ok (.ishl, 1) := by decide +kernel
theorem dL_hangs_192 : decode cL_hangs 192 = .ok (.if_icmp .ge 7, 3) := by decide +kernel
theorem dL_hangs_195 : decode cL_hangs 195 = .ok (.iconst 1, 1) := by decide +kernel
theorem dL_hangs_196 : decode cL_hangs 196 = .ok (.goto 4, 3) := by decide +kernel
theorem dL_hangs_199 : decode cL_hangs 199 = .ok (.iconst 0, 1) := by decide +kernel
theorem dL_hangs_200 : decode cL_hangs 200 = .ok (.istore 5, 2) := by decide +kernel
theorem dL_hangs_202 : decode cL_hangs 202 = .ok (.iload 6, 2) := by decide +kernel
theorem dL_hangs_204 : decode cL_hangs 204 = .ok (.iload 5, 2) := by decide +kernel
theorem dL_hangs_206 : decode cL_hangs 206 = .ok (.ifCond .eq 10, 3) := by decide +kernel
theorem dL_hangs_209 : decode cL_hangs 209 = .ok (.iconst 1, 1) := by decide +kernel
theorem dL_hangs_210 : decode cL_hangs 210 = .ok (.iload 8, 2) := by decide +kernel
theorem dL_hangs_212 : decode cL_hangs 212 = .ok (.ishl, 1) := by decide +kernel
theorem dL_hangs_213 : decode cL_hangs 213 = .ok (.goto 4, 3) := by decide +kernel
theorem dL_hangs_216 : decode cL_hangs 216 = .ok (.iconst 0, 1) := by decide +kernel
theorem dL_hangs_217 : decode cL_hangs 217 = .ok (.ior, 1) := by decide +kernel
theorem dL_hangs_218 : decode cL_hangs 218 = .ok (.istore 6, 2) := by decide +kernel
theorem dL_hangs_220 : decode cL_hangs 220 = .ok (.iload_n 3, 1) := by decide +kernel
theorem dL_hangs_221 : decode cL_hangs 221 = .ok (.iload 5, 2) := by decide +kernel
theorem dL_hangs_223 : decode cL_hangs 223 = .ok (.ifCond .eq 19, 3) := by decide +kernel
theorem dL_hangs_226 : decode cL_hangs 226 = .ok (.aload_n 0, 1) := by decide +kernel
theorem dL_hangs_227 : decode cL_hangs 227 = .ok (.iload 7, 2) := by decide +kernel
theorem dL_hangs_229 : decode cL_hangs 229 = .ok (.iconst 3, 1) := by decide +kernel
theorem dL_hangs_230 : decode cL_hangs 230 = .ok (.invokevirtual 69, 3) := by decide +kernel
theorem dL_hangs_233 : decode cL_hangs 233 = .ok (.iload 7, 2) := by decide +kernel
theorem dL_hangs_235 : decode cL_hangs 235 = .ok (.if_icmp .ne 7, 3) := by decide +kernel
theorem dL_hangs_238 : decode cL_hangs 238 = .ok (.iconst 1, 1) := by decide +kernel
theorem dL_hangs_239 : decode cL_hangs 239 = .ok (.goto 4, 3) := by decide +kernel
theorem dL_hangs_242 : decode cL_hangs 242 = .ok (.iconst 0, 1) := by decide +kernel
theorem dL_hangs_243 : decode cL_hangs 243 = .ok (.iadd, 1) := by decide +kernel
theorem dL_hangs_244 : decode cL_hangs 244 = .ok (.istore_n 3, 1) := by decide +kernel
theorem dL_hangs_245 : decode cL_hangs 245 = .ok (.iload 4, 2) := by decide +kernel
theorem dL_hangs_247 : decode cL_hangs 247 = .ok (.iload 5, 2) := by decide +kernel
theorem dL_hangs_249 : decode cL_hangs 249 = .ok (.ifCond .eq 14, 3) := by decide +kernel
theorem dL_hangs_252 : decode cL_hangs 252 = .ok (.iload 8, 2) := by decide +kernel
theorem dL_hangs_254 : decode cL_hangs 254 = .ok (.iload 7, 2) := by decide +kernel
theorem dL_hangs_256 : decode cL_hangs 256 = .ok (.if_icmp .ne 7, 3) := by decide +kernel
theorem dL_hangs_259 : decode cL_hangs 259 = .ok (.iconst 1, 1) := by decide +kernel
theorem dL_hangs_260 : decode cL_hangs 260 = .ok (.goto 4, 3) := by decide +kernel
theorem dL_hangs_263 : decode cL_hangs 263 = .ok (.iconst 0, 1) := by decide +kernel
theorem dL_hangs_264 : decode cL_hangs 264 = .ok (.iadd, 1) := by decide +kernel
theorem dL_hangs_265 : decode cL_hangs 265 = .ok (.istore 4, 2) := by decide +kernel
theorem dL_hangs_267 : decode cL_hangs 267 = .ok (.iinc 7 1, 3) := by decide +kernel
theorem dL_hangs_270 : decode cL_hangs 270 = .ok (.goto (-199), 3) := by decide +kernel
theorem dL_hangs_273 : decode cL_hangs 273 = .ok (.iload 5, 2) := by decide +kernel
theorem dL_hangs_275 : decode cL_hangs 275 = .ok (.ifCond .eq 45, 3) := by decide +kernel
theorem dL_hangs_278 : decode cL_hangs 278 = .ok (.iload_n 3, 1) := by decide +kernel
theorem dL_hangs_279 : decode cL_hangs 279 = .ok (.aload_n 0, 1) := by decide +kernel
theorem dL_hangs_280 : decode cL_hangs 280 = .ok (.iconst 1, 1) := by decide +kernel
theorem dL_hangs_281 : decode cL_hangs 281 = .ok (.invokevirtual 66, 3) := by decide +kernel
theorem dL_hangs_284 : decode cL_hangs 284 = .ok (.if_icmp .ne 36, 3) := by decide +kernel
theorem dL_hangs_287 : decode cL_hangs 287 = .ok (.iload 4, 2) := by decide +kernel
theorem dL_hangs_289 : decode cL_hangs 289 = .ok (.aload_n 0, 1) := by decide +kernel
theorem dL_hangs_290 : decode cL_hangs 290 = .ok (.iconst 2, 1) := by decide +kernel
theorem dL_hangs_291 : decode cL_hangs 291 = .ok (.invokevirtual 66, 3) := by decide +kernel
theorem dL_hangs_294 : decode cL_hangs 294 = .ok (.if_icmp .ne 26, 3) := by decide +kernel
theorem dL_hangs_297 : decode cL_hangs 297 = .ok (.aload_n 0, 1) := by decide +kernel
theorem dL_hangs_298 : decode cL_hangs 298 = .ok (.iconst 4, 1) := by decide +kernel
theorem dL_hangs_299 : decode cL_hangs 299 = .ok (.invokevirtual 66, 3) := by decide +kernel
theorem dL_hangs_302 : decode cL_hangs 302 = .ok (.iload_n 3, 1) := by decide +kernel
theorem dL_hangs_303 : decode cL_hangs 303 = .ok (.iconst 2, 1) := by decide +kernel
theorem dL_hangs_304 : decode cL_hangs 304 = .ok (.irem, 1) := by decide +kernel
theorem dL_hangs_305 : decode cL_hangs 305 = .ok (.ifCond .ne 7, 3) := by decide +kernel
theorem dL_hangs_308 : decode cL_hangs 308 = .ok (.iconst 1, 1) := by decide +kernel
theorem dL_hangs_309 : decode cL_hangs 309 = .ok (.goto 4, 3) := by decide +kernel
theorem dL_hangs_312 : decode cL_hangs 312 = .ok (.iconst 0, 1) := by decide +kernel
theorem dL_hangs_313 : decode cL_hangs 313 = .ok (.if_icmp .ne 7, 3) := by decide +kernel
theorem dL_hangs_316 : decode cL_hangs 316 = .ok (.iconst 1, 1) := by decide +kernel
theorem dL_hangs_317 : decode cL_hangs 317 = .ok (.goto 4, 3) := by decide +kernel
theorem dL_hangs_320 : decode cL_hangs 320 = .ok (.iconst 0, 1) := by decide +kernel
theorem dL_hangs_321 : decode cL_hangs 321 = .ok (.istore 5, 2) := by decide +kernel
theorem dL_hangs_323 : decode cL_hangs 323 = .ok (.iconst 0, 1) := by decide +kernel
theorem dL_hangs_324 : decode cL_hangs 324 = .ok (.istore 7, 2) := by decide +kernel
theorem dL_hangs_326 : decode cL_hangs 326 = .ok (.iconst 0, 1) := by decide +kernel
theorem dL_hangs_327 : decode cL_hangs 327 = .ok (.istore 8, 2) := by decide +kernel
theorem dL_hangs_329 : decode cL_hangs 329 = .ok (.iconst 0, 1) := by decide +kernel
theorem dL_hangs_330 : decode cL_hangs 330 = .ok (.istore 9, 2) := by decide +kernel
theorem dL_hangs_332 : decode cL_hangs 332 = .ok (.iconst 0, 1) := by decide +kernel
theorem dL_hangs_333 : decode cL_hangs 333 = .ok (.istore 10, 2) := by decide +kernel
theorem dL_hangs_335 : decode cL_hangs 335 = .ok (.aload_n 0, 1) := by decide +kernel
theorem dL_hangs_336 : decode cL_hangs 336 = .ok (.invokevirtual 72, 3) := by decide +kernel
theorem dL_hangs_339 : decode cL_hangs 339 = .ok (.istore 11, 2) := by decide +kernel
theorem dL_hangs_341 : decode cL_hangs 341 = .ok (.iconst 0, 1) := by decide +kernel
theorem dL_hangs_342 : decode cL_hangs 342 = .ok (.istore 12, 2) := by decide +kernel
theorem dL_hangs_344 : decode cL_hangs 344 = .ok (.iload 12, 2) := by decide +kernel
theorem dL_hangs_346 : decode cL_hangs 346 = .ok (.iload_n 1, 1) := by decide +kernel
theorem dL_hangs_347 : decode cL_hangs 347 = .ok (.if_icmp .ge 520, 3) := by decide +kernel
theorem dL_hangs_350 : decode cL_hangs 350 = .ok (.iload 5, 2) := by decide +kernel
theorem dL_hangs_352 : decode cL_hangs 352 = .ok (.ifCond .eq 515, 3) := by decide +kernel
theorem dL_hangs_355 : decode cL_hangs 355 = .ok (.aload_n 0, 1) := by decide +kernel
theorem dL_hangs_356 : decode cL_hangs 356 = .ok (.iload 12, 2) := by decide +kernel
theorem dL_hangs_358 : decode cL_hangs 358 = .ok (.iconst 0, 1) := by decide +kernel
theorem dL_hangs_359 : decode cL_hangs 359 = .ok (.invokevirtual 75, 3) := by decide +kernel
theorem dL_hangs_362 : decode cL_hangs 362 = .ok (.istore 13, 2) := by decide +kernel
theorem dL_hangs_364 : decode cL_hangs 364 = .ok (.aload_n 0, 1) := by decide +kernel
theorem dL_hangs_365 : decode cL_hangs 365 = .ok (.iload 12, 2) := by decide +kernel
theorem dL_hangs_367 : decode cL_hangs 367 = .ok (.iconst 1, 1) := by decide +kernel
theorem dL_hangs_368 : decode cL_hangs 368 = .ok (.invokevirtual 75, 3) := by decide +kernel
theorem dL_hangs_371 : decode cL_hangs 371 = .ok (.istore 14, 2) := by decide +kernel
theorem dL_hangs_373 : decode cL_hangs 373 = .ok (.aload_n 0, 1) := by decide +kernel
theorem dL_hangs_374 : decode cL_hangs 374 = .ok (.iload 12, 2) := by decide +kernel
theorem dL_hangs_376 : decode cL_hangs 376 = .ok (.bipush 6, 2) := by decide +kernel
theorem dL_hangs_378 : decode cL_hangs 378 = .ok (.invokevirtual 75, 3) := by decide +kernel
theorem dL_hangs_381 : decode cL_hangs 381 = .ok (.istore 15, 2) := by decide +kernel
theorem dL_hangs_383 : decode cL_hangs 383 = .ok (.iload 13, 2) := by decide +kernel
theorem dL_hangs_385 : decode cL_hangs 385 = .ok (.ifCond .lt 199, 3) := by decide +kernel
theorem dL_hangs_388 : decode cL_hangs 388 = .ok (.iload 13, 2) := by decide +kernel
theorem dL_hangs_390 : decode cL_hangs 390 = .ok (.ldc 78, 2) := by decide +kernel
theorem dL_hangs_392 : decode cL_hangs 392 = .ok (.if_icmp .ge 192, 3) := by decide +kernel
theorem dL_hangs_395 : decode cL_hangs 395 = .ok (.iload 14, 2) := by decide +kernel
theorem dL_hangs_397 : decode cL_hangs 397 = .ok (.ifCond .lt 187, 3) := by decide +kernel
theorem dL_hangs_400 : decode cL_hangs 400 = .ok (.iload 14, 2) := by decide +kernel
theorem dL_hangs_402 : decode cL_hangs 402 = .ok (.ldc 78, 2) := by decide +kernel
theorem dL_hangs_404 : decode cL_hangs 404 = .ok (.if_icmp .ge 180, 3) := by decide +kernel
theorem dL_hangs_407 : decode cL_hangs 407 = .ok (.aload_n 0, 1) := by decide +kernel
theorem dL_hangs_408 : decode cL_hangs 408 = .ok (.iload 12, 2) := by decide +kernel
theorem dL_hangs_410 : decode cL_hangs 410 = .ok (.iconst 2, 1) := by decide +kernel
theorem dL_hangs_411 : decode cL_hangs 411 = .ok (.invokevirtual 75, 3) := by decide +kernel
theorem dL_hangs_414 : decode cL_hangs 414 = .ok (.iload 13, 2) := by decide +kernel
theorem dL_hangs_416 : decode cL_hangs 416 = .ok (.iload 14, 2) := by decide +kernel
theorem dL_hangs_418 : decode cL_hangs 418 = .ok (.iconst (-1), 1) := by decide +kernel
theorem dL_hangs_419 : decode cL_hangs 419 = .ok (.ixor, 1) := by decide +kernel
theorem dL_hangs_420 : decode cL_hangs 420 = .ok (.iand, 1) := by decide +kernel
theorem dL_hangs_421 : decode cL_hangs 421 = .ok (.if_icmp .ne 163, 3) := by decide +kernel
theorem dL_hangs_424 : decode cL_hangs 424 = .ok (.aload_n 0, 1) := by decide +kernel
theorem dL_hangs_425 : decode cL_hangs 425 = .ok (.iload 12, 2) := by decide +kernel
theorem dL_hangs_427 : decode cL_hangs 427 = .ok (.iconst 3, 1) := by decide +kernel
theorem dL_hangs_428 : decode cL_hangs 428 = .ok (.invokevirtual 75, 3) := by decide +kernel
theorem dL_hangs_431 : decode cL_hangs 431 = .ok (.iload 14, 2) := by decide +kernel
theorem dL_hangs_433 : decode cL_hangs 433 = .ok (.iload 13, 2) := by decide +kernel
theorem dL_hangs_435 : decode cL_hangs 435 = .ok (.iconst (-1), 1) := by decide +kernel
theorem dL_hangs_436 : decode cL_hangs 436 = .ok (.ixor, 1) := by decide +kernel
theorem dL_hangs_437 : decode cL_hangs 437 = .ok (.iand, 1) := by decide +kernel
theorem dL_hangs_438 : decode cL_hangs 438 = .ok (.if_icmp .ne 146, 3) := by decide +kernel
theorem dL_hangs_441 : decode cL_hangs 441 = .ok (.aload_n 0, 1) := by decide +kernel
theorem dL_hangs_442 : decode cL_hangs 442 = .ok (.iload 12, 2) := by decide +kernel
theorem dL_hangs_444 : decode cL_hangs 444 = .ok (.iconst 4, 1) := by decide +kernel
theorem dL_hangs_445 : decode cL_hangs 445 = .ok (.invokevirtual 75, 3) := by decide +kernel
theorem dL_hangs_448 : decode cL_hangs 448 = .ok (.iload 13, 2) := by decide +kernel
theorem dL_hangs_450 : decode cL_hangs 450 = .ok (.invokestatic 79, 3) := by decide +kernel
theorem dL_hangs_453 : decode cL_hangs 453 = .ok (.if_icmp .ne 131, 3) := by decide +kernel
theorem dL_hangs_456 : decode cL_hangs 456 = .ok (.aload_n 0, 1) := by decide +kernel
theorem dL_hangs_457 : decode cL_hangs 457 = .ok (.iload 12, 2) := by decide +kernel
theorem dL_hangs_459 : decode cL_hangs 459 = .ok (.iconst 5, 1) := by decide +kernel
theorem dL_hangs_460 : decode cL_hangs 460 = .ok (.invokevirtual 75, 3) := by decide +kernel
theorem dL_hangs_463 : decode cL_hangs 463 = .ok (.iconst 1, 1) := by decide +kernel
theorem dL_hangs_464 : decode cL_hangs 464 = .ok (.if_icmp .ne 7, 3) := by decide +kernel
theorem dL_hangs_467 : decode cL_hangs 467 = .ok (.iconst 1, 1) := by decide +kernel
theorem dL_hangs_468 : decode cL_hangs 468 = .ok (.goto 4, 3) := by decide +kernel
theorem dL_hangs_471 : decode cL_hangs 471 = .ok (.iconst 0, 1) := by decide +kernel
theorem dL_hangs_472 : decode cL_hangs 472 = .ok (.iload 13, 2) := by decide +kernel
theorem dL_hangs_474 : decode cL_hangs 474 = .ok (.iload 14, 2) := by decide +kernel
theorem dL_hangs_476 : decode cL_hangs 476 = .ok (.if_icmp .eq 7, 3) := by decide +kernel
theorem dL_hangs_479 : decode cL_hangs 479 = .ok (.iconst 1, 1) := by decide +kernel
theorem dL_hangs_480 : decode cL_hangs 480 = .ok (.goto 4, 3) := by decide +kernel
theorem dL_hangs_483 : decode cL_hangs 483 = .ok (.iconst 0, 1) := by decide +kernel
theorem dL_hangs_484 : decode cL_hangs 484 = .ok (.if_icmp .ne 100, 3) := by decide +kernel
theorem dL_hangs_487 : decode cL_hangs 487 = .ok (.iload 15, 2) := by decide +kernel
theorem dL_hangs_489 : decode cL_hangs 489 = .ok (.iconst 1, 1) := by decide +kernel
theorem dL_hangs_490 : decode cL_hangs 490 = .ok (.if_icmp .lt 94, 3) := by decide +kernel
theorem dL_hangs_493 : decode cL_hangs 493 = .ok (.iload_n 2, 1) := by decide +kernel
theorem dL_hangs_494 : decode cL_hangs 494 = .ok (.iload 15, 2) := by decide +kernel
theorem dL_hangs_496 : decode cL_hangs 496 = .ok (.irem, 1) := by decide +kernel
theorem dL_hangs_497 : decode cL_hangs 497 = .ok (.ifCond .ne 87, 3) := by decide +kernel
theorem dL_hangs_500 : decode cL_hangs 500 = .ok (.aload_n 0, 1) := by decide +kernel
theorem dL_hangs_501 : decode cL_hangs 501 = .ok (.iload 12, 2) := by decide +kernel
theorem dL_hangs_503 : decode cL_hangs 503 = .ok (.bipush 7, 2) := by decide +kernel
theorem dL_hangs_505 : decode cL_hangs 505 = .ok (.invokevirtual 75, 3) := by decide +kernel
theorem dL_hangs_508 : decode cL_hangs 508 = .ok (.ifCond .eq 13, 3) := by decide +kernel
theorem dL_hangs_511 : decode cL_hangs 511 = .ok (.iload 11, 2) := by decide +kernel
theorem dL_hangs_513 : decode cL_hangs 513 = .ok (.iload 13, 2) := by decide +kernel
theorem dL_hangs_515 : decode cL_hangs 515 = .ok (.iconst (-1), 1) := by decide +kernel
theorem dL_hangs_516 : decode cL_hangs 516 = .ok (.ixor, 1) := by decide +kernel
theorem dL_hangs_517 : decode cL_hangs 517 = .ok (.iand, 1) := by decide +kernel
theorem dL_hangs_518 : decode cL_hangs 518 = .ok (.ifCond .ne 66, 3) := by decide +kernel
theorem dL_hangs_521 : decode cL_hangs 521 = .ok (.aload_n 0, 1) := by decide +kernel
theorem dL_hangs_522 : decode cL_hangs 522 = .ok (.iload 12, 2) := by decide +kernel
theorem dL_hangs_524 : decode cL_hangs 524 = .ok (.iload 12, 2) := by decide +kernel
theorem dL_hangs_526 : decode cL_hangs 526 = .ok (.invokevirtual 84, 3) := by decide +kernel
theorem dL_hangs_529 : decode cL_hangs 529 = .ok (.ifCond .ne 55, 3) := by decide +kernel
theorem dL_hangs_532 : decode cL_hangs 532 = .ok (.aload_n 0, 1) := by decide +kernel
theorem dL_hangs_533 : decode cL_hangs 533 = .ok (.iload 12, 2) := by decide +kernel
theorem dL_hangs_535 : decode cL_hangs 535 = .ok (.iload 12, 2) := by decide +kernel
theorem dL_hangs_537 : decode cL_hangs 537 = .ok (.invokevirtual 87, 3) := by decide +kernel
theorem dL_hangs_540 : decode cL_hangs 540 = .ok (.ifCond .ne 44, 3) := by decide +kernel
theorem dL_hangs_543 : decode cL_hangs 543 = .ok (.aload_n 0, 1) := by decide +kernel
theorem dL_hangs_544 : decode cL_hangs 544 = .ok (.iload 12, 2) := by decide +kernel
theorem dL_hangs_546 : decode cL_hangs 546 = .ok (.invokevirtual 90, 3) := by decide +kernel
theorem dL_hangs_549 : decode cL_hangs 549 = .ok (.iload 12, 2) := by decide +kernel
theorem dL_hangs_551 : decode cL_hangs 551 = .ok (.ishr, 1) := by decide +kernel
theorem dL_hangs_552 : decode cL_hangs 552 = .ok (.iconst 1, 1) := by decide +kernel
theorem dL_hangs_553 : decode cL_hangs 553 = .ok (.iand, 1) := by decide +kernel
theorem dL_hangs_554 : decode cL_hangs 554 = .ok (.iconst 1, 1) := by decide +kernel
theorem dL_hangs_555 : decode cL_hangs 555 = .ok (.if_icmp .ne 29, 3) := by decide +kernel
theorem dL_hangs_558 : decode cL_hangs 558 = .ok (.aload_n 0, 1) := by decide +kernel
theorem dL_hangs_559 : decode cL_hangs 559 = .ok (.iload 12, 2) := by decide +kernel
theorem dL_hangs_561 : decode cL_hangs 561 = .ok (.iload 12, 2) := by decide +kernel
theorem dL_hangs_563 : decode cL_hangs 563 = .ok (.invokevirtual 93, 3) := by decide +kernel
theorem dL_hangs_566 : decode cL_hangs 566 = .ok (.iload 13, 2) := by decide +kernel
theorem dL_hangs_568 : decode cL_hangs 568 = .ok (.ifCond .ne 8, 3) := by decide +kernel
theorem dL_hangs_571 : decode cL_hangs 571 = .ok (.bipush (-5), 2) := by decide +kernel
theorem dL_hangs_573 : decode cL_hangs 573 = .ok (.goto 4, 3) := by decide +kernel
theorem dL_hangs_576 : decode cL_hangs 576 = .ok (.iconst 0, 1) := by decide +kernel
theorem dL_hangs_577 : decode cL_hangs 577 = .ok (.if_icmp .ne 7, 3) := by decide +kernel
theorem dL_hangs_580 : decode cL_hangs 580 = .ok (.iconst 1, 1) := by decide +kernel
theorem dL_hangs_581 : decode cL_hangs 581 = .ok (.goto 4, 3) := by decide +kernel
theorem dL_hangs_584 : decode cL_hangs 584 = .ok (.iconst 0, 1) := by decide +kernel
theorem dL_hangs_585 : decode cL_hangs 585 = .ok (.istore 5, 2) := by decide +kernel
theorem dL_hangs_587 : decode cL_hangs 587 = .ok (.iload 12, 2) := by decide +kernel
theorem dL_hangs_589 : decode cL_hangs 589 = .ok (.iconst 1, 1) := by decide +kernel
theorem dL_hangs_590 : decode cL_hangs 590 = .ok (.iadd, 1) := by decide +kernel
theorem dL_hangs_591 : decode cL_hangs 591 = .ok (.iload_n 1, 1) := by decide +kernel
theorem dL_hangs_592 : decode cL_hangs 592 = .ok (.irem, 1) := by decide +kernel
theorem dL_hangs_593 : decode cL_hangs 593 = .ok (.istore 16, 2) := by decide +kernel
theorem dL_hangs_595 : decode cL_hangs 595 = .ok (.aload_n 0, 1) := by decide +kernel
theorem dL_hangs_596 : decode cL_hangs 596 = .ok (.iload 12, 2) := by decide +kernel
theorem dL_hangs_598 : decode cL_hangs 598 = .ok (.iload 16, 2) := by decide +kernel
theorem dL_hangs_600 : decode cL_hangs 600 = .ok (.invokevirtual 84, 3) := by decide +kernel
theorem dL_hangs_603 : decode cL_hangs 603 = .ok (.istore 17, 2) := by decide +kernel
theorem dL_hangs_605 : decode cL_hangs 605 = .ok (.aload_n 0, 1) := by decide +kernel
theorem dL_hangs_606 : decode cL_hangs 606 = .ok (.iload 16, 2) := by decide +kernel
theorem dL_hangs_608 : decode cL_hangs 608 = .ok (.iload 12, 2) := by decide +kernel
theorem dL_hangs_610 : decode cL_hangs 610 = .ok (.invokevirtual 84, 3) := by decide +kernel
theorem dL_hangs_613 : decode cL_hangs 613 = .ok (.istore 18, 2) := by decide +kernel
theorem dL_hangs_615 : decode cL_hangs 615 = .ok (.iload 5, 2) := by decide +kernel
theorem dL_hangs_617 : decode cL_hangs 617 = .ok (.ifCond .eq 130, 3) := by decide +kernel
theorem dL_hangs_620 : decode cL_hangs 620 = .ok (.iload 17, 2) := by decide +kernel
theorem dL_hangs_622 : decode cL_hangs 622 = .ok (.ifCond .lt 7, 3) := by decide +kernel
theorem dL_hangs_625 : decode cL_hangs 625 = .ok (.iconst 1, 1) := by decide +kernel
theorem dL_hangs_626 : decode cL_hangs 626 = .ok (.goto 4, 3) := by decide +kernel
theorem dL_hangs_629 : decode cL_hangs 629 = .ok (.iconst 0, 1) := by decide +kernel
theorem dL_hangs_630 : decode cL_hangs 630 = .ok (.iload 18, 2) := by decide +kernel
theorem dL_hangs_632 : decode cL_hangs 632 = .ok (.ifCond .lt 7, 3) := by decide +kernel
theorem dL_hangs_635 : decode cL_hangs 635 = .ok (.iconst 1, 1) := by decide +kernel
theorem dL_hangs_636 : decode cL_hangs 636 = .ok (.goto 4, 3) := by decide +kernel
theorem dL_hangs_639 : decode cL_hangs 639 = .ok (.iconst 0, 1) := by decide +kernel
theorem dL_hangs_640 : decode cL_hangs 640 = .ok (.if_icmp .ne 107, 3) := by decide +kernel
theorem dL_hangs_643 : decode cL_hangs 643 = .ok (.iload 17, 2) := by decide +kernel
theorem dL_hangs_645 : decode cL_hangs 645 = .ok (.ifCond .lt 7, 3) := by decide +kernel
theorem dL_hangs_648 : decode cL_hangs 648 = .ok (.iconst 1, 1) := by decide +kernel
theorem dL_hangs_649 : decode cL_hangs 649 = .ok (.goto 4, 3) := by decide +kernel
theorem dL_hangs_652 : decode cL_hangs 652 = .ok (.iconst 0, 1) := by decide +kernel
theorem dL_hangs_653 : decode cL_hangs 653 = .ok (.aload_n 0, 1) := by decide +kernel
theorem dL_hangs_654 : decode cL_hangs 654 = .ok (.iload 12, 2) := by decide +kernel
theorem dL_hangs_656 : decode cL_hangs 656 = .ok (.iload 16, 2) := by decide +kernel
theorem dL_hangs_658 : decode cL_hangs 658 = .ok (.invokevirtual 87, 3) := by decide +kernel
theorem dL_hangs_661 : decode cL_hangs 661 = .ok (.ifCond .ne 7, 3) := by decide +kernel
theorem dL_hangs_664 : decode cL_hangs 664 = .ok (.iconst 1, 1) := by decide +kernel
theorem dL_hangs_665 : decode cL_hangs 665 = .ok (.goto 4, 3) := by decide +kernel
theorem dL_hangs_668 : decode cL_hangs 668 = .ok (.iconst 0, 1) := by decide +kernel
theorem dL_hangs_669 : decode cL_hangs 669 = .ok (.if_icmp .ne 78, 3) := by decide +kernel
theorem dL_hangs_672 : decode cL_hangs 672 = .ok (.iload 17, 2) := by decide +kernel
theorem dL_hangs_674 : decode cL_hangs 674 = .ok (.ifCond .lt 7, 3) := by decide +kernel
theorem dL_hangs_677 : decode cL_hangs 677 = .ok (.iconst 1, 1) := by decide +kernel
theorem dL_hangs_678 : decode cL_hangs 678 = .ok (.goto 4, 3) := by decide +kernel
theorem dL_hangs_681 : decode cL_hangs 681 = .ok (.iconst 0, 1) := by decide +kernel
theorem dL_hangs_682 : decode cL_hangs 682 = .ok (.aload_n 0, 1) := by decide +kernel
theorem dL_hangs_683 : decode cL_hangs 683 = .ok (.iload 12, 2) := by decide +kernel
theorem dL_hangs_685 : decode cL_hangs 685 = .ok (.invokevirtual 90, 3) := by decide +kernel
theorem dL_hangs_688 : decode cL_hangs 688 = .ok (.iload 16, 2) := by decide +kernel
theorem dL_hangs_690 : decode cL_hangs 690 = .ok (.ishr, 1) := by decide +kernel
theorem dL_hangs_691 : decode cL_hangs 691 = .ok (.iconst 1, 1) := by decide +kernel
theorem dL_hangs_692 : decode cL_hangs 692 = .ok (.iand, 1) := by decide +kernel
theorem dL_hangs_693 : decode cL_hangs 693 = .ok (.iconst 1, 1) := by decide +kernel
theorem dL_hangs_694 : decode cL_hangs 694 = .ok (.if_icmp .ne 7, 3) := by decide +kernel
theorem dL_hangs_697 : decode cL_hangs 697 = .ok (.iconst 1, 1) := by decide +kernel
theorem dL_hangs_698 : decode cL_hangs 698 = .ok (.goto 4, 3) := by decide +kernel
theorem dL_hangs_701 : decode cL_hangs 701 = .ok (.iconst 0, 1) := by decide +kernel
theorem dL_hangs_702 : decode cL_hangs 702 = .ok (.if_icmp .ne 45, 3) := by decide +kernel
theorem dL_hangs_705 : decode cL_hangs 705 = .ok (.iload 17, 2) := by decide +kernel
theorem dL_hangs_707 : decode cL_hangs 707 = .ok (.ifCond .lt 36, 3) := by decide +kernel
theorem dL_hangs_710 : decode cL_hangs 710 = .ok (.iload 17, 2) := by decide +kernel
theorem dL_hangs_712 : decode cL_hangs 712 = .ok (.iload 18, 2) := by decide +kernel
theorem dL_hangs_714 : decode cL_hangs 714 = .ok (.iadd, 1) := by decide +kernel
theorem dL_hangs_715 : decode cL_hangs 715 = .ok (.iload 15, 2) := by decide +kernel
theorem dL_hangs_717 : decode cL_hangs 717 = .ok (.irem, 1) := by decide +kernel
theorem dL_hangs_718 : decode cL_hangs 718 = .ok (.ifCond .ne 29, 3) := by decide +kernel
theorem dL_hangs_721 : decode cL_hangs 721 = .ok (.iload 17, 2) := by decide +kernel
theorem dL_hangs_723 : decode cL_hangs 723 = .ok (.iload 15, 2) := by decide +kernel
theorem dL_hangs_725 : decode cL_hangs 725 = .ok (.if_icmp .ge 22, 3) := by decide +kernel
theorem dL_hangs_728 : decode cL_hangs 728 = .ok (.aload_n 0, 1) := by decide +kernel
theorem dL_hangs_729 : decode cL_hangs 729 = .ok (.iload 12, 2) := by decide +kernel
theorem dL_hangs_731 : decode cL_hangs 731 = .ok (.invokevirtual 90, 3) := by decide +kernel
theorem dL_hangs_734 : decode cL_hangs 734 = .ok (.aload_n 0, 1) := by decide +kernel
theorem dL_hangs_735 : decode cL_hangs 735 = .ok (.iload 16, 2) := by decide +kernel
theorem dL_hangs_737 : decode cL_hangs 737 = .ok (.invokevirtual 90, 3) := by decide +kernel
theorem dL_hangs_740 : decode cL_hangs 740 = .ok (.if_icmp .ne 7, 3) := by decide +kernel
theorem dL_hangs_743 : decode cL_hangs 743 = .ok (.iconst 1, 1) := by decide +kernel
theorem dL_hangs_744 : decode cL_hangs 744 = .ok (.goto 4, 3) := by decide +kernel
theorem dL_hangs_747 : decode cL_hangs 747 = .ok (.iconst 0, 1) := by decide +kernel
theorem dL_hangs_748 : decode cL_hangs 748 = .ok (.istore 5, 2) := by decide +kernel
theorem dL_hangs_750 : decode cL_hangs 750 = .ok (.iload 7, 2) := by decide +kernel
theorem dL_hangs_752 : decode cL_hangs 752 = .ok (.iload 13, 2) := by decide +kernel
theorem dL_hangs_754 : decode cL_hangs 754 = .ok (.invokestatic 79, 3) := by decide +kernel
theorem dL_hangs_757 : decode cL_hangs 757 = .ok (.iadd, 1) := by decide +kernel
theorem dL_hangs_758 : decode cL_hangs 758 = .ok (.istore 7, 2) := by decide +kernel
theorem dL_hangs_760 : decode cL_hangs 760 = .ok (.iload 8, 2) := by decide +kernel
theorem dL_hangs_762 : decode cL_hangs 762 = .ok (.iload 14, 2) := by decide +kernel
theorem dL_hangs_764 : decode cL_hangs 764 = .ok (.invokestatic 79, 3) := by decide +kernel
theorem dL_hangs_767 : decode cL_hangs 767 = .ok (.iadd, 1) := by decide +kernel
theorem dL_hangs_768 : decode cL_hangs 768 = .ok (.istore 8, 2) := by decide +kernel
theorem dL_hangs_770 : decode cL_hangs 770 = .ok (.iload 9, 2) := by decide +kernel
theorem dL_hangs_772 : decode cL_hangs 772 = .ok (.aload_n 0, 1) := by decide +kernel
theorem dL_hangs_773 : decode cL_hangs 773 = .ok (.iload 12, 2) := by decide +kernel
theorem dL_hangs_775 : decode cL_hangs 775 = .ok (.iconst 5, 1) := by decide +kernel
theorem dL_hangs_776 : decode cL_hangs 776 = .ok (.invokevirtual 75, 3) := by decide +kernel
theorem dL_hangs_779 : decode cL_hangs 779 = .ok (.iadd, 1) := by decide +kernel
theorem dL_hangs_780 : decode cL_hangs 780 = .ok (.istore 9, 2) := by decide +kernel
theorem dL_hangs_782 : decode cL_hangs 782 = .ok (.iload 10, 2) := by decide +kernel
theorem dL_hangs_784 : decode cL_hangs 784 = .ok (.aload_n 0, 1) := by decide +kernel
theorem dL_hangs_785 : decode cL_hangs 785 = .ok (.iload 12, 2) := by decide +kernel
theorem dL_hangs_787 : decode cL_hangs 787 = .ok (.bipush 7, 2) := by decide +kernel
theorem dL_hangs_789 : decode cL_hangs 789 = .ok (.invokevirtual 75, 3) := by decide +kernel
theorem dL_hangs_792 : decode cL_hangs 792 = .ok (.iadd, 1) := by decide +kernel
theorem dL_hangs_793 : decode cL_hangs 793 = .ok (.istore 10, 2) := by decide +kernel
theorem dL_hangs_795 : decode cL_hangs 795 = .ok (.iload 5, 2) := by decide +kernel
theorem dL_hangs_797 : decode cL_hangs 797 = .ok (.ifCond .eq 61, 3) := by decide +kernel
theorem dL_hangs_800 : decode cL_hangs 800 = .ok (.aload_n 0, 1) := by decide +kernel
theorem dL_hangs_801 : decode cL_hangs 801 = .ok (.iload 12, 2) := by decide +kernel
theorem dL_hangs_803 : decode cL_hangs 803 = .ok (.bipush 7, 2) := by decide +kernel
theorem dL_hangs_805 : decode cL_hangs 805 = .ok (.invokevirtual 75, 3) := by decide +kernel
theorem dL_hangs_808 : decode cL_hangs 808 = .ok (.iconst 1, 1) := by decide +kernel
theorem dL_hangs_809 : decode cL_hangs 809 = .ok (.if_icmp .ne 33, 3) := by decide +kernel
theorem dL_hangs_812 : decode cL_hangs 812 = .ok (.aload_n 0, 1) := by decide +kernel
theorem dL_hangs_813 : decode cL_hangs 813 = .ok (.iload 12, 2) := by decide +kernel
theorem dL_hangs_815 : decode cL_hangs 815 = .ok (.iconst 1, 1) := by decide +kernel
theorem dL_hangs_816 : decode cL_hangs 816 = .ok (.invokevirtual 96, 3) := by decide +kernel
theorem dL_hangs_819 : decode cL_hangs 819 = .ok (.iload 11, 2) := by decide +kernel
theorem dL_hangs_821 : decode cL_hangs 821 = .ok (.invokestatic 79, 3) := by decide +kernel
theorem dL_hangs_824 : decode cL_hangs 824 = .ok (.if_icmp .lt 34, 3) := by decide +kernel
theorem dL_hangs_827 : decode cL_hangs 827 = .ok (.aload_n 0, 1) := by decide +kernel
theorem dL_hangs_828 : decode cL_hangs 828 = .ok (.iload 12, 2) := by decide +kernel
theorem dL_hangs_830 : decode cL_hangs 830 = .ok (.iconst 0, 1) := by decide +kernel
theorem dL_hangs_831 : decode cL_hangs 831 = .ok (.invokevirtual 96, 3) := by decide +kernel
theorem dL_hangs_834 : decode cL_hangs 834 = .ok (.iload 15, 2) := by decide +kernel
theorem dL_hangs_836 : decode cL_hangs 836 = .ok (.if_icmp .ge 22, 3) := by decide +kernel
theorem dL_hangs_839 : decode cL_hangs 839 = .ok (.goto 15, 3) := by decide +kernel
theorem dL_hangs_842 : decode cL_hangs 842 = .ok (.aload_n 0, 1) := by decide +kernel
theorem dL_hangs_843 : decode cL_hangs 843 = .ok (.iload 12, 2) := by decide +kernel
theorem dL_hangs_845 : decode cL_hangs 845 = .ok (.iconst 0, 1) := by decide +kernel
theorem dL_hangs_846 : decode cL_hangs 846 = .ok (.invokevirtual 96, 3) := by decide +kernel
theorem dL_hangs_849 : decode cL_hangs 849 = .ok (.bipush (-4), 2) := by decide +kernel
theorem dL_hangs_851 : decode cL_hangs 851 = .ok (.if_icmp .ne 7, 3) := by decide +kernel
theorem dL_hangs_854 : decode cL_hangs 854 = .ok (.iconst 1, 1) := by decide +kernel
theorem dL_hangs_855 : decode cL_hangs 855 = .ok (.goto 4, 3) := by decide +kernel
theorem dL_hangs_858 : decode cL_hangs 858 = .ok (.iconst 0, 1) := by decide +kernel
theorem dL_hangs_859 : decode cL_hangs 859 = .ok (.istore 5, 2) := by decide +kernel
theorem dL_hangs_861 : decode cL_hangs 861 = .ok (.iinc 12 1, 3) := by decide +kernel
theorem dL_hangs_864 : decode cL_hangs 864 = .ok (.goto (-520), 3) := by decide +kernel
theorem dL_hangs_867 : decode cL_hangs 867 = .ok (.iload 5, 2) := by decide +kernel
theorem dL_hangs_869 : decode cL_hangs 869 = .ok (.ifCond .eq 100, 3) := by decide +kernel
theorem dL_hangs_872 : decode cL_hangs 872 = .ok (.aload_n 0, 1) := by decide +kernel
theorem dL_hangs_873 : decode cL_hangs 873 = .ok (.iconst 1, 1) := by decide +kernel
theorem dL_hangs_874 : decode cL_hangs 874 = .ok (.invokevirtual 9, 3) := by decide +kernel
theorem dL_hangs_877 : decode cL_hangs 877 = .ok (.iload 10, 2) := by decide +kernel
theorem dL_hangs_879 : decode cL_hangs 879 = .ok (.if_icmp .ne 90, 3) := by decide +kernel
theorem dL_hangs_882 : decode cL_hangs 882 = .ok (.aload_n 0, 1) := by decide +kernel
theorem dL_hangs_883 : decode cL_hangs 883 = .ok (.iconst 2, 1) := by decide +kernel
theorem dL_hangs_884 : decode cL_hangs 884 = .ok (.invokevirtual 9, 3) := by decide +kernel
theorem dL_hangs_887 : decode cL_hangs 887 = .ok (.iload 9, 2) := by decide +kernel
theorem dL_hangs_889 : decode cL_hangs 889 = .ok (.if_icmp .ne 80, 3) := by decide +kernel
theorem dL_hangs_892 : decode cL_hangs 892 = .ok (.aload_n 0, 1) := by decide +kernel
theorem dL_hangs_893 : decode cL_hangs 893 = .ok (.iconst 3, 1) := by decide +kernel
theorem dL_hangs_894 : decode cL_hangs 894 = .ok (.invokevirtual 9, 3) := by decide +kernel
theorem dL_hangs_897 : decode cL_hangs 897 = .ok (.iload 7, 2) := by decide +kernel
theorem dL_hangs_899 : decode cL_hangs 899 = .ok (.if_icmp .ne 70, 3) := by decide +kernel
theorem dL_hangs_902 : decode cL_hangs 902 = .ok (.aload_n 0, 1) := by decide +kernel
theorem dL_hangs_903 : decode cL_hangs 903 = .ok (.iconst 4, 1) := by decide +kernel
theorem dL_hangs_904 : decode cL_hangs 904 = .ok (.invokevirtual 9, 3) := by decide +kernel
theorem dL_hangs_907 : decode cL_hangs 907 = .ok (.iload 8, 2) := by decide +kernel
theorem dL_hangs_909 : decode cL_hangs 909 = .ok (.if_icmp .ne 60, 3) := by decide +kernel
theorem dL_hangs_912 : decode cL_hangs 912 = .ok (.aload_n 0, 1) := by decide +kernel
theorem dL_hangs_913 : decode cL_hangs 913 = .ok (.iconst 5, 1) := by decide +kernel
theorem dL_hangs_914 : decode cL_hangs 914 = .ok (.invokevirtual 9, 3) := by decide +kernel
theorem dL_hangs_917 : decode cL_hangs 917 = .ok (.iload 11, 2) := by decide +kernel
theorem dL_hangs_919 : decode cL_hangs 919 = .ok (.invokestatic 79, 3) := by decide +kernel
theorem dL_hangs_922 : decode cL_hangs 922 = .ok (.if_icmp .ne 47, 3) := by decide +kernel
theorem dL_hangs_925 : decode cL_hangs 925 = .ok (.iload 10, 2) := by decide +kernel
theorem dL_hangs_927 : decode cL_hangs 927 = .ok (.ifCond .gt 8, 3) := by decide +kernel
theorem dL_hangs_930 : decode cL_hangs 930 = .ok (.iload 11, 2) := by decide +kernel
theorem dL_hangs_932 : decode cL_hangs 932 = .ok (.ifCond .ne 37, 3) := by decide +kernel
theorem dL_hangs_935 : decode cL_hangs 935 = .ok (.aload_n 0, 1) := by decide +kernel
theorem dL_hangs_936 : decode cL_hangs 936 = .ok (.bipush 6, 2) := by decide +kernel
theorem dL_hangs_938 : decode cL_hangs 938 = .ok (.invokevirtual 9, 3) := by decide +kernel
theorem dL_hangs_941 : decode cL_hangs 941 = .ok (.iload 8, 2) := by decide +kernel
theorem dL_hangs_943 : decode cL_hangs 943 = .ok (.if_icmp .lt 26, 3) := by decide +kernel
theorem dL_hangs_946 : decode cL_hangs 946 = .ok (.aload_n 0, 1) := by decide +kernel
theorem dL_hangs_947 : decode cL_hangs 947 = .ok (.bipush 9, 2) := by decide +kernel
theorem dL_hangs_949 : decode cL_hangs 949 = .ok (.invokevirtual 9, 3) := by decide +kernel
theorem dL_hangs_952 : decode cL_hangs 952 = .ok (.ifCond .lt 17, 3) := by decide +kernel
theorem dL_hangs_955 : decode cL_hangs 955 = .ok (.aload_n 0, 1) := by decide +kernel
theorem dL_hangs_956 : decode cL_hangs 956 = .ok (.bipush 9, 2) := by decide +kernel
theorem dL_hangs_958 : decode cL_hangs 958 = .ok (.invokevirtual 9, 3) := by decide +kernel
theorem dL_hangs_961 : decode cL_hangs 961 = .ok (.iconst 5, 1) := by decide +kernel
theorem dL_hangs_962 : decode cL_hangs 962 = .ok (.if_icmp .ge 7, 3) := by decide +kernel
theorem dL_hangs_965 : decode cL_hangs 965 = .ok (.iconst 1, 1) := by decide +kernel
theorem dL_hangs_966 : decode cL_hangs 966 = .ok (.goto 4, 3) := by decide +kernel
theorem dL_hangs_969 : decode cL_hangs 969 = .ok (.iconst 0, 1) := by decide +kernel
theorem dL_hangs_970 : decode cL_hangs 970 = .ok (.ireturn, 1) := by decide +kernel
theorem dL_same_0 : decode cL_same 0 = .ok (.aload_n 0, 1) := by decide +kernel
theorem dL_same_1 : decode cL_same 1 = .ok (.invokevirtual 72, 3) := by decide +kernel
theorem dL_same_4 : decode cL_same 4 = .ok (.aload_n 1, 1) := by decide +kernel
theorem dL_same_5 : decode cL_same 5 = .ok (.invokevirtual 72, 3) := by decide +kernel
theorem dL_same_8 : decode cL_same 8 = .ok (.if_icmp .ne 7, 3) := by decide +kernel
theorem dL_same_11 : decode cL_same 11 = .ok (.iconst 1, 1) := by decide +kernel
theorem dL_same_12 : decode cL_same 12 = .ok (.goto 4, 3) := by decide +kernel
theorem dL_same_15 : decode cL_same 15 = .ok (.iconst 0, 1) := by decide +kernel
theorem dL_same_16 : decode cL_same 16 = .ok (.istore_n 2, 1) := by decide +kernel
theorem dL_same_17 : decode cL_same 17 = .ok (.iconst 0, 1) := by decide +kernel
theorem dL_same_18 : decode cL_same 18 = .ok (.istore_n 3, 1) := by decide +kernel
theorem dL_same_19 : decode cL_same 19 = .ok (.iload_n 3, 1) := by decide +kernel
theorem dL_same_20 : decode cL_same 20 = .ok (.bipush 10, 2) := by decide +kernel
theorem dL_same_22 : decode cL_same 22 = .ok (.if_icmp .ge 32, 3) := by decide +kernel
theorem dL_same_25 : decode cL_same 25 = .ok (.iload_n 2, 1) := by decide +kernel
theorem dL_same_26 : decode cL_same 26 = .ok (.ifCond .eq 28, 3) := by decide +kernel
theorem dL_same_29 : decode cL_same 29 = .ok (.aload_n 0, 1) := by decide +kernel
theorem dL_same_30 : decode cL_same 30 = .ok (.iload_n 3, 1) := by decide +kernel
theorem dL_same_31 : decode cL_same 31 = .ok (.invokevirtual 9, 3) := by decide +kernel
theorem dL_same_34 : decode cL_same 34 = .ok (.aload_n 1, 1) := by decide +kernel
theorem dL_same_35 : decode cL_same 35 = .ok (.iload_n 3, 1) := by decide +kernel
theorem dL_same_36 : decode cL_same 36 = .ok (.invokevirtual 9, 3) := by decide +kernel
theorem dL_same_39 : decode cL_same 39 = .ok (.if_icmp .ne 7, 3) := by decide +kernel
theorem dL_same_42 : decode cL_same 42 = .ok (.iconst 1, 1) := by decide +kernel
theorem dL_same_43 : decode cL_same 43 = .ok (.goto 4, 3) := by decide +kernel
theorem dL_same_46 : decode cL_same 46 = .ok (.iconst 0, 1) := by decide +kernel
theorem dL_same_47 : decode cL_same 47 = .ok (.istore_n 2, 1) := by decide +kernel
theorem dL_same_48 : decode cL_same 48 = .ok (.iinc 3 1, 3) := by decide +kernel
theorem dL_same_51 : decode cL_same 51 = .ok (.goto (-32), 3) := by decide +kernel
theorem dL_same_54 : decode cL_same 54 = .ok (.iconst 0, 1) := by decide +kernel
theorem dL_same_55 : decode cL_same 55 = .ok (.istore_n 3, 1) := by decide +kernel
theorem dL_same_56 : decode cL_same 56 = .ok (.iload_n 3, 1) := by decide +kernel
theorem dL_same_57 : decode cL_same 57 = .ok (.bipush 24, 2) := by decide +kernel
theorem dL_same_59 : decode cL_same 59 = .ok (.if_icmp .ge 110, 3) := by decide +kernel
theorem dL_same_62 : decode cL_same 62 = .ok (.iload_n 2, 1) := by decide +kernel
theorem dL_same_63 : decode cL_same 63 = .ok (.ifCond .eq 106, 3) := by decide +kernel
theorem dL_same_66 : decode cL_same 66 = .ok (.aload_n 0, 1) := by decide +kernel
theorem dL_same_67 : decode cL_same 67 = .ok (.iload_n 3, 1) := by decide +kernel
theorem dL_same_68 : decode cL_same 68 = .ok (.iconst 0, 1) := by decide +kernel
theorem dL_same_69 : decode cL_same 69 = .ok (.invokevirtual 69, 3) := by decide +kernel
theorem dL_same_72 : decode cL_same 72 = .ok (.aload_n 1, 1) := by decide +kernel
theorem dL_same_73 : decode cL_same 73 = .ok (.iload_n 3, 1) := by decide +kernel
theorem dL_same_74 : decode cL_same 74 = .ok (.iconst 0, 1) := by decide +kernel
theorem dL_same_75 : decode cL_same 75 = .ok (.invokevirtual 69, 3) := by decide +kernel
theorem dL_same_78 : decode cL_same 78 = .ok (.if_icmp .ne 83, 3) := by decide +kernel
theorem dL_same_81 : decode cL_same 81 = .ok (.aload_n 0, 1) := by decide +kernel
theorem dL_same_82 : decode cL_same 82 = .ok (.iload_n 3, 1) := by decide +kernel
theorem dL_same_83 : decode cL_same 83 = .ok (.iconst 4, 1) := by decide +kernel
theorem dL_same_84 : decode cL_same 84 = .ok (.invokevirtual 69, 3) := by decide +kernel
theorem dL_same_87 : decode cL_same 87 = .ok (.aload_n 1, 1) := by decide +kernel
theorem dL_same_88 : decode cL_same 88 = .ok (.iload_n 3, 1) := by decide +kernel
theorem dL_same_89 : decode cL_same 89 = .ok (.iconst 4, 1) := by decide +kernel
theorem dL_same_90 : decode cL_same 90 = .ok (.invokevirtual 69, 3) := by decide +kernel
theorem dL_same_93 : decode cL_same 93 = .ok (.if_icmp .ne 68, 3) := by decide +kernel
theorem dL_same_96 : decode cL_same 96 = .ok (.aload_n 0, 1) := by decide +kernel
theorem dL_same_97 : decode cL_same 97 = .ok (.iload_n 3, 1) := by decide +kernel
theorem dL_same_98 : decode cL_same 98 = .ok (.iconst 2, 1) := by decide +kernel
theorem dL_same_99 : decode cL_same 99 = .ok (.idiv, 1) := by decide +kernel
theorem dL_same_100 : decode cL_same 100 = .ok (.iconst 1, 1) := by decide +kernel
theorem dL_same_101 : decode cL_same 101 = .ok (.invokevirtual 75, 3) := by decide +kernel
theorem dL_same_104 : decode cL_same 104 = .ok (.aload_n 1, 1) := by decide +kernel
theorem dL_same_105 : decode cL_same 105 = .ok (.iload_n 3, 1) := by decide +kernel
theorem dL_same_106 : decode cL_same 106 = .ok (.iconst 2, 1) := by decide +kernel
theorem dL_same_107 : decode cL_same 107 = .ok (.idiv, 1) := by decide +kernel
theorem dL_same_108 : decode cL_same 108 = .ok (.iconst 1, 1) := by decide +kernel
theorem dL_same_109 : decode cL_same 109 = .ok (.invokevirtual 75, 3) := by decide +kernel
theorem dL_same_112 : decode cL_same 112 = .ok (.if_icmp .ne 49, 3) := by decide +kernel
theorem dL_same_115 : decode cL_same 115 = .ok (.aload_n 0, 1) := by decide +kernel
theorem dL_same_116 : decode cL_same 116 = .ok (.iload_n 3, 1) := by decide +kernel
theorem dL_same_117 : decode cL_same 117 = .ok (.iconst 2, 1) := by decide +kernel
theorem dL_same_118 : decode cL_same 118 = .ok (.idiv, 1) := by decide +kernel
theorem dL_same_119 : decode cL_same 119 = .ok (.bipush 7, 2) := by decide +kernel
theorem dL_same_121 : decode cL_same 121 = .ok (.invokevirtual 75, 3) := by decide +kernel
theorem dL_same_124 : decode cL_same 124 = .ok (.aload_n 1, 1) := by decide +kernel
theorem dL_same_125 : decode cL_same 125 = .ok (.iload_n 3, 1) := by decide +kernel
theorem dL_same_126 : decode cL_same 126 = .ok (.iconst 2, 1) := by decide +kernel
theorem dL_same_127 : decode cL_same 127 = .ok (.idiv, 1) := by decide +kernel
theorem dL_same_128 : decode cL_same 128 = .ok (.bipush 7, 2) := by decide +kernel
theorem dL_same_130 : decode cL_same 130 = .ok (.invokevirtual 75, 3) := by decide +kernel
theorem dL_same_133 : decode cL_same 133 = .ok (.if_icmp .ne 28, 3) := by decide +kernel
theorem dL_same_136 : decode cL_same 136 = .ok (.aload_n 0, 1) := by decide +kernel
theorem dL_same_137 : decode cL_same 137 = .ok (.iload_n 3, 1) := by decide +kernel
theorem dL_same_138 : decode cL_same 138 = .ok (.iconst 2, 1) := by decide +kernel
theorem dL_same_139 : decode cL_same 139 = .ok (.idiv, 1) := by decide +kernel
theorem dL_same_140 : decode cL_same 140 = .ok (.bipush 8, 2) := by decide +kernel
theorem dL_same_142 : decode cL_same 142 = .ok (.invokevirtual 75, 3) := by decide +kernel
theorem dL_same_145 : decode cL_same 145 = .ok (.aload_n 1, 1) := by decide +kernel
theorem dL_same_146 : decode cL_same 146 = .ok (.iload_n 3, 1) := by decide +kernel
theorem dL_same_147 : decode cL_same 147 = .ok (.iconst 2, 1) := by decide +kernel
theorem dL_same_148 : decode cL_same 148 = .ok (.idiv, 1) := by decide +kernel
theorem dL_same_149 : decode cL_same 149 = .ok (.bipush 8, 2) := by decide +kernel
theorem dL_same_151 : decode cL_same 151 = .ok (.invokevirtual 75, 3) := by decide +kernel
theorem dL_same_154 : decode cL_same 154 = .ok (.if_icmp .ne 7, 3) := by decide +kernel
theorem dL_same_157 : decode cL_same 157 = .ok (.iconst 1, 1) := by decide +kernel
theorem dL_same_158 : decode cL_same 158 = .ok (.goto 4, 3) := by decide +kernel
theorem dL_same_161 : decode cL_same 161 = .ok (.iconst 0, 1) := by decide +kernel
theorem dL_same_162 : decode cL_same 162 = .ok (.istore_n 2, 1) := by decide +kernel
theorem dL_same_163 : decode cL_same 163 = .ok (.iinc 3 1, 3) := by decide +kernel
theorem dL_same_166 : decode cL_same 166 = .ok (.goto (-110), 3) := by decide +kernel
theorem dL_same_169 : decode cL_same 169 = .ok (.iload_n 2, 1) := by decide +kernel
theorem dL_same_170 : decode cL_same 170 = .ok (.ireturn, 1) := by decide +kernel
theorem dL_refuses_0 : decode cL_refuses 0 = .ok (.aload_n 0, 1) := by decide +kernel
theorem dL_refuses_1 : decode cL_refuses 1 = .ok (.iconst 0, 1) := by decide +kernel
theorem dL_refuses_2 : decode cL_refuses 2 = .ok (.invokevirtual 9, 3) := by decide +kernel
theorem dL_refuses_5 : decode cL_refuses 5 = .ok (.istore_n 2, 1) := by decide +kernel
theorem dL_refuses_6 : decode cL_refuses 6 = .ok (.iload_n 1, 1) := by decide +kernel
theorem dL_refuses_7 : decode cL_refuses 7 = .ok (.iconst 2, 1) := by decide +kernel
theorem dL_refuses_8 : decode cL_refuses 8 = .ok (.irem, 1) := by decide +kernel
theorem dL_refuses_9 : decode cL_refuses 9 = .ok (.ifCond .ne 9, 3) := by decide +kernel
theorem dL_refuses_12 : decode cL_refuses 12 = .ok (.iload_n 2, 1) := by decide +kernel
theorem dL_refuses_13 : decode cL_refuses 13 = .ok (.iload_n 1, 1) := by decide +kernel
theorem dL_refuses_14 : decode cL_refuses 14 = .ok (.iadd, 1) := by decide +kernel
theorem dL_refuses_15 : decode cL_refuses 15 = .ok (.goto 6, 3) := by decide +kernel
theorem dL_refuses_18 : decode cL_refuses 18 = .ok (.iconst (-1), 1) := by decide +kernel
theorem dL_refuses_19 : decode cL_refuses 19 = .ok (.iload_n 1, 1) := by decide +kernel
theorem dL_refuses_20 : decode cL_refuses 20 = .ok (.isub, 1) := by decide +kernel
theorem dL_refuses_21 : decode cL_refuses 21 = .ok (.istore_n 3, 1) := by decide +kernel
theorem dL_refuses_22 : decode cL_refuses 22 = .ok (.iload_n 1, 1) := by decide +kernel
theorem dL_refuses_23 : decode cL_refuses 23 = .ok (.iconst 2, 1) := by decide +kernel
theorem dL_refuses_24 : decode cL_refuses 24 = .ok (.irem, 1) := by decide +kernel
theorem dL_refuses_25 : decode cL_refuses 25 = .ok (.ifCond .ne 10, 3) := by decide +kernel
theorem dL_refuses_28 : decode cL_refuses 28 = .ok (.bipush 24, 2) := by decide +kernel
theorem dL_refuses_30 : decode cL_refuses 30 = .ok (.iload_n 1, 1) := by decide +kernel
theorem dL_refuses_31 : decode cL_refuses 31 = .ok (.iadd, 1) := by decide +kernel
theorem dL_refuses_32 : decode cL_refuses 32 = .ok (.goto 6, 3) := by decide +kernel
theorem dL_refuses_35 : decode cL_refuses 35 = .ok (.iconst (-1), 1) := by decide +kernel
theorem dL_refuses_36 : decode cL_refuses 36 = .ok (.iload_n 1, 1) := by decide +kernel
theorem dL_refuses_37 : decode cL_refuses 37 = .ok (.isub, 1) := by decide +kernel
theorem dL_refuses_38 : decode cL_refuses 38 = .ok (.istore 4, 2) := by decide +kernel
theorem dL_refuses_40 : decode cL_refuses 40 = .ok (.aload_n 0, 1) := by decide +kernel
theorem dL_refuses_41 : decode cL_refuses 41 = .ok (.iload 4, 2) := by decide +kernel
theorem dL_refuses_43 : decode cL_refuses 43 = .ok (.iconst 0, 1) := by decide +kernel
theorem dL_refuses_44 : decode cL_refuses 44 = .ok (.invokevirtual 19, 3) := by decide +kernel
theorem dL_refuses_47 : decode cL_refuses 47 = .ok (.iconst (-1), 1) := by decide +kernel
theorem dL_refuses_48 : decode cL_refuses 48 = .ok (.if_icmp .ne 331, 3) := by decide +kernel
theorem dL_refuses_51 : decode cL_refuses 51 = .ok (.aload_n 0, 1) := by decide +kernel
theorem dL_refuses_52 : decode cL_refuses 52 = .ok (.iconst 0, 1) := by decide +kernel
theorem dL_refuses_53 : decode cL_refuses 53 = .ok (.iload 4, 2) := by decide +kernel
theorem dL_refuses_55 : decode cL_refuses 55 = .ok (.invokevirtual 19, 3) := by decide +kernel
theorem dL_refuses_58 : decode cL_refuses 58 = .ok (.iconst (-1), 1) := by decide +kernel
theorem dL_refuses_59 : decode cL_refuses 59 = .ok (.if_icmp .ne 320, 3) := by decide +kernel
theorem dL_refuses_62 : decode cL_refuses 62 = .ok (.aload_n 0, 1) := by decide +kernel
theorem dL_refuses_63 : decode cL_refuses 63 = .ok (.iload 4, 2) := by decide +kernel
theorem dL_refuses_65 : decode cL_refuses 65 = .ok (.iload 4, 2) := by decide +kernel
theorem dL_refuses_67 : decode cL_refuses 67 = .ok (.invokevirtual 19, 3) := by decide +kernel
theorem dL_refuses_70 : decode cL_refuses 70 = .ok (.iconst (-1), 1) := by decide +kernel
theorem dL_refuses_71 : decode cL_refuses 71 = .ok (.if_icmp .ne 308, 3) := by decide +kernel
theorem dL_refuses_74 : decode cL_refuses 74 = .ok (.aload_n 0, 1) := by decide +kernel
theorem dL_refuses_75 : decode cL_refuses 75 = .ok (.iload_n 1, 1) := by decide +kernel
theorem dL_refuses_76 : decode cL_refuses 76 = .ok (.bipush 24, 2) := by decide +kernel
