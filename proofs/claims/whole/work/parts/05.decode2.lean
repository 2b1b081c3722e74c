theorem dX4_mend_26 : decode cX4_mend 26 = .ok (.ireturn, 1) := by decide +kernel
theorem dX4_mend_27 : decode cX4_mend 27 = .ok (.aload_n 0, 1) := by decide +kernel
theorem dX4_mend_28 : decode cX4_mend 28 = .ok (.getfield 10, 3) := by decide +kernel
theorem dX4_mend_31 : decode cX4_mend 31 = .ok (.iload_n 1, 1) := by decide +kernel
theorem dX4_mend_32 : decode cX4_mend 32 = .ok (.invokevirtual 86, 3) := by decide +kernel
theorem dX4_mend_35 : decode cX4_mend 35 = .ok (.aload_n 0, 1) := by decide +kernel
theorem dX4_mend_36 : decode cX4_mend 36 = .ok (.getfield 10, 3) := by decide +kernel
theorem dX4_mend_39 : decode cX4_mend 39 = .ok (.iload_n 1, 1) := by decide +kernel
theorem dX4_mend_40 : decode cX4_mend 40 = .ok (.invokevirtual 89, 3) := by decide +kernel
theorem dX4_mend_43 : decode cX4_mend 43 = .ok (.ixor, 1) := by decide +kernel
theorem dX4_mend_44 : decode cX4_mend 44 = .ok (.invokestatic 99, 3) := by decide +kernel
theorem dX4_mend_47 : decode cX4_mend 47 = .ok (.istore_n 2, 1) := by decide +kernel
theorem dX4_mend_48 : decode cX4_mend 48 = .ok (.aload_n 0, 1) := by decide +kernel
theorem dX4_mend_49 : decode cX4_mend 49 = .ok (.getfield 26, 3) := by decide +kernel
theorem dX4_mend_52 : decode cX4_mend 52 = .ok (.aload_n 0, 1) := by decide +kernel
theorem dX4_mend_53 : decode cX4_mend 53 = .ok (.getfield 10, 3) := by decide +kernel
theorem dX4_mend_56 : decode cX4_mend 56 = .ok (.invokevirtual 41, 3) := by decide +kernel
theorem dX4_mend_59 : decode cX4_mend 59 = .ok (.aload_n 0, 1) := by decide +kernel
theorem dX4_mend_60 : decode cX4_mend 60 = .ok (.getfield 10, 3) := by decide +kernel
theorem dX4_mend_63 : decode cX4_mend 63 = .ok (.iload_n 1, 1) := by decide +kernel
theorem dX4_mend_64 : decode cX4_mend 64 = .ok (.invokevirtual 114, 3) := by decide +kernel
theorem dX4_mend_67 : decode cX4_mend 67 = .ok (.iload_n 2, 1) := by decide +kernel
theorem dX4_mend_68 : decode cX4_mend 68 = .ok (.ireturn, 1) := by decide +kernel
theorem dX4_turn_0 : decode cX4_turn 0 = .ok (.aload_n 0, 1) := by decide +kernel
theorem dX4_turn_1 : decode cX4_turn 1 = .ok (.getfield 10, 3) := by decide +kernel
theorem dX4_turn_4 : decode cX4_turn 4 = .ok (.iload_n 1, 1) := by decide +kernel
theorem dX4_turn_5 : decode cX4_turn 5 = .ok (.invokevirtual 83, 3) := by decide +kernel
theorem dX4_turn_8 : decode cX4_turn 8 = .ok (.ifCond .ne 5, 3) := by decide +kernel
theorem dX4_turn_11 : decode cX4_turn 11 = .ok (.iconst (-1), 1) := by decide +kernel
theorem dX4_turn_12 : decode cX4_turn 12 = .ok (.ireturn, 1) := by decide +kernel
theorem dX4_turn_13 : decode cX4_turn 13 = .ok (.iload_n 2, 1) := by decide +kernel
theorem dX4_turn_14 : decode cX4_turn 14 = .ok (.invokestatic 118, 3) := by decide +kernel
theorem dX4_turn_17 : decode cX4_turn 17 = .ok (.ifCond .ne 6, 3) := by decide +kernel
theorem dX4_turn_20 : decode cX4_turn 20 = .ok (.bipush (-2), 2) := by decide +kernel
theorem dX4_turn_22 : decode cX4_turn 22 = .ok (.ireturn, 1) := by decide +kernel
theorem dX4_turn_23 : decode cX4_turn 23 = .ok (.aload_n 0, 1) := by decide +kernel
theorem dX4_turn_24 : decode cX4_turn 24 = .ok (.getfield 10, 3) := by decide +kernel
theorem dX4_turn_27 : decode cX4_turn 27 = .ok (.getfield 45, 3) := by decide +kernel
theorem dX4_turn_30 : decode cX4_turn 30 = .ok (.iload_n 2, 1) := by decide +kernel
theorem dX4_turn_31 : decode cX4_turn 31 = .ok (.invokevirtual 121, 3) := by decide +kernel
theorem dX4_turn_34 : decode cX4_turn 34 = .ok (.ifCond .eq 6, 3) := by decide +kernel
theorem dX4_turn_37 : decode cX4_turn 37 = .ok (.bipush (-5), 2) := by decide +kernel
theorem dX4_turn_39 : decode cX4_turn 39 = .ok (.ireturn, 1) := by decide +kernel
theorem dX4_turn_40 : decode cX4_turn 40 = .ok (.aload_n 0, 1) := by decide +kernel
theorem dX4_turn_41 : decode cX4_turn 41 = .ok (.getfield 26, 3) := by decide +kernel
theorem dX4_turn_44 : decode cX4_turn 44 = .ok (.aload_n 0, 1) := by decide +kernel
theorem dX4_turn_45 : decode cX4_turn 45 = .ok (.getfield 10, 3) := by decide +kernel
theorem dX4_turn_48 : decode cX4_turn 48 = .ok (.invokevirtual 41, 3) := by decide +kernel
theorem dX4_turn_51 : decode cX4_turn 51 = .ok (.aload_n 0, 1) := by decide +kernel
theorem dX4_turn_52 : decode cX4_turn 52 = .ok (.getfield 10, 3) := by decide +kernel
theorem dX4_turn_55 : decode cX4_turn 55 = .ok (.iload_n 1, 1) := by decide +kernel
theorem dX4_turn_56 : decode cX4_turn 56 = .ok (.iload_n 2, 1) := by decide +kernel
theorem dX4_turn_57 : decode cX4_turn 57 = .ok (.invokevirtual 124, 3) := by decide +kernel
theorem dX4_turn_60 : decode cX4_turn 60 = .ok (.aload_n 0, 1) := by decide +kernel
theorem dX4_turn_61 : decode cX4_turn 61 = .ok (.getfield 10, 3) := by decide +kernel
theorem dX4_turn_64 : decode cX4_turn 64 = .ok (.iload_n 1, 1) := by decide +kernel
theorem dX4_turn_65 : decode cX4_turn 65 = .ok (.invokevirtual 86, 3) := by decide +kernel
theorem dX4_turn_68 : decode cX4_turn 68 = .ok (.ireturn, 1) := by decide +kernel
theorem dX4_stack_0 : decode cX4_stack 0 = .ok (.aload_n 0, 1) := by decide +kernel
theorem dX4_stack_1 : decode cX4_stack 1 = .ok (.getfield 10, 3) := by decide +kernel
theorem dX4_stack_4 : decode cX4_stack 4 = .ok (.iload_n 1, 1) := by decide +kernel
theorem dX4_stack_5 : decode cX4_stack 5 = .ok (.invokevirtual 83, 3) := by decide +kernel
theorem dX4_stack_8 : decode cX4_stack 8 = .ok (.ifCond .ne 5, 3) := by decide +kernel
theorem dX4_stack_11 : decode cX4_stack 11 = .ok (.iconst (-1), 1) := by decide +kernel
theorem dX4_stack_12 : decode cX4_stack 12 = .ok (.ireturn, 1) := by decide +kernel
theorem dX4_stack_13 : decode cX4_stack 13 = .ok (.aload_n 0, 1) := by decide +kernel
theorem dX4_stack_14 : decode cX4_stack 14 = .ok (.getfield 10, 3) := by decide +kernel
theorem dX4_stack_17 : decode cX4_stack 17 = .ok (.invokevirtual 127, 3) := by decide +kernel
theorem dX4_stack_20 : decode cX4_stack 20 = .ok (.iload_n 1, 1) := by decide +kernel
theorem dX4_stack_21 : decode cX4_stack 21 = .ok (.invokestatic 92, 3) := by decide +kernel
theorem dX4_stack_24 : decode cX4_stack 24 = .ok (.iload_n 2, 1) := by decide +kernel
theorem dX4_stack_25 : decode cX4_stack 25 = .ok (.if_icmp .ne 6, 3) := by decide +kernel
theorem dX4_stack_28 : decode cX4_stack 28 = .ok (.bipush (-5), 2) := by decide +kernel
theorem dX4_stack_30 : decode cX4_stack 30 = .ok (.ireturn, 1) := by decide +kernel
theorem dX4_stack_31 : decode cX4_stack 31 = .ok (.aload_n 0, 1) := by decide +kernel
theorem dX4_stack_32 : decode cX4_stack 32 = .ok (.getfield 26, 3) := by decide +kernel
theorem dX4_stack_35 : decode cX4_stack 35 = .ok (.aload_n 0, 1) := by decide +kernel
theorem dX4_stack_36 : decode cX4_stack 36 = .ok (.getfield 10, 3) := by decide +kernel
theorem dX4_stack_39 : decode cX4_stack 39 = .ok (.invokevirtual 41, 3) := by decide +kernel
theorem dX4_stack_42 : decode cX4_stack 42 = .ok (.aload_n 0, 1) := by decide +kernel
theorem dX4_stack_43 : decode cX4_stack 43 = .ok (.getfield 10, 3) := by decide +kernel
theorem dX4_stack_46 : decode cX4_stack 46 = .ok (.iload_n 1, 1) := by decide +kernel
theorem dX4_stack_47 : decode cX4_stack 47 = .ok (.invokevirtual 130, 3) := by decide +kernel
theorem dX4_stack_50 : decode cX4_stack 50 = .ok (.aload_n 0, 1) := by decide +kernel
theorem dX4_stack_51 : decode cX4_stack 51 = .ok (.getfield 10, 3) := by decide +kernel
theorem dX4_stack_54 : decode cX4_stack 54 = .ok (.invokevirtual 127, 3) := by decide +kernel
theorem dX4_stack_57 : decode cX4_stack 57 = .ok (.invokestatic 99, 3) := by decide +kernel
theorem dX4_stack_60 : decode cX4_stack 60 = .ok (.ireturn, 1) := by decide +kernel
theorem dX4_turnStack_0 : decode cX4_turnStack 0 = .ok (.iload_n 1, 1) := by decide +kernel
theorem dX4_turnStack_1 : decode cX4_turnStack 1 = .ok (.invokestatic 118, 3) := by decide +kernel
theorem dX4_turnStack_4 : decode cX4_turnStack 4 = .ok (.ifCond .ne 6, 3) := by decide +kernel
theorem dX4_turnStack_7 : decode cX4_turnStack 7 = .ok (.bipush (-2), 2) := by decide +kernel
theorem dX4_turnStack_9 : decode cX4_turnStack 9 = .ok (.ireturn, 1) := by decide +kernel
theorem dX4_turnStack_10 : decode cX4_turnStack 10 = .ok (.aload_n 0, 1) := by decide +kernel
theorem dX4_turnStack_11 : decode cX4_turnStack 11 = .ok (.getfield 10, 3) := by decide +kernel
theorem dX4_turnStack_14 : decode cX4_turnStack 14 = .ok (.invokevirtual 127, 3) := by decide +kernel
theorem dX4_turnStack_17 : decode cX4_turnStack 17 = .ok (.ifCond .eq 17, 3) := by decide +kernel
theorem dX4_turnStack_20 : decode cX4_turnStack 20 = .ok (.aload_n 0, 1) := by decide +kernel
theorem dX4_turnStack_21 : decode cX4_turnStack 21 = .ok (.getfield 10, 3) := by decide +kernel
theorem dX4_turnStack_24 : decode cX4_turnStack 24 = .ok (.getfield 45, 3) := by decide +kernel
theorem dX4_turnStack_27 : decode cX4_turnStack 27 = .ok (.iload_n 1, 1) := by decide +kernel
theorem dX4_turnStack_28 : decode cX4_turnStack 28 = .ok (.invokevirtual 121, 3) := by decide +kernel
theorem dX4_turnStack_31 : decode cX4_turnStack 31 = .ok (.ifCond .eq 6, 3) := by decide +kernel
theorem dX4_turnStack_34 : decode cX4_turnStack 34 = .ok (.bipush (-5), 2) := by decide +kernel
theorem dX4_turnStack_36 : decode cX4_turnStack 36 = .ok (.ireturn, 1) := by decide +kernel
theorem dX4_turnStack_37 : decode cX4_turnStack 37 = .ok (.aload_n 0, 1) := by decide +kernel
theorem dX4_turnStack_38 : decode cX4_turnStack 38 = .ok (.getfield 26, 3) := by decide +kernel
theorem dX4_turnStack_41 : decode cX4_turnStack 41 = .ok (.aload_n 0, 1) := by decide +kernel
theorem dX4_turnStack_42 : decode cX4_turnStack 42 = .ok (.getfield 10, 3) := by decide +kernel
theorem dX4_turnStack_45 : decode cX4_turnStack 45 = .ok (.invokevirtual 41, 3) := by decide +kernel
theorem dX4_turnStack_48 : decode cX4_turnStack 48 = .ok (.aload_n 0, 1) := by decide +kernel
theorem dX4_turnStack_49 : decode cX4_turnStack 49 = .ok (.getfield 10, 3) := by decide +kernel
theorem dX4_turnStack_52 : decode cX4_turnStack 52 = .ok (.iload_n 1, 1) := by decide +kernel
theorem dX4_turnStack_53 : decode cX4_turnStack 53 = .ok (.invokevirtual 133, 3) := by decide +kernel
theorem dX4_turnStack_56 : decode cX4_turnStack 56 = .ok (.aload_n 0, 1) := by decide +kernel
theorem dX4_turnStack_57 : decode cX4_turnStack 57 = .ok (.getfield 10, 3) := by decide +kernel
theorem dX4_turnStack_60 : decode cX4_turnStack 60 = .ok (.invokevirtual 127, 3) := by decide +kernel
theorem dX4_turnStack_63 : decode cX4_turnStack 63 = .ok (.invokestatic 99, 3) := by decide +kernel
theorem dX4_turnStack_66 : decode cX4_turnStack 66 = .ok (.ireturn, 1) := by decide +kernel
theorem dX4_type_0 : decode cX4_type 0 = .ok (.aload_n 0, 1) := by decide +kernel
theorem dX4_type_1 : decode cX4_type 1 = .ok (.getfield 33, 3) := by decide +kernel
theorem dX4_type_4 : decode cX4_type 4 = .ok (.invokevirtual 136, 3) := by decide +kernel
theorem dX4_type_7 : decode cX4_type 7 = .ok (.bipush 80, 2) := by decide +kernel
theorem dX4_type_9 : decode cX4_type 9 = .ok (.if_icmp .lt 6, 3) := by decide +kernel
theorem dX4_type_12 : decode cX4_type 12 = .ok (.bipush (-3), 2) := by decide +kernel
theorem dX4_type_14 : decode cX4_type 14 = .ok (.ireturn, 1) := by decide +kernel
theorem dX4_type_15 : decode cX4_type 15 = .ok (.aload_n 0, 1) := by decide +kernel
theorem dX4_type_16 : decode cX4_type 16 = .ok (.getfield 33, 3) := by decide +kernel
theorem dX4_type_19 : decode cX4_type 19 = .ok (.iload_n 1, 1) := by decide +kernel
theorem dX4_type_20 : decode cX4_type 20 = .ok (.invokevirtual 139, 3) := by decide +kernel
theorem dX4_type_23 : decode cX4_type 23 = .ok (.aload_n 0, 1) := by decide +kernel
theorem dX4_type_24 : decode cX4_type 24 = .ok (.getfield 33, 3) := by decide +kernel
theorem dX4_type_27 : decode cX4_type 27 = .ok (.invokevirtual 136, 3) := by decide +kernel
theorem dX4_type_30 : decode cX4_type 30 = .ok (.ireturn, 1) := by decide +kernel
theorem dX4_clearText_0 : decode cX4_clearText 0 = .ok (.aload_n 0, 1) := by decide +kernel
theorem dX4_clearText_1 : decode cX4_clearText 1 = .ok (.getfield 33, 3) := by decide +kernel
theorem dX4_clearText_4 : decode cX4_clearText 4 = .ok (.invokevirtual 136, 3) := by decide +kernel
theorem dX4_clearText_7 : decode cX4_clearText 7 = .ok (.istore_n 1, 1) := by decide +kernel
theorem dX4_clearText_8 : decode cX4_clearText 8 = .ok (.aload_n 0, 1) := by decide +kernel
theorem dX4_clearText_9 : decode cX4_clearText 9 = .ok (.getfield 33, 3) := by decide +kernel
theorem dX4_clearText_12 : decode cX4_clearText 12 = .ok (.invokevirtual 143, 3) := by decide +kernel
theorem dX4_clearText_15 : decode cX4_clearText 15 = .ok (.iload_n 1, 1) := by decide +kernel
theorem dX4_clearText_16 : decode cX4_clearText 16 = .ok (.ireturn, 1) := by decide +kernel
theorem dX4_fault_0 : decode cX4_fault 0 = .ok (.iload_n 1, 1) := by decide +kernel
theorem dX4_fault_1 : decode cX4_fault 1 = .ok (.ifCond .lt 8, 3) := by decide +kernel
theorem dX4_fault_4 : decode cX4_fault 4 = .ok (.iload_n 1, 1) := by decide +kernel
theorem dX4_fault_5 : decode cX4_fault 5 = .ok (.iconst 1, 1) := by decide +kernel
theorem dX4_fault_6 : decode cX4_fault 6 = .ok (.if_icmp .le 6, 3) := by decide +kernel
theorem dX4_fault_9 : decode cX4_fault 9 = .ok (.bipush (-2), 2) := by decide +kernel
theorem dX4_fault_11 : decode cX4_fault 11 = .ok (.ireturn, 1) := by decide +kernel
theorem dX4_fault_12 : decode cX4_fault 12 = .ok (.aload_n 0, 1) := by decide +kernel
theorem dX4_fault_13 : decode cX4_fault 13 = .ok (.getfield 33, 3) := by decide +kernel
theorem dX4_fault_16 : decode cX4_fault 16 = .ok (.invokevirtual 62, 3) := by decide +kernel
theorem dX4_fault_19 : decode cX4_fault 19 = .ok (.aload_n 0, 1) := by decide +kernel
theorem dX4_fault_20 : decode cX4_fault 20 = .ok (.getfield 33, 3) := by decide +kernel
theorem dX4_fault_23 : decode cX4_fault 23 = .ok (.invokevirtual 65, 3) := by decide +kernel
theorem dX4_fault_26 : decode cX4_fault 26 = .ok (.ifCond .ne 6, 3) := by decide +kernel
theorem dX4_fault_29 : decode cX4_fault 29 = .ok (.bipush (-5), 2) := by decide +kernel
theorem dX4_fault_31 : decode cX4_fault 31 = .ok (.ireturn, 1) := by decide +kernel
theorem dX4_fault_32 : decode cX4_fault 32 = .ok (.iload_n 1, 1) := by decide +kernel
theorem dX4_fault_33 : decode cX4_fault 33 = .ok (.ifCond .ne 13, 3) := by decide +kernel
theorem dX4_fault_36 : decode cX4_fault 36 = .ok (.aload_n 0, 1) := by decide +kernel
theorem dX4_fault_37 : decode cX4_fault 37 = .ok (.getfield 33, 3) := by decide +kernel
theorem dX4_fault_40 : decode cX4_fault 40 = .ok (.invokevirtual 68, 3) := by decide +kernel
theorem dX4_fault_43 : decode cX4_fault 43 = .ok (.goto 10, 3) := by decide +kernel
theorem dX4_fault_46 : decode cX4_fault 46 = .ok (.aload_n 0, 1) := by decide +kernel
theorem dX4_fault_47 : decode cX4_fault 47 = .ok (.getfield 33, 3) := by decide +kernel
theorem dX4_fault_50 : decode cX4_fault 50 = .ok (.invokevirtual 65, 3) := by decide +kernel
theorem dX4_fault_53 : decode cX4_fault 53 = .ok (.ireturn, 1) := by decide +kernel
theorem dX4_undo_0 : decode cX4_undo 0 = .ok (.aload_n 0, 1) := by decide +kernel
theorem dX4_undo_1 : decode cX4_undo 1 = .ok (.getfield 26, 3) := by decide +kernel
theorem dX4_undo_4 : decode cX4_undo 4 = .ok (.invokevirtual 146, 3) := by decide +kernel
theorem dX4_undo_7 : decode cX4_undo 7 = .ok (.ifCond .ne 6, 3) := by decide +kernel
theorem dX4_undo_10 : decode cX4_undo 10 = .ok (.bipush (-5), 2) := by decide +kernel
theorem dX4_undo_12 : decode cX4_undo 12 = .ok (.ireturn, 1) := by decide +kernel
theorem dX4_undo_13 : decode cX4_undo 13 = .ok (.aload_n 0, 1) := by decide +kernel
theorem dX4_undo_14 : decode cX4_undo 14 = .ok (.getfield 26, 3) := by decide +kernel
theorem dX4_undo_17 : decode cX4_undo 17 = .ok (.aload_n 0, 1) := by decide +kernel
theorem dX4_undo_18 : decode cX4_undo 18 = .ok (.getfield 10, 3) := by decide +kernel
theorem dX4_undo_21 : decode cX4_undo 21 = .ok (.invokevirtual 149, 3) := by decide +kernel
theorem dX4_undo_24 : decode cX4_undo 24 = .ok (.aload_n 0, 1) := by decide +kernel
theorem dX4_undo_25 : decode cX4_undo 25 = .ok (.getfield 26, 3) := by decide +kernel
theorem dX4_undo_28 : decode cX4_undo 28 = .ok (.invokevirtual 146, 3) := by decide +kernel
theorem dX4_undo_31 : decode cX4_undo 31 = .ok (.ireturn, 1) := by decide +kernel
theorem dX4_keep_0 : decode cX4_keep 0 = .ok (.aload_n 0, 1) := by decide +kernel
theorem dX4_keep_1 : decode cX4_keep 1 = .ok (.getfield 16, 3) := by decide +kernel
theorem dX4_keep_4 : decode cX4_keep 4 = .ok (.aload_n 0, 1) := by decide +kernel
theorem dX4_keep_5 : decode cX4_keep 5 = .ok (.getfield 10, 3) := by decide +kernel
theorem dX4_keep_8 : decode cX4_keep 8 = .ok (.invokevirtual 152, 3) := by decide +kernel
theorem dX4_keep_11 : decode cX4_keep 11 = .ok (.aload_n 0, 1) := by decide +kernel
theorem dX4_keep_12 : decode cX4_keep 12 = .ok (.iconst 1, 1) := by decide +kernel
theorem dX4_keep_13 : decode cX4_keep 13 = .ok (.putfield 19, 3) := by decide +kernel
theorem dX4_keep_16 : decode cX4_keep 16 = .ok (.aload_n 0, 1) := by decide +kernel
theorem dX4_keep_17 : decode cX4_keep 17 = .ok (.getfield 10, 3) := by decide +kernel
theorem dX4_keep_20 : decode cX4_keep 20 = .ok (.invokevirtual 76, 3) := by decide +kernel
theorem dX4_keep_23 : decode cX4_keep 23 = .ok (.ireturn, 1) := by decide +kernel
theorem dX4_restore_0 : decode cX4_restore 0 = .ok (.aload_n 0, 1) := by decide +kernel
theorem dX4_restore_1 : decode cX4_restore 1 = .ok (.getfield 19, 3) := by decide +kernel
theorem dX4_restore_4 : decode cX4_restore 4 = .ok (.ifCond .ne 6, 3) := by decide +kernel
theorem dX4_restore_7 : decode cX4_restore 7 = .ok (.bipush (-5), 2) := by decide +kernel
theorem dX4_restore_9 : decode cX4_restore 9 = .ok (.ireturn, 1) := by decide +kernel
theorem dX4_restore_10 : decode cX4_restore 10 = .ok (.aload_n 0, 1) := by decide +kernel
theorem dX4_restore_11 : decode cX4_restore 11 = .ok (.getfield 26, 3) := by decide +kernel
theorem dX4_restore_14 : decode cX4_restore 14 = .ok (.aload_n 0, 1) := by decide +kernel
theorem dX4_restore_15 : decode cX4_restore 15 = .ok (.getfield 10, 3) := by decide +kernel
theorem dX4_restore_18 : decode cX4_restore 18 = .ok (.invokevirtual 41, 3) := by decide +kernel
theorem dX4_restore_21 : decode cX4_restore 21 = .ok (.aload_n 0, 1) := by decide +kernel
theorem dX4_restore_22 : decode cX4_restore 22 = .ok (.getfield 10, 3) := by decide +kernel
theorem dX4_restore_25 : decode cX4_restore 25 = .ok (.aload_n 0, 1) := by decide +kernel
theorem dX4_restore_26 : decode cX4_restore 26 = .ok (.getfield 16, 3) := by decide +kernel
theorem dX4_restore_29 : decode cX4_restore 29 = .ok (.invokevirtual 152, 3) := by decide +kernel
theorem dX4_restore_32 : decode cX4_restore 32 = .ok (.aload_n 0, 1) := by decide +kernel
theorem dX4_restore_33 : decode cX4_restore 33 = .ok (.getfield 10, 3) := by decide +kernel
theorem dX4_restore_36 : decode cX4_restore 36 = .ok (.invokevirtual 76, 3) := by decide +kernel
theorem dX4_restore_39 : decode cX4_restore 39 = .ok (.ireturn, 1) := by decide +kernel
theorem dX4_place_0 : decode cX4_place 0 = .ok (.iload_n 1, 1) := by decide +kernel
theorem dX4_place_1 : decode cX4_place 1 = .ok (.invokestatic 37, 3) := by decide +kernel
theorem dX4_place_4 : decode cX4_place 4 = .ok (.ifCond .ne 5, 3) := by decide +kernel
theorem dX4_place_7 : decode cX4_place 7 = .ok (.iconst (-1), 1) := by decide +kernel
theorem dX4_place_8 : decode cX4_place 8 = .ok (.ireturn, 1) := by decide +kernel
theorem dX4_place_9 : decode cX4_place 9 = .ok (.iload_n 2, 1) := by decide +kernel
theorem dX4_place_10 : decode cX4_place 10 = .ok (.tableswitch 97 0 4 #[34, 46, 58, 73, 88], 34) := by decide +kernel
theorem dX4_place_44 : decode cX4_place 44 = .ok (.aload_n 0, 1) := by decide +kernel
theorem dX4_place_45 : decode cX4_place 45 = .ok (.getfield 10, 3) := by decide +kernel
theorem dX4_place_48 : decode cX4_place 48 = .ok (.getfield 45, 3) := by decide +kernel
theorem dX4_place_51 : decode cX4_place 51 = .ok (.iload_n 1, 1) := by decide +kernel
theorem dX4_place_52 : decode cX4_place 52 = .ok (.invokevirtual 155, 3) := by decide +kernel
theorem dX4_place_55 : decode cX4_place 55 = .ok (.ireturn, 1) := by decide +kernel
theorem dX4_place_56 : decode cX4_place 56 = .ok (.aload_n 0, 1) := by decide +kernel
theorem dX4_place_57 : decode cX4_place 57 = .ok (.getfield 10, 3) := by decide +kernel
theorem dX4_place_60 : decode cX4_place 60 = .ok (.getfield 45, 3) := by decide +kernel
theorem dX4_place_63 : decode cX4_place 63 = .ok (.iload_n 1, 1) := by decide +kernel
theorem dX4_place_64 : decode cX4_place 64 = .ok (.invokevirtual 158, 3) := by decide +kernel
theorem dX4_place_67 : decode cX4_place 67 = .ok (.ireturn, 1) := by decide +kernel
theorem dX4_place_68 : decode cX4_place 68 = .ok (.aload_n 0, 1) := by decide +kernel
theorem dX4_place_69 : decode cX4_place 69 = .ok (.getfield 10, 3) := by decide +kernel
theorem dX4_place_72 : decode cX4_place 72 = .ok (.getfield 45, 3) := by decide +kernel
theorem dX4_place_75 : decode cX4_place 75 = .ok (.iload_n 1, 1) := by decide +kernel
theorem dX4_place_76 : decode cX4_place 76 = .ok (.invokevirtual 161, 3) := by decide +kernel
theorem dX4_place_79 : decode cX4_place 79 = .ok (.invokestatic 99, 3) := by decide +kernel
theorem dX4_place_82 : decode cX4_place 82 = .ok (.ireturn, 1) := by decide +kernel
theorem dX4_place_83 : decode cX4_place 83 = .ok (.aload_n 0, 1) := by decide +kernel
theorem dX4_place_84 : decode cX4_place 84 = .ok (.getfield 10, 3) := by decide +kernel
theorem dX4_place_87 : decode cX4_place 87 = .ok (.getfield 45, 3) := by decide +kernel
theorem dX4_place_90 : decode cX4_place 90 = .ok (.iload_n 1, 1) := by decide +kernel
theorem dX4_place_91 : decode cX4_place 91 = .ok (.invokevirtual 161, 3) := by decide +kernel
theorem dX4_place_94 : decode cX4_place 94 = .ok (.invokestatic 164, 3) := by decide +kernel
theorem dX4_place_97 : decode cX4_place 97 = .ok (.ireturn, 1) := by decide +kernel
theorem dX4_place_98 : decode cX4_place 98 = .ok (.aload_n 0, 1) := by decide +kernel
theorem dX4_place_99 : decode cX4_place 99 = .ok (.getfield 10, 3) := by decide +kernel
theorem dX4_place_102 : decode cX4_place 102 = .ok (.iload_n 1, 1) := by decide +kernel
theorem dX4_place_103 : decode cX4_place 103 = .ok (.invokevirtual 167, 3) := by decide +kernel
theorem dX4_place_106 : decode cX4_place 106 = .ok (.ireturn, 1) := by decide +kernel
theorem dX4_place_107 : decode cX4_place 107 = .ok (.bipush (-2), 2) := by decide +kernel
theorem dX4_place_109 : decode cX4_place 109 = .ok (.ireturn, 1) := by decide +kernel
theorem dX4_move_0 : decode cX4_move 0 = .ok (.iload_n 1, 1) := by decide +kernel
theorem dX4_move_1 : decode cX4_move 1 = .ok (.tableswitch 93 0 4 #[35, 46, 57, 68, 79], 35) := by decide +kernel
theorem dX4_move_36 : decode cX4_move 36 = .ok (.aload_n 0, 1) := by decide +kernel
theorem dX4_move_37 : decode cX4_move 37 = .ok (.getfield 10, 3) := by decide +kernel
theorem dX4_move_40 : decode cX4_move 40 = .ok (.getfield 45, 3) := by decide +kernel
theorem dX4_move_43 : decode cX4_move 43 = .ok (.invokevirtual 55, 3) := by decide +kernel
theorem dX4_move_46 : decode cX4_move 46 = .ok (.ireturn, 1) := by decide +kernel
theorem dX4_move_47 : decode cX4_move 47 = .ok (.aload_n 0, 1) := by decide +kernel
theorem dX4_move_48 : decode cX4_move 48 = .ok (.getfield 10, 3) := by decide +kernel
theorem dX4_move_51 : decode cX4_move 51 = .ok (.getfield 45, 3) := by decide +kernel
theorem dX4_move_54 : decode cX4_move 54 = .ok (.invokevirtual 170, 3) := by decide +kernel
theorem dX4_move_57 : decode cX4_move 57 = .ok (.ireturn, 1) := by decide +kernel
theorem dX4_move_58 : decode cX4_move 58 = .ok (.aload_n 0, 1) := by decide +kernel
theorem dX4_move_59 : decode cX4_move 59 = .ok (.getfield 10, 3) := by decide +kernel
theorem dX4_move_62 : decode cX4_move 62 = .ok (.getfield 45, 3) := by decide +kernel
theorem dX4_move_65 : decode cX4_move 65 = .ok (.invokevirtual 173, 3) := by decide +kernel
theorem dX4_move_68 : decode cX4_move 68 = .ok (.ireturn, 1) := by decide +kernel
theorem dX4_move_69 : decode cX4_move 69 = .ok (.aload_n 0, 1) := by decide +kernel
theorem dX4_move_70 : decode cX4_move 70 = .ok (.getfield 10, 3) := by decide +kernel
theorem dX4_move_73 : decode cX4_move 73 = .ok (.getfield 45, 3) := by decide +kernel
theorem dX4_move_76 : decode cX4_move 76 = .ok (.invokevirtual 176, 3) := by decide +kernel
theorem dX4_move_79 : decode cX4_move 79 = .ok (.ireturn, 1) := by decide +kernel
theorem dX4_move_80 : decode cX4_move 80 = .ok (.aload_n 0, 1) := by decide +kernel
theorem dX4_move_81 : decode cX4_move 81 = .ok (.getfield 10, 3) := by decide +kernel
theorem dX4_move_84 : decode cX4_move 84 = .ok (.getfield 45, 3) := by decide +kernel
theorem dX4_move_87 : decode cX4_move 87 = .ok (.invokevirtual 179, 3) := by decide +kernel
theorem dX4_move_90 : decode cX4_move 90 = .ok (.invokestatic 110, 3) := by decide +kernel
theorem dX4_move_93 : decode cX4_move 93 = .ok (.ireturn, 1) := by decide +kernel
theorem dX4_move_94 : decode cX4_move 94 = .ok (.bipush (-2), 2) := by decide +kernel
theorem dX4_move_96 : decode cX4_move 96 = .ok (.ireturn, 1) := by decide +kernel
theorem dX4_power_0 : decode cX4_power 0 = .ok (.iload_n 1, 1) := by decide +kernel
theorem dX4_power_1 : decode cX4_power 1 = .ok (.invokestatic 37, 3) := by decide +kernel
theorem dX4_power_4 : decode cX4_power 4 = .ok (.ifCond .ne 5, 3) := by decide +kernel
theorem dX4_power_7 : decode cX4_power 7 = .ok (.iconst (-1), 1) := by decide +kernel
theorem dX4_power_8 : decode cX4_power 8 = .ok (.ireturn, 1) := by decide +kernel
theorem dX4_power_9 : decode cX4_power 9 = .ok (.iload_n 2, 1) := by decide +kernel
theorem dX4_power_10 : decode cX4_power 10 = .ok (.invokestatic 118, 3) := by decide +kernel
theorem dX4_power_13 : decode cX4_power 13 = .ok (.ifCond .ne 6, 3) := by decide +kernel
theorem dX4_power_16 : decode cX4_power 16 = .ok (.bipush (-2), 2) := by decide +kernel
theorem dX4_power_18 : decode cX4_power 18 = .ok (.ireturn, 1) := by decide +kernel
theorem dX4_power_19 : decode cX4_power 19 = .ok (.aload_n 0, 1) := by decide +kernel
theorem dX4_power_20 : decode cX4_power 20 = .ok (.getfield 10, 3) := by decide +kernel
theorem dX4_power_23 : decode cX4_power 23 = .ok (.getfield 45, 3) := by decide +kernel
theorem dX4_power_26 : decode cX4_power 26 = .ok (.iload_n 1, 1) := by decide +kernel
theorem dX4_power_27 : decode cX4_power 27 = .ok (.iload_n 2, 1) := by decide +kernel
theorem dX4_power_28 : decode cX4_power 28 = .ok (.invokevirtual 183, 3) := by decide +kernel
theorem dX4_power_31 : decode cX4_power 31 = .ok (.ireturn, 1) := by decide +kernel
theorem dX4_ticket_0 : decode cX4_ticket 0 = .ok (.aload_n 0, 1) := by decide +kernel
theorem dX4_ticket_1 : decode cX4_ticket 1 = .ok (.getfield 10, 3) := by decide +kernel
theorem dX4_ticket_4 : decode cX4_ticket 4 = .ok (.iload_n 1, 1) := by decide +kernel
theorem dX4_ticket_5 : decode cX4_ticket 5 = .ok (.invokevirtual 83, 3) := by decide +kernel
theorem dX4_ticket_8 : decode cX4_ticket 8 = .ok (.ifCond .ne 5, 3) := by decide +kernel
theorem dX4_ticket_11 : decode cX4_ticket 11 = .ok (.iconst (-1), 1) := by decide +kernel
theorem dX4_ticket_12 : decode cX4_ticket 12 = .ok (.ireturn, 1) := by decide +kernel
theorem dX4_ticket_13 : decode cX4_ticket 13 = .ok (.aload_n 0, 1) := by decide +kernel
theorem dX4_ticket_14 : decode cX4_ticket 14 = .ok (.getfield 10, 3) := by decide +kernel
theorem dX4_ticket_17 : decode cX4_ticket 17 = .ok (.iload_n 1, 1) := by decide +kernel
theorem dX4_ticket_18 : decode cX4_ticket 18 = .ok (.invokevirtual 86, 3) := by decide +kernel
theorem dX4_ticket_21 : decode cX4_ticket 21 = .ok (.istore_n 3, 1) := by decide +kernel
theorem dX4_ticket_22 : decode cX4_ticket 22 = .ok (.aload_n 0, 1) := by decide +kernel
theorem dX4_ticket_23 : decode cX4_ticket 23 = .ok (.getfield 10, 3) := by decide +kernel
theorem dX4_ticket_26 : decode cX4_ticket 26 = .ok (.iload_n 1, 1) := by decide +kernel
theorem dX4_ticket_27 : decode cX4_ticket 27 = .ok (.invokevirtual 89, 3) := by decide +kernel
theorem dX4_ticket_30 : decode cX4_ticket 30 = .ok (.istore 4, 2) := by decide +kernel
theorem dX4_ticket_32 : decode cX4_ticket 32 = .ok (.iload_n 2, 1) := by decide +kernel
theorem dX4_ticket_33 : decode cX4_ticket 33 = .ok (.tableswitch 123 0 8 #[51, 53, 56, 63, 70, 75, 87, 99, 114], 51) := by decide +kernel
theorem dX4_ticket_84 : decode cX4_ticket 84 = .ok (.iload_n 3, 1) := by decide +kernel
theorem dX4_ticket_85 : decode cX4_ticket 85 = .ok (.ireturn, 1) := by decide +kernel
theorem dX4_ticket_86 : decode cX4_ticket 86 = .ok (.iload 4, 2) := by decide +kernel
theorem dX4_ticket_88 : decode cX4_ticket 88 = .ok (.ireturn, 1) := by decide +kernel
theorem dX4_ticket_89 : decode cX4_ticket 89 = .ok (.iload_n 3, 1) := by decide +kernel
theorem dX4_ticket_90 : decode cX4_ticket 90 = .ok (.iload 4, 2) := by decide +kernel
theorem dX4_ticket_92 : decode cX4_ticket 92 = .ok (.iconst (-1), 1) := by decide +kernel
theorem dX4_ticket_93 : decode cX4_ticket 93 = .ok (.ixor, 1) := by decide +kernel
theorem dX4_ticket_94 : decode cX4_ticket 94 = .ok (.iand, 1) := by decide +kernel
theorem dX4_ticket_95 : decode cX4_ticket 95 = .ok (.ireturn, 1) := by decide +kernel
theorem dX4_ticket_96 : decode cX4_ticket 96 = .ok (.iload 4, 2) := by decide +kernel
theorem dX4_ticket_98 : decode cX4_ticket 98 = .ok (.iload_n 3, 1) := by decide +kernel
theorem dX4_ticket_99 : decode cX4_ticket 99 = .ok (.iconst (-1), 1) := by decide +kernel
theorem dX4_ticket_100 : decode cX4_ticket 100 = .ok (.ixor, 1) := by decide +kernel
theorem dX4_ticket_101 : decode cX4_ticket 101 = .ok (.iand, 1) := by decide +kernel
theorem dX4_ticket_102 : decode cX4_ticket 102 = .ok (.ireturn, 1) := by decide +kernel
theorem dX4_ticket_103 : decode cX4_ticket 103 = .ok (.iload_n 3, 1) := by decide +kernel
theorem dX4_ticket_104 : decode cX4_ticket 104 = .ok (.invokestatic 99, 3) := by decide +kernel
theorem dX4_ticket_107 : decode cX4_ticket 107 = .ok (.ireturn, 1) := by decide +kernel
theorem dX4_ticket_108 : decode cX4_ticket 108 = .ok (.aload_n 0, 1) := by decide +kernel
theorem dX4_ticket_109 : decode cX4_ticket 109 = .ok (.getfield 10, 3) := by decide +kernel
theorem dX4_ticket_112 : decode cX4_ticket 112 = .ok (.iload_n 1, 1) := by decide +kernel
theorem dX4_ticket_113 : decode cX4_ticket 113 = .ok (.invokevirtual 107, 3) := by decide +kernel
theorem dX4_ticket_116 : decode cX4_ticket 116 = .ok (.invokestatic 110, 3) := by decide +kernel
theorem dX4_ticket_119 : decode cX4_ticket 119 = .ok (.ireturn, 1) := by decide +kernel
theorem dX4_ticket_120 : decode cX4_ticket 120 = .ok (.aload_n 0, 1) := by decide +kernel
theorem dX4_ticket_121 : decode cX4_ticket 121 = .ok (.getfield 10, 3) := by decide +kernel
theorem dX4_ticket_124 : decode cX4_ticket 124 = .ok (.getfield 45, 3) := by decide +kernel
theorem dX4_ticket_127 : decode cX4_ticket 127 = .ok (.iload_n 3, 1) := by decide +kernel
theorem dX4_ticket_128 : decode cX4_ticket 128 = .ok (.invokevirtual 187, 3) := by decide +kernel
theorem dX4_ticket_131 : decode cX4_ticket 131 = .ok (.ireturn, 1) := by decide +kernel
theorem dX4_ticket_132 : decode cX4_ticket 132 = .ok (.aload_n 0, 1) := by decide +kernel
theorem dX4_ticket_133 : decode cX4_ticket 133 = .ok (.getfield 10, 3) := by decide +kernel
theorem dX4_ticket_136 : decode cX4_ticket 136 = .ok (.invokevirtual 127, 3) := by decide +kernel
theorem dX4_ticket_139 : decode cX4_ticket 139 = .ok (.iload_n 1, 1) := by decide +kernel
theorem dX4_ticket_140 : decode cX4_ticket 140 = .ok (.invokestatic 92, 3) := by decide +kernel
theorem dX4_ticket_143 : decode cX4_ticket 143 = .ok (.invokestatic 110, 3) := by decide +kernel
theorem dX4_ticket_146 : decode cX4_ticket 146 = .ok (.ireturn, 1) := by decide +kernel
theorem dX4_ticket_147 : decode cX4_ticket 147 = .ok (.aload_n 0, 1) := by decide +kernel
theorem dX4_ticket_148 : decode cX4_ticket 148 = .ok (.getfield 10, 3) := by decide +kernel
theorem dX4_ticket_151 : decode cX4_ticket 151 = .ok (.iload_n 1, 1) := by decide +kernel
theorem dX4_ticket_152 : decode cX4_ticket 152 = .ok (.invokevirtual 190, 3) := by decide +kernel
theorem dX4_ticket_155 : decode cX4_ticket 155 = .ok (.ireturn, 1) := by decide +kernel
theorem dX4_ticket_156 : decode cX4_ticket 156 = .ok (.bipush (-2), 2) := by decide +kernel
theorem dX4_ticket_158 : decode cX4_ticket 158 = .ok (.ireturn, 1) := by decide +kernel
theorem dX4_alikeIn_0 : decode cX4_alikeIn 0 = .ok (.aload_n 0, 1) := by decide +kernel
theorem dX4_alikeIn_1 : decode cX4_alikeIn 1 = .ok (.getfield 10, 3) := by decide +kernel
theorem dX4_alikeIn_4 : decode cX4_alikeIn 4 = .ok (.iload_n 1, 1) := by decide +kernel
theorem dX4_alikeIn_5 : decode cX4_alikeIn 5 = .ok (.invokevirtual 83, 3) := by decide +kernel
theorem dX4_alikeIn_8 : decode cX4_alikeIn 8 = .ok (.ifCond .eq 14, 3) := by decide +kernel
theorem dX4_alikeIn_11 : decode cX4_alikeIn 11 = .ok (.aload_n 0, 1) := by decide +kernel
theorem dX4_alikeIn_12 : decode cX4_alikeIn 12 = .ok (.getfield 10, 3) := by decide +kernel
theorem dX4_alikeIn_15 : decode cX4_alikeIn 15 = .ok (.iload_n 2, 1) := by decide +kernel
theorem dX4_alikeIn_16 : decode cX4_alikeIn 16 = .ok (.invokevirtual 83, 3) := by decide +kernel
theorem dX4_alikeIn_19 : decode cX4_alikeIn 19 = .ok (.ifCond .ne 5, 3) := by decide +kernel
theorem dX4_alikeIn_22 : decode cX4_alikeIn 22 = .ok (.iconst (-1), 1) := by decide +kernel
theorem dX4_alikeIn_23 : decode cX4_alikeIn 23 = .ok (.ireturn, 1) := by decide +kernel
theorem dX4_alikeIn_24 : decode cX4_alikeIn 24 = .ok (.aload_n 0, 1) := by decide +kernel
theorem dX4_alikeIn_25 : decode cX4_alikeIn 25 = .ok (.getfield 10, 3) := by decide +kernel
theorem dX4_alikeIn_28 : decode cX4_alikeIn 28 = .ok (.getfield 45, 3) := by decide +kernel
theorem dX4_alikeIn_31 : decode cX4_alikeIn 31 = .ok (.aload_n 0, 1) := by decide +kernel
theorem dX4_alikeIn_32 : decode cX4_alikeIn 32 = .ok (.getfield 10, 3) := by decide +kernel
theorem dX4_alikeIn_35 : decode cX4_alikeIn 35 = .ok (.iload_n 1, 1) := by decide +kernel
theorem dX4_alikeIn_36 : decode cX4_alikeIn 36 = .ok (.invokevirtual 86, 3) := by decide +kernel
theorem dX4_alikeIn_39 : decode cX4_alikeIn 39 = .ok (.aload_n 0, 1) := by decide +kernel
theorem dX4_alikeIn_40 : decode cX4_alikeIn 40 = .ok (.getfield 10, 3) := by decide +kernel
theorem dX4_alikeIn_43 : decode cX4_alikeIn 43 = .ok (.iload_n 2, 1) := by decide +kernel
theorem dX4_alikeIn_44 : decode cX4_alikeIn 44 = .ok (.invokevirtual 86, 3) := by decide +kernel
theorem dX4_alikeIn_47 : decode cX4_alikeIn 47 = .ok (.invokevirtual 193, 3) := by decide +kernel
theorem dX4_alikeIn_50 : decode cX4_alikeIn 50 = .ok (.ireturn, 1) := by decide +kernel
theorem dX4_meetsIn_0 : decode cX4_meetsIn 0 = .ok (.aload_n 0, 1) := by decide +kernel
theorem dX4_meetsIn_1 : decode cX4_meetsIn 1 = .ok (.getfield 10, 3) := by decide +kernel
theorem dX4_meetsIn_4 : decode cX4_meetsIn 4 = .ok (.iload_n 1, 1) := by decide +kernel
theorem dX4_meetsIn_5 : decode cX4_meetsIn 5 = .ok (.invokevirtual 83, 3) := by decide +kernel
theorem dX4_meetsIn_8 : decode cX4_meetsIn 8 = .ok (.ifCond .eq 14, 3) := by decide +kernel
theorem dX4_meetsIn_11 : decode cX4_meetsIn 11 = .ok (.aload_n 0, 1) := by decide +kernel
theorem dX4_meetsIn_12 : decode cX4_meetsIn 12 = .ok (.getfield 10, 3) := by decide +kernel
theorem dX4_meetsIn_15 : decode cX4_meetsIn 15 = .ok (.iload_n 2, 1) := by decide +kernel
theorem dX4_meetsIn_16 : decode cX4_meetsIn 16 = .ok (.invokevirtual 83, 3) := by decide +kernel
theorem dX4_meetsIn_19 : decode cX4_meetsIn 19 = .ok (.ifCond .ne 5, 3) := by decide +kernel
theorem dX4_meetsIn_22 : decode cX4_meetsIn 22 = .ok (.iconst (-1), 1) := by decide +kernel
theorem dX4_meetsIn_23 : decode cX4_meetsIn 23 = .ok (.ireturn, 1) := by decide +kernel
theorem dX4_meetsIn_24 : decode cX4_meetsIn 24 = .ok (.aload_n 0, 1) := by decide +kernel
theorem dX4_meetsIn_25 : decode cX4_meetsIn 25 = .ok (.getfield 10, 3) := by decide +kernel
theorem dX4_meetsIn_28 : decode cX4_meetsIn 28 = .ok (.getfield 45, 3) := by decide +kernel
theorem dX4_meetsIn_31 : decode cX4_meetsIn 31 = .ok (.aload_n 0, 1) := by decide +kernel
theorem dX4_meetsIn_32 : decode cX4_meetsIn 32 = .ok (.getfield 10, 3) := by decide +kernel
theorem dX4_meetsIn_35 : decode cX4_meetsIn 35 = .ok (.iload_n 1, 1) := by decide +kernel
theorem dX4_meetsIn_36 : decode cX4_meetsIn 36 = .ok (.invokevirtual 86, 3) := by decide +kernel
theorem dX4_meetsIn_39 : decode cX4_meetsIn 39 = .ok (.aload_n 0, 1) := by decide +kernel
theorem dX4_meetsIn_40 : decode cX4_meetsIn 40 = .ok (.getfield 10, 3) := by decide +kernel
theorem dX4_meetsIn_43 : decode cX4_meetsIn 43 = .ok (.iload_n 2, 1) := by decide +kernel
theorem dX4_meetsIn_44 : decode cX4_meetsIn 44 = .ok (.invokevirtual 86, 3) := by decide +kernel
theorem dX4_meetsIn_47 : decode cX4_meetsIn 47 = .ok (.invokevirtual 196, 3) := by decide +kernel
theorem dX4_meetsIn_50 : decode cX4_meetsIn 50 = .ok (.ireturn, 1) := by decide +kernel
theorem dX4_reason_0 : decode cX4_reason 0 = .ok (.aload_n 0, 1) := by decide +kernel
theorem dX4_reason_1 : decode cX4_reason 1 = .ok (.getfield 10, 3) := by decide +kernel
theorem dX4_reason_4 : decode cX4_reason 4 = .ok (.iload_n 1, 1) := by decide +kernel
theorem dX4_reason_5 : decode cX4_reason 5 = .ok (.invokevirtual 83, 3) := by decide +kernel
theorem dX4_reason_8 : decode cX4_reason 8 = .ok (.ifCond .eq 14, 3) := by decide +kernel
theorem dX4_reason_11 : decode cX4_reason 11 = .ok (.aload_n 0, 1) := by decide +kernel
theorem dX4_reason_12 : decode cX4_reason 12 = .ok (.getfield 10, 3) := by decide +kernel
theorem dX4_reason_15 : decode cX4_reason 15 = .ok (.iload_n 2, 1) := by decide +kernel
theorem dX4_reason_16 : decode cX4_reason 16 = .ok (.invokevirtual 83, 3) := by decide +kernel
theorem dX4_reason_19 : decode cX4_reason 19 = .ok (.ifCond .ne 5, 3) := by decide +kernel
theorem dX4_reason_22 : decode cX4_reason 22 = .ok (.iconst (-1), 1) := by decide +kernel
theorem dX4_reason_23 : decode cX4_reason 23 = .ok (.ireturn, 1) := by decide +kernel
theorem dX4_reason_24 : decode cX4_reason 24 = .ok (.aload_n 0, 1) := by decide +kernel
theorem dX4_reason_25 : decode cX4_reason 25 = .ok (.getfield 10, 3) := by decide +kernel
theorem dX4_reason_28 : decode cX4_reason 28 = .ok (.iload_n 1, 1) := by decide +kernel
theorem dX4_reason_29 : decode cX4_reason 29 = .ok (.invokevirtual 86, 3) := by decide +kernel
theorem dX4_reason_32 : decode cX4_reason 32 = .ok (.istore_n 3, 1) := by decide +kernel
theorem dX4_reason_33 : decode cX4_reason 33 = .ok (.aload_n 0, 1) := by decide +kernel
theorem dX4_reason_34 : decode cX4_reason 34 = .ok (.getfield 10, 3) := by decide +kernel
theorem dX4_reason_37 : decode cX4_reason 37 = .ok (.iload_n 2, 1) := by decide +kernel
theorem dX4_reason_38 : decode cX4_reason 38 = .ok (.invokevirtual 86, 3) := by decide +kernel
theorem dX4_reason_41 : decode cX4_reason 41 = .ok (.istore 4, 2) := by decide +kernel
theorem dX4_reason_43 : decode cX4_reason 43 = .ok (.iload_n 3, 1) := by decide +kernel
theorem dX4_reason_44 : decode cX4_reason 44 = .ok (.invokestatic 99, 3) := by decide +kernel
theorem dX4_reason_47 : decode cX4_reason 47 = .ok (.iload 4, 2) := by decide +kernel
theorem dX4_reason_49 : decode cX4_reason 49 = .ok (.invokestatic 99, 3) := by decide +kernel
theorem dX4_reason_52 : decode cX4_reason 52 = .ok (.if_icmp .eq 5, 3) := by decide +kernel
theorem dX4_reason_55 : decode cX4_reason 55 = .ok (.iconst 1, 1) := by decide +kernel
theorem dX4_reason_56 : decode cX4_reason 56 = .ok (.ireturn, 1) := by decide +kernel
theorem dX4_reason_57 : decode cX4_reason 57 = .ok (.aload_n 0, 1) := by decide +kernel
theorem dX4_reason_58 : decode cX4_reason 58 = .ok (.getfield 10, 3) := by decide +kernel
theorem dX4_reason_61 : decode cX4_reason 61 = .ok (.getfield 45, 3) := by decide +kernel
theorem dX4_reason_64 : decode cX4_reason 64 = .ok (.iload_n 3, 1) := by decide +kernel
theorem dX4_reason_65 : decode cX4_reason 65 = .ok (.iload 4, 2) := by decide +kernel
theorem dX4_reason_67 : decode cX4_reason 67 = .ok (.invokevirtual 199, 3) := by decide +kernel
theorem dX4_reason_70 : decode cX4_reason 70 = .ok (.ifCond .ne 5, 3) := by decide +kernel
theorem dX4_reason_73 : decode cX4_reason 73 = .ok (.iconst 2, 1) := by decide +kernel
theorem dX4_reason_74 : decode cX4_reason 74 = .ok (.ireturn, 1) := by decide +kernel
theorem dX4_reason_75 : decode cX4_reason 75 = .ok (.aload_n 0, 1) := by decide +kernel
theorem dX4_reason_76 : decode cX4_reason 76 = .ok (.getfield 10, 3) := by decide +kernel
theorem dX4_reason_79 : decode cX4_reason 79 = .ok (.getfield 45, 3) := by decide +kernel
theorem dX4_reason_82 : decode cX4_reason 82 = .ok (.iload_n 3, 1) := by decide +kernel
theorem dX4_reason_83 : decode cX4_reason 83 = .ok (.iload 4, 2) := by decide +kernel
theorem dX4_reason_85 : decode cX4_reason 85 = .ok (.invokevirtual 193, 3) := by decide +kernel
theorem dX4_reason_88 : decode cX4_reason 88 = .ok (.bipush (-5), 2) := by decide +kernel
theorem dX4_reason_90 : decode cX4_reason 90 = .ok (.if_icmp .ne 7, 3) := by decide +kernel
theorem dX4_reason_93 : decode cX4_reason 93 = .ok (.iconst 3, 1) := by decide +kernel
theorem dX4_reason_94 : decode cX4_reason 94 = .ok (.goto 4, 3) := by decide +kernel
theorem dX4_reason_97 : decode cX4_reason 97 = .ok (.iconst 0, 1) := by decide +kernel
theorem dX4_reason_98 : decode cX4_reason 98 = .ok (.ireturn, 1) := by decide +kernel
theorem dX4_kin_0 : decode cX4_kin 0 = .ok (.aload_n 0, 1) := by decide +kernel
theorem dX4_kin_1 : decode cX4_kin 1 = .ok (.getfield 10, 3) := by decide +kernel
theorem dX4_kin_4 : decode cX4_kin 4 = .ok (.iload_n 1, 1) := by decide +kernel
theorem dX4_kin_5 : decode cX4_kin 5 = .ok (.invokevirtual 83, 3) := by decide +kernel
theorem dX4_kin_8 : decode cX4_kin 8 = .ok (.ifCond .ne 5, 3) := by decide +kernel
theorem dX4_kin_11 : decode cX4_kin 11 = .ok (.iconst (-1), 1) := by decide +kernel
theorem dX4_kin_12 : decode cX4_kin 12 = .ok (.ireturn, 1) := by decide +kernel
theorem dX4_kin_13 : decode cX4_kin 13 = .ok (.aload_n 0, 1) := by decide +kernel
theorem dX4_kin_14 : decode cX4_kin 14 = .ok (.getfield 10, 3) := by decide +kernel
theorem dX4_kin_17 : decode cX4_kin 17 = .ok (.iload_n 1, 1) := by decide +kernel
theorem dX4_kin_18 : decode cX4_kin 18 = .ok (.invokevirtual 202, 3) := by decide +kernel
theorem dX4_kin_21 : decode cX4_kin 21 = .ok (.ireturn, 1) := by decide +kernel
theorem dX4_light_0 : decode cX4_light 0 = .ok (.aload_n 0, 1) := by decide +kernel
theorem dX4_light_1 : decode cX4_light 1 = .ok (.getfield 10, 3) := by decide +kernel
theorem dX4_light_4 : decode cX4_light 4 = .ok (.invokevirtual 205, 3) := by decide +kernel
theorem dX4_light_7 : decode cX4_light 7 = .ok (.ireturn, 1) := by decide +kernel
theorem dX4_bestTurn_0 : decode cX4_bestTurn 0 = .ok (.aload_n 0, 1) := by decide +kernel
theorem dX4_bestTurn_1 : decode cX4_bestTurn 1 = .ok (.getfield 10, 3) := by decide +kernel
theorem dX4_bestTurn_4 : decode cX4_bestTurn 4 = .ok (.iload_n 1, 1) := by decide +kernel
theorem dX4_bestTurn_5 : decode cX4_bestTurn 5 = .ok (.invokevirtual 83, 3) := by decide +kernel
theorem dX4_bestTurn_8 : decode cX4_bestTurn 8 = .ok (.ifCond .ne 5, 3) := by decide +kernel
theorem dX4_bestTurn_11 : decode cX4_bestTurn 11 = .ok (.iconst (-1), 1) := by decide +kernel
theorem dX4_bestTurn_12 : decode cX4_bestTurn 12 = .ok (.ireturn, 1) := by decide +kernel
theorem dX4_bestTurn_13 : decode cX4_bestTurn 13 = .ok (.iload_n 2, 1) := by decide +kernel
theorem dX4_bestTurn_14 : decode cX4_bestTurn 14 = .ok (.ifCond .lt 8, 3) := by decide +kernel
theorem dX4_bestTurn_17 : decode cX4_bestTurn 17 = .ok (.iload_n 2, 1) := by decide +kernel
theorem dX4_bestTurn_18 : decode cX4_bestTurn 18 = .ok (.iconst 1, 1) := by decide +kernel
theorem dX4_bestTurn_19 : decode cX4_bestTurn 19 = .ok (.if_icmp .le 6, 3) := by decide +kernel
theorem dX4_bestTurn_22 : decode cX4_bestTurn 22 = .ok (.bipush (-2), 2) := by decide +kernel
theorem dX4_bestTurn_24 : decode cX4_bestTurn 24 = .ok (.ireturn, 1) := by decide +kernel
theorem dX4_bestTurn_25 : decode cX4_bestTurn 25 = .ok (.aload_n 0, 1) := by decide +kernel
theorem dX4_bestTurn_26 : decode cX4_bestTurn 26 = .ok (.getfield 10, 3) := by decide +kernel
theorem dX4_bestTurn_29 : decode cX4_bestTurn 29 = .ok (.invokevirtual 127, 3) := by decide +kernel
theorem dX4_bestTurn_32 : decode cX4_bestTurn 32 = .ok (.iload_n 1, 1) := by decide +kernel
theorem dX4_bestTurn_33 : decode cX4_bestTurn 33 = .ok (.invokestatic 92, 3) := by decide +kernel
theorem dX4_bestTurn_36 : decode cX4_bestTurn 36 = .ok (.ifCond .ne 6, 3) := by decide +kernel
theorem dX4_bestTurn_39 : decode cX4_bestTurn 39 = .ok (.bipush (-4), 2) := by decide +kernel
theorem dX4_bestTurn_41 : decode cX4_bestTurn 41 = .ok (.ireturn, 1) := by decide +kernel
theorem dX4_bestTurn_42 : decode cX4_bestTurn 42 = .ok (.iload_n 2, 1) := by decide +kernel
theorem dX4_bestTurn_43 : decode cX4_bestTurn 43 = .ok (.ifCond .ne 14, 3) := by decide +kernel
theorem dX4_bestTurn_46 : decode cX4_bestTurn 46 = .ok (.aload_n 0, 1) := by decide +kernel
theorem dX4_bestTurn_47 : decode cX4_bestTurn 47 = .ok (.getfield 10, 3) := by decide +kernel
theorem dX4_bestTurn_50 : decode cX4_bestTurn 50 = .ok (.iload_n 1, 1) := by decide +kernel
theorem dX4_bestTurn_51 : decode cX4_bestTurn 51 = .ok (.invokevirtual 208, 3) := by decide +kernel
theorem dX4_bestTurn_54 : decode cX4_bestTurn 54 = .ok (.goto 11, 3) := by decide +kernel
theorem dX4_bestTurn_57 : decode cX4_bestTurn 57 = .ok (.aload_n 0, 1) := by decide +kernel
theorem dX4_bestTurn_58 : decode cX4_bestTurn 58 = .ok (.getfield 10, 3) := by decide +kernel
theorem dX4_bestTurn_61 : decode cX4_bestTurn 61 = .ok (.iload_n 1, 1) := by decide +kernel
theorem dX4_bestTurn_62 : decode cX4_bestTurn 62 = .ok (.invokevirtual 211, 3) := by decide +kernel
theorem dX4_bestTurn_65 : decode cX4_bestTurn 65 = .ok (.ireturn, 1) := by decide +kernel
theorem dX4_count_0 : decode cX4_count 0 = .ok (.iload_n 1, 1) := by decide +kernel
theorem dX4_count_1 : decode cX4_count 1 = .ok (.tableswitch 153 0 10 #[59, 67, 78, 86, 94, 102, 113, 121, 129, 137, 145], 59) := by decide +kernel
theorem dX4_count_60 : decode cX4_count 60 = .ok (.aload_n 0, 1) := by decide +kernel
theorem dX4_count_61 : decode cX4_count 61 = .ok (.getfield 10, 3) := by decide +kernel
theorem dX4_count_64 : decode cX4_count 64 = .ok (.invokevirtual 76, 3) := by decide +kernel
theorem dX4_count_67 : decode cX4_count 67 = .ok (.ireturn, 1) := by decide +kernel
theorem dX4_count_68 : decode cX4_count 68 = .ok (.aload_n 0, 1) := by decide +kernel
theorem dX4_count_69 : decode cX4_count 69 = .ok (.getfield 10, 3) := by decide +kernel
theorem dX4_count_72 : decode cX4_count 72 = .ok (.invokevirtual 127, 3) := by decide +kernel
theorem dX4_count_75 : decode cX4_count 75 = .ok (.invokestatic 99, 3) := by decide +kernel
theorem dX4_count_78 : decode cX4_count 78 = .ok (.ireturn, 1) := by decide +kernel
theorem dX4_count_79 : decode cX4_count 79 = .ok (.aload_n 0, 1) := by decide +kernel
theorem dX4_count_80 : decode cX4_count 80 = .ok (.getfield 10, 3) := by decide +kernel
theorem dX4_count_83 : decode cX4_count 83 = .ok (.invokevirtual 214, 3) := by decide +kernel
theorem dX4_count_86 : decode cX4_count 86 = .ok (.ireturn, 1) := by decide +kernel
theorem dX4_count_87 : decode cX4_count 87 = .ok (.aload_n 0, 1) := by decide +kernel
theorem dX4_count_88 : decode cX4_count 88 = .ok (.getfield 10, 3) := by decide +kernel
theorem dX4_count_91 : decode cX4_count 91 = .ok (.invokevirtual 217, 3) := by decide +kernel
theorem dX4_count_94 : decode cX4_count 94 = .ok (.ireturn, 1) := by decide +kernel
theorem dX4_count_95 : decode cX4_count 95 = .ok (.aload_n 0, 1) := by decide +kernel
theorem dX4_count_96 : decode cX4_count 96 = .ok (.getfield 10, 3) := by decide +kernel
theorem dX4_count_99 : decode cX4_count 99 = .ok (.invokevirtual 220, 3) := by decide +kernel
theorem dX4_count_102 : decode cX4_count 102 = .ok (.ireturn, 1) := by decide +kernel
theorem dX4_count_103 : decode cX4_count 103 = .ok (.aload_n 0, 1) := by decide +kernel
theorem dX4_count_104 : decode cX4_count 104 = .ok (.getfield 10, 3) := by decide +kernel
theorem dX4_count_107 : decode cX4_count 107 = .ok (.invokevirtual 205, 3) := by decide +kernel
theorem dX4_count_110 : decode cX4_count 110 = .ok (.invokestatic 99, 3) := by decide +kernel
theorem dX4_count_113 : decode cX4_count 113 = .ok (.ireturn, 1) := by decide +kernel
theorem dX4_count_114 : decode cX4_count 114 = .ok (.aload_n 0, 1) := by decide +kernel
theorem dX4_count_115 : decode cX4_count 115 = .ok (.getfield 10, 3) := by decide +kernel
theorem dX4_count_118 : decode cX4_count 118 = .ok (.invokevirtual 223, 3) := by decide +kernel
theorem dX4_count_121 : decode cX4_count 121 = .ok (.ireturn, 1) := by decide +kernel
theorem dX4_count_122 : decode cX4_count 122 = .ok (.aload_n 0, 1) := by decide +kernel
theorem dX4_count_123 : decode cX4_count 123 = .ok (.getfield 10, 3) := by decide +kernel
theorem dX4_count_126 : decode cX4_count 126 = .ok (.invokevirtual 226, 3) := by decide +kernel
theorem dX4_count_129 : decode cX4_count 129 = .ok (.ireturn, 1) := by decide +kernel
theorem dX4_count_130 : decode cX4_count 130 = .ok (.aload_n 0, 1) := by decide +kernel
theorem dX4_count_131 : decode cX4_count 131 = .ok (.getfield 10, 3) := by decide +kernel
theorem dX4_count_134 : decode cX4_count 134 = .ok (.invokevirtual 229, 3) := by decide +kernel
theorem dX4_count_137 : decode cX4_count 137 = .ok (.ireturn, 1) := by decide +kernel
theorem dX4_count_138 : decode cX4_count 138 = .ok (.aload_n 0, 1) := by decide +kernel
theorem dX4_count_139 : decode cX4_count 139 = .ok (.getfield 26, 3) := by decide +kernel
theorem dX4_count_142 : decode cX4_count 142 = .ok (.invokevirtual 146, 3) := by decide +kernel
theorem dX4_count_145 : decode cX4_count 145 = .ok (.ireturn, 1) := by decide +kernel
theorem dX4_count_146 : decode cX4_count 146 = .ok (.aload_n 0, 1) := by decide +kernel
theorem dX4_count_147 : decode cX4_count 147 = .ok (.getfield 33, 3) := by decide +kernel
theorem dX4_count_150 : decode cX4_count 150 = .ok (.invokevirtual 136, 3) := by decide +kernel
theorem dX4_count_153 : decode cX4_count 153 = .ok (.ireturn, 1) := by decide +kernel
theorem dX4_count_154 : decode cX4_count 154 = .ok (.bipush (-2), 2) := by decide +kernel
theorem dX4_count_156 : decode cX4_count 156 = .ok (.ireturn, 1) := by decide +kernel
theorem dX4_isPlace_0 : decode cX4_isPlace 0 = .ok (.iload_n 0, 1) := by decide +kernel
theorem dX4_isPlace_1 : decode cX4_isPlace 1 = .ok (.ifCond .lt 13, 3) := by decide +kernel
theorem dX4_isPlace_4 : decode cX4_isPlace 4 = .ok (.iload_n 0, 1) := by decide +kernel
theorem dX4_isPlace_5 : decode cX4_isPlace 5 = .ok (.bipush 24, 2) := by decide +kernel
theorem dX4_isPlace_7 : decode cX4_isPlace 7 = .ok (.if_icmp .ge 7, 3) := by decide +kernel
theorem dX4_isPlace_10 : decode cX4_isPlace 10 = .ok (.iconst 1, 1) := by decide +kernel
theorem dX4_isPlace_11 : decode cX4_isPlace 11 = .ok (.goto 4, 3) := by decide +kernel
theorem dX4_isPlace_14 : decode cX4_isPlace 14 = .ok (.iconst 0, 1) := by decide +kernel
theorem dX4_isPlace_15 : decode cX4_isPlace 15 = .ok (.ireturn, 1) := by decide +kernel
theorem dX4_isPower_0 : decode cX4_isPower 0 = .ok (.iload_n 0, 1) := by decide +kernel
theorem dX4_isPower_1 : decode cX4_isPower 1 = .ok (.sipush (-9999), 3) := by decide +kernel
theorem dX4_isPower_4 : decode cX4_isPower 4 = .ok (.if_icmp .lt 14, 3) := by decide +kernel
theorem dX4_isPower_7 : decode cX4_isPower 7 = .ok (.iload_n 0, 1) := by decide +kernel
theorem dX4_isPower_8 : decode cX4_isPower 8 = .ok (.sipush 9999, 3) := by decide +kernel
theorem dX4_isPower_11 : decode cX4_isPower 11 = .ok (.if_icmp .gt 7, 3) := by decide +kernel
theorem dX4_isPower_14 : decode cX4_isPower 14 = .ok (.iconst 1, 1) := by decide +kernel
theorem dX4_isPower_15 : decode cX4_isPower 15 = .ok (.goto 4, 3) := by decide +kernel
theorem dX4_isPower_18 : decode cX4_isPower 18 = .ok (.iconst 0, 1) := by decide +kernel
theorem dX4_isPower_19 : decode cX4_isPower 19 = .ok (.ireturn, 1) := by decide +kernel
theorem dX4_asNumber_0 : decode cX4_asNumber 0 = .ok (.iload_n 0, 1) := by decide +kernel
theorem dX4_asNumber_1 : decode cX4_asNumber 1 = .ok (.ifCond .eq 7, 3) := by decide +kernel
theorem dX4_asNumber_4 : decode cX4_asNumber 4 = .ok (.iconst 1, 1) := by decide +kernel
theorem dX4_asNumber_5 : decode cX4_asNumber 5 = .ok (.goto 4, 3) := by decide +kernel
theorem dX4_asNumber_8 : decode cX4_asNumber 8 = .ok (.iconst 0, 1) := by decide +kernel
theorem dX4_asNumber_9 : decode cX4_asNumber 9 = .ok (.ireturn, 1) := by decide +kernel
theorem dX4_only_0 : decode cX4_only 0 = .ok (.iconst 1, 1) := by decide +kernel
theorem dX4_only_1 : decode cX4_only 1 = .ok (.iload_n 0, 1) := by decide +kernel
theorem dX4_only_2 : decode cX4_only 2 = .ok (.ishl, 1) := by decide +kernel
theorem dX4_only_3 : decode cX4_only 3 = .ok (.ireturn, 1) := by decide +kernel
theorem dX4_has_0 : decode cX4_has 0 = .ok (.iload_n 0, 1) := by decide +kernel
theorem dX4_has_1 : decode cX4_has 1 = .ok (.iconst 1, 1) := by decide +kernel
theorem dX4_has_2 : decode cX4_has 2 = .ok (.iload_n 1, 1) := by decide +kernel
theorem dX4_has_3 : decode cX4_has 3 = .ok (.ishl, 1) := by decide +kernel
theorem dX4_has_4 : decode cX4_has 4 = .ok (.iand, 1) := by decide +kernel
theorem dX4_has_5 : decode cX4_has 5 = .ok (.ifCond .eq 7, 3) := by decide +kernel
theorem dX4_has_8 : decode cX4_has 8 = .ok (.iconst 1, 1) := by decide +kernel
theorem dX4_has_9 : decode cX4_has 9 = .ok (.goto 4, 3) := by decide +kernel
theorem dX4_has_12 : decode cX4_has 12 = .ok (.iconst 0, 1) := by decide +kernel
theorem dX4_has_13 : decode cX4_has 13 = .ok (.ireturn, 1) := by decide +kernel
theorem dX4_lowest_0 : decode cX4_lowest 0 = .ok (.iconst 0, 1) := by decide +kernel
theorem dX4_lowest_1 : decode cX4_lowest 1 = .ok (.istore_n 1, 1) := by decide +kernel
theorem dX4_lowest_2 : decode cX4_lowest 2 = .ok (.iload_n 1, 1) := by decide +kernel
theorem dX4_lowest_3 : decode cX4_lowest 3 = .ok (.bipush 24, 2) := by decide +kernel
theorem dX4_lowest_5 : decode cX4_lowest 5 = .ok (.if_icmp .ge 19, 3) := by decide +kernel
theorem dX4_lowest_8 : decode cX4_lowest 8 = .ok (.iload_n 0, 1) := by decide +kernel
theorem dX4_lowest_9 : decode cX4_lowest 9 = .ok (.iload_n 1, 1) := by decide +kernel
theorem dX4_lowest_10 : decode cX4_lowest 10 = .ok (.invokestatic 92, 3) := by decide +kernel
theorem dX4_lowest_13 : decode cX4_lowest 13 = .ok (.ifCond .eq 5, 3) := by decide +kernel
theorem dX4_lowest_16 : decode cX4_lowest 16 = .ok (.iload_n 1, 1) := by decide +kernel
theorem dX4_lowest_17 : decode cX4_lowest 17 = .ok (.ireturn, 1) := by decide +kernel
theorem dX4_lowest_18 : decode cX4_lowest 18 = .ok (.iinc 1 1, 3) := by decide +kernel
theorem dX4_lowest_21 : decode cX4_lowest 21 = .ok (.goto (-19), 3) := by decide +kernel
theorem dX4_lowest_24 : decode cX4_lowest 24 = .ok (.bipush (-5), 2) := by decide +kernel
theorem dX4_lowest_26 : decode cX4_lowest 26 = .ok (.ireturn, 1) := by decide +kernel
theorem dX4_leastCommonMultiple_0 : decode cX4_leastCommonMultiple 0 = .ok (.iload_n 1, 1) := by decide +kernel
theorem dX4_leastCommonMultiple_1 : decode cX4_leastCommonMultiple 1 = .ok (.iconst 1, 1) := by decide +kernel
theorem dX4_leastCommonMultiple_2 : decode cX4_leastCommonMultiple 2 = .ok (.if_icmp .ge 5, 3) := by decide +kernel
theorem dX4_leastCommonMultiple_5 : decode cX4_leastCommonMultiple 5 = .ok (.iload_n 0, 1) := by decide +kernel
theorem dX4_leastCommonMultiple_6 : decode cX4_leastCommonMultiple 6 = .ok (.ireturn, 1) := by decide +kernel
theorem dX4_leastCommonMultiple_7 : decode cX4_leastCommonMultiple 7 = .ok (.iconst 1, 1) := by decide +kernel
theorem dX4_leastCommonMultiple_8 : decode cX4_leastCommonMultiple 8 = .ok (.istore_n 2, 1) := by decide +kernel
theorem dX4_leastCommonMultiple_9 : decode cX4_leastCommonMultiple 9 = .ok (.iload_n 2, 1) := by decide +kernel
theorem dX4_leastCommonMultiple_10 : decode cX4_leastCommonMultiple 10 = .ok (.iload_n 1, 1) := by decide +kernel
theorem dX4_leastCommonMultiple_11 : decode cX4_leastCommonMultiple 11 = .ok (.if_icmp .ge 21, 3) := by decide +kernel
theorem dX4_leastCommonMultiple_14 : decode cX4_leastCommonMultiple 14 = .ok (.iload_n 0, 1) := by decide +kernel
theorem dX4_leastCommonMultiple_15 : decode cX4_leastCommonMultiple 15 = .ok (.iload_n 2, 1) := by decide +kernel
theorem dX4_leastCommonMultiple_16 : decode cX4_leastCommonMultiple 16 = .ok (.imul, 1) := by decide +kernel
theorem dX4_leastCommonMultiple_17 : decode cX4_leastCommonMultiple 17 = .ok (.iload_n 1, 1) := by decide +kernel
theorem dX4_leastCommonMultiple_18 : decode cX4_leastCommonMultiple 18 = .ok (.irem, 1) := by decide +kernel
theorem dX4_leastCommonMultiple_19 : decode cX4_leastCommonMultiple 19 = .ok (.ifCond .ne 7, 3) := by decide +kernel
theorem dX4_leastCommonMultiple_22 : decode cX4_leastCommonMultiple 22 = .ok (.iload_n 0, 1) := by decide +kernel
theorem dX4_leastCommonMultiple_23 : decode cX4_leastCommonMultiple 23 = .ok (.iload_n 2, 1) := by decide +kernel
theorem dX4_leastCommonMultiple_24 : decode cX4_leastCommonMultiple 24 = .ok (.imul, 1) := by decide +kernel
theorem dX4_leastCommonMultiple_25 : decode cX4_leastCommonMultiple 25 = .ok (.ireturn, 1) := by decide +kernel
theorem dX4_leastCommonMultiple_26 : decode cX4_leastCommonMultiple 26 = .ok (.iinc 2 1, 3) := by decide +kernel
theorem dX4_leastCommonMultiple_29 : decode cX4_leastCommonMultiple 29 = .ok (.goto (-20), 3) := by decide +kernel
theorem dX4_leastCommonMultiple_32 : decode cX4_leastCommonMultiple 32 = .ok (.iload_n 0, 1) := by decide +kernel
theorem dX4_leastCommonMultiple_33 : decode cX4_leastCommonMultiple 33 = .ok (.iload_n 1, 1) := by decide +kernel
theorem dX4_leastCommonMultiple_34 : decode cX4_leastCommonMultiple 34 = .ok (.imul, 1) := by decide +kernel
theorem dX4_leastCommonMultiple_35 : decode cX4_leastCommonMultiple 35 = .ok (.ireturn, 1) := by decide +kernel
theorem dX5_init_0 : decode cX5_init 0 = .ok (.aload_n 0, 1) := by decide +kernel
theorem dX5_init_1 : decode cX5_init 1 = .ok (.invokespecial 1, 3) := by decide +kernel
theorem dX5_init_4 : decode cX5_init 4 = .ok (.aload_n 0, 1) := by decide +kernel
theorem dX5_init_5 : decode cX5_init 5 = .ok (.bipush 65, 2) := by decide +kernel
theorem dX5_init_7 : decode cX5_init 7 = .ok (.newarray .int, 2) := by decide +kernel
theorem dX5_init_9 : decode cX5_init 9 = .ok (.putfield 7, 3) := by decide +kernel
theorem dX5_init_12 : decode cX5_init 12 = .ok (.aload_n 0, 1) := by decide +kernel
theorem dX5_init_13 : decode cX5_init 13 = .ok (.sipush 260, 3) := by decide +kernel
theorem dX5_init_16 : decode cX5_init 16 = .ok (.newarray .int, 2) := by decide +kernel
theorem dX5_init_18 : decode cX5_init 18 = .ok (.putfield 13, 3) := by decide +kernel
theorem dX5_init_21 : decode cX5_init 21 = .ok (.aload_n 0, 1) := by decide +kernel
theorem dX5_init_22 : decode cX5_init 22 = .ok (.bipush 65, 2) := by decide +kernel
theorem dX5_init_24 : decode cX5_init 24 = .ok (.newarray .int, 2) := by decide +kernel
theorem dX5_init_26 : decode cX5_init 26 = .ok (.putfield 16, 3) := by decide +kernel
theorem dX5_init_29 : decode cX5_init 29 = .ok (.aload_n 0, 1) := by decide +kernel
theorem dX5_init_30 : decode cX5_init 30 = .ok (.bipush 80, 2) := by decide +kernel
theorem dX5_init_32 : decode cX5_init 32 = .ok (.newarray .char, 2) := by decide +kernel
theorem dX5_init_34 : decode cX5_init 34 = .ok (.putfield 19, 3) := by decide +kernel
theorem dX5_init_37 : decode cX5_init 37 = .ok (.aload_n 0, 1) := by decide +kernel
theorem dX5_init_38 : decode cX5_init 38 = .ok (.bipush 24, 2) := by decide +kernel
theorem dX5_init_40 : decode cX5_init 40 = .ok (.newarray .int, 2) := by decide +kernel
theorem dX5_init_42 : decode cX5_init 42 = .ok (.putfield 23, 3) := by decide +kernel
theorem dX5_init_45 : decode cX5_init 45 = .ok (.iconst 0, 1) := by decide +kernel
theorem dX5_init_46 : decode cX5_init 46 = .ok (.istore_n 1, 1) := by decide +kernel
theorem dX5_init_47 : decode cX5_init 47 = .ok (.iload_n 1, 1) := by decide +kernel
theorem dX5_init_48 : decode cX5_init 48 = .ok (.bipush 24, 2) := by decide +kernel
theorem dX5_init_50 : decode cX5_init 50 = .ok (.if_icmp .ge 23, 3) := by decide +kernel
theorem dX5_init_53 : decode cX5_init 53 = .ok (.aload_n 0, 1) := by decide +kernel
theorem dX5_init_54 : decode cX5_init 54 = .ok (.getfield 7, 3) := by decide +kernel
theorem dX5_init_57 : decode cX5_init 57 = .ok (.iconst 0, 1) := by decide +kernel
theorem dX5_init_58 : decode cX5_init 58 = .ok (.iload_n 1, 1) := by decide +kernel
theorem dX5_init_59 : decode cX5_init 59 = .ok (.iadd, 1) := by decide +kernel
theorem dX5_init_60 : decode cX5_init 60 = .ok (.iload_n 1, 1) := by decide +kernel
theorem dX5_init_61 : decode cX5_init 61 = .ok (.iconst 1, 1) := by decide +kernel
theorem dX5_init_62 : decode cX5_init 62 = .ok (.iadd, 1) := by decide +kernel
theorem dX5_init_63 : decode cX5_init 63 = .ok (.bipush 24, 2) := by decide +kernel
theorem dX5_init_65 : decode cX5_init 65 = .ok (.irem, 1) := by decide +kernel
theorem dX5_init_66 : decode cX5_init 66 = .ok (.iastore, 1) := by decide +kernel
theorem dX5_init_67 : decode cX5_init 67 = .ok (.iinc 1 1, 3) := by decide +kernel
theorem dX5_init_70 : decode cX5_init 70 = .ok (.goto (-23), 3) := by decide +kernel
theorem dX5_init_73 : decode cX5_init 73 = .ok (.return_, 1) := by decide +kernel
theorem dX5_in_0 : decode cX5_in 0 = .ok (.iload_n 0, 1) := by decide +kernel
theorem dX5_in_1 : decode cX5_in 1 = .ok (.iload_n 1, 1) := by decide +kernel
theorem dX5_in_2 : decode cX5_in 2 = .ok (.if_icmp .lt 12, 3) := by decide +kernel
theorem dX5_in_5 : decode cX5_in 5 = .ok (.iload_n 0, 1) := by decide +kernel
theorem dX5_in_6 : decode cX5_in 6 = .ok (.iload_n 2, 1) := by decide +kernel
theorem dX5_in_7 : decode cX5_in 7 = .ok (.if_icmp .gt 7, 3) := by decide +kernel
theorem dX5_in_10 : decode cX5_in 10 = .ok (.iconst 1, 1) := by decide +kernel
theorem dX5_in_11 : decode cX5_in 11 = .ok (.goto 4, 3) := by decide +kernel
theorem dX5_in_14 : decode cX5_in 14 = .ok (.iconst 0, 1) := by decide +kernel
theorem dX5_in_15 : decode cX5_in 15 = .ok (.ireturn, 1) := by decide +kernel
theorem dX5_isPlace_0 : decode cX5_isPlace 0 = .ok (.iload_n 0, 1) := by decide +kernel
theorem dX5_isPlace_1 : decode cX5_isPlace 1 = .ok (.iconst 0, 1) := by decide +kernel
theorem dX5_isPlace_2 : decode cX5_isPlace 2 = .ok (.bipush 23, 2) := by decide +kernel
theorem dX5_isPlace_4 : decode cX5_isPlace 4 = .ok (.invokestatic 26, 3) := by decide +kernel
theorem dX5_isPlace_7 : decode cX5_isPlace 7 = .ok (.ireturn, 1) := by decide +kernel
theorem dX5_isTicket_0 : decode cX5_isTicket 0 = .ok (.iload_n 1, 1) := by decide +kernel
theorem dX5_isTicket_1 : decode cX5_isTicket 1 = .ok (.iconst 0, 1) := by decide +kernel
theorem dX5_isTicket_2 : decode cX5_isTicket 2 = .ok (.aload_n 0, 1) := by decide +kernel
theorem dX5_isTicket_3 : decode cX5_isTicket 3 = .ok (.getfield 7, 3) := by decide +kernel
theorem dX5_isTicket_6 : decode cX5_isTicket 6 = .ok (.bipush 24, 2) := by decide +kernel
theorem dX5_isTicket_8 : decode cX5_isTicket 8 = .ok (.iaload, 1) := by decide +kernel
theorem dX5_isTicket_9 : decode cX5_isTicket 9 = .ok (.iconst 1, 1) := by decide +kernel
theorem dX5_isTicket_10 : decode cX5_isTicket 10 = .ok (.isub, 1) := by decide +kernel
theorem dX5_isTicket_11 : decode cX5_isTicket 11 = .ok (.invokestatic 26, 3) := by decide +kernel
theorem dX5_isTicket_14 : decode cX5_isTicket 14 = .ok (.ireturn, 1) := by decide +kernel
theorem dX5_isPower_0 : decode cX5_isPower 0 = .ok (.iload_n 0, 1) := by decide +kernel
theorem dX5_isPower_1 : decode cX5_isPower 1 = .ok (.sipush (-9999), 3) := by decide +kernel
theorem dX5_isPower_4 : decode cX5_isPower 4 = .ok (.sipush 9999, 3) := by decide +kernel
theorem dX5_isPower_7 : decode cX5_isPower 7 = .ok (.invokestatic 26, 3) := by decide +kernel
theorem dX5_isPower_10 : decode cX5_isPower 10 = .ok (.ireturn, 1) := by decide +kernel
theorem dX5_ones_0 : decode cX5_ones 0 = .ok (.iconst 0, 1) := by decide +kernel
theorem dX5_ones_1 : decode cX5_ones 1 = .ok (.istore_n 1, 1) := by decide +kernel
theorem dX5_ones_2 : decode cX5_ones 2 = .ok (.iconst 0, 1) := by decide +kernel
theorem dX5_ones_3 : decode cX5_ones 3 = .ok (.istore_n 2, 1) := by decide +kernel
theorem dX5_ones_4 : decode cX5_ones 4 = .ok (.iload_n 2, 1) := by decide +kernel
theorem dX5_ones_5 : decode cX5_ones 5 = .ok (.bipush 24, 2) := by decide +kernel
theorem dX5_ones_7 : decode cX5_ones 7 = .ok (.if_icmp .ge 17, 3) := by decide +kernel
theorem dX5_ones_10 : decode cX5_ones 10 = .ok (.iload_n 1, 1) := by decide +kernel
theorem dX5_ones_11 : decode cX5_ones 11 = .ok (.iload_n 0, 1) := by decide +kernel
theorem dX5_ones_12 : decode cX5_ones 12 = .ok (.iload_n 2, 1) := by decide +kernel
theorem dX5_ones_13 : decode cX5_ones 13 = .ok (.ishr, 1) := by decide +kernel
theorem dX5_ones_14 : decode cX5_ones 14 = .ok (.iconst 1, 1) := by decide +kernel
theorem dX5_ones_15 : decode cX5_ones 15 = .ok (.iand, 1) := by decide +kernel
theorem dX5_ones_16 : decode cX5_ones 16 = .ok (.iadd, 1) := by decide +kernel
theorem dX5_ones_17 : decode cX5_ones 17 = .ok (.istore_n 1, 1) := by decide +kernel
theorem dX5_ones_18 : decode cX5_ones 18 = .ok (.iinc 2 1, 3) := by decide +kernel
theorem dX5_ones_21 : decode cX5_ones 21 = .ok (.goto (-17), 3) := by decide +kernel
theorem dX5_ones_24 : decode cX5_ones 24 = .ok (.iload_n 1, 1) := by decide +kernel
theorem dX5_ones_25 : decode cX5_ones 25 = .ok (.ireturn, 1) := by decide +kernel
theorem dX5_records_0 : decode cX5_records 0 = .ok (.aload_n 0, 1) := by decide +kernel
theorem dX5_records_1 : decode cX5_records 1 = .ok (.getfield 30, 3) := by decide +kernel
theorem dX5_records_4 : decode cX5_records 4 = .ok (.iconst 4, 1) := by decide +kernel
theorem dX5_records_5 : decode cX5_records 5 = .ok (.if_icmp .ne 43, 3) := by decide +kernel
theorem dX5_records_8 : decode cX5_records 8 = .ok (.iconst 0, 1) := by decide +kernel
theorem dX5_records_9 : decode cX5_records 9 = .ok (.istore_n 1, 1) := by decide +kernel
theorem dX5_records_10 : decode cX5_records 10 = .ok (.iload_n 1, 1) := by decide +kernel
theorem dX5_records_11 : decode cX5_records 11 = .ok (.sipush 195, 3) := by decide +kernel
theorem dX5_records_14 : decode cX5_records 14 = .ok (.if_icmp .ge 24, 3) := by decide +kernel
theorem dX5_records_17 : decode cX5_records 17 = .ok (.aload_n 0, 1) := by decide +kernel
theorem dX5_records_18 : decode cX5_records 18 = .ok (.getfield 13, 3) := by decide +kernel
theorem dX5_records_21 : decode cX5_records 21 = .ok (.iload_n 1, 1) := by decide +kernel
theorem dX5_records_22 : decode cX5_records 22 = .ok (.aload_n 0, 1) := by decide +kernel
theorem dX5_records_23 : decode cX5_records 23 = .ok (.getfield 13, 3) := by decide +kernel
theorem dX5_records_26 : decode cX5_records 26 = .ok (.bipush 65, 2) := by decide +kernel
theorem dX5_records_28 : decode cX5_records 28 = .ok (.iload_n 1, 1) := by decide +kernel
theorem dX5_records_29 : decode cX5_records 29 = .ok (.iadd, 1) := by decide +kernel
theorem dX5_records_30 : decode cX5_records 30 = .ok (.iaload, 1) := by decide +kernel
theorem dX5_records_31 : decode cX5_records 31 = .ok (.iastore, 1) := by decide +kernel
theorem dX5_records_32 : decode cX5_records 32 = .ok (.iinc 1 1, 3) := by decide +kernel
theorem dX5_records_35 : decode cX5_records 35 = .ok (.goto (-25), 3) := by decide +kernel
theorem dX5_records_38 : decode cX5_records 38 = .ok (.aload_n 0, 1) := by decide +kernel
theorem dX5_records_39 : decode cX5_records 39 = .ok (.dup, 1) := by decide +kernel
theorem dX5_records_40 : decode cX5_records 40 = .ok (.getfield 30, 3) := by decide +kernel
theorem dX5_records_43 : decode cX5_records 43 = .ok (.iconst 1, 1) := by decide +kernel
theorem dX5_records_44 : decode cX5_records 44 = .ok (.isub, 1) := by decide +kernel
theorem dX5_records_45 : decode cX5_records 45 = .ok (.putfield 30, 3) := by decide +kernel
theorem dX5_records_48 : decode cX5_records 48 = .ok (.iconst 0, 1) := by decide +kernel
theorem dX5_records_49 : decode cX5_records 49 = .ok (.istore_n 1, 1) := by decide +kernel
theorem dX5_records_50 : decode cX5_records 50 = .ok (.iload_n 1, 1) := by decide +kernel
theorem dX5_records_51 : decode cX5_records 51 = .ok (.bipush 65, 2) := by decide +kernel
theorem dX5_records_53 : decode cX5_records 53 = .ok (.if_icmp .ge 29, 3) := by decide +kernel
theorem dX5_records_56 : decode cX5_records 56 = .ok (.aload_n 0, 1) := by decide +kernel
theorem dX5_records_57 : decode cX5_records 57 = .ok (.getfield 13, 3) := by decide +kernel
theorem dX5_records_60 : decode cX5_records 60 = .ok (.bipush 65, 2) := by decide +kernel
theorem dX5_records_62 : decode cX5_records 62 = .ok (.aload_n 0, 1) := by decide +kernel
theorem dX5_records_63 : decode cX5_records 63 = .ok (.getfield 30, 3) := by decide +kernel
theorem dX5_records_66 : decode cX5_records 66 = .ok (.imul, 1) := by decide +kernel
theorem dX5_records_67 : decode cX5_records 67 = .ok (.iload_n 1, 1) := by decide +kernel
theorem dX5_records_68 : decode cX5_records 68 = .ok (.iadd, 1) := by decide +kernel
theorem dX5_records_69 : decode cX5_records 69 = .ok (.aload_n 0, 1) := by decide +kernel
theorem dX5_records_70 : decode cX5_records 70 = .ok (.getfield 7, 3) := by decide +kernel
theorem dX5_records_73 : decode cX5_records 73 = .ok (.iload_n 1, 1) := by decide +kernel
theorem dX5_records_74 : decode cX5_records 74 = .ok (.iaload, 1) := by decide +kernel
theorem dX5_records_75 : decode cX5_records 75 = .ok (.iastore, 1) := by decide +kernel
theorem dX5_records_76 : decode cX5_records 76 = .ok (.iinc 1 1, 3) := by decide +kernel
theorem dX5_records_79 : decode cX5_records 79 = .ok (.goto (-29), 3) := by decide +kernel
theorem dX5_records_82 : decode cX5_records 82 = .ok (.aload_n 0, 1) := by decide +kernel
theorem dX5_records_83 : decode cX5_records 83 = .ok (.dup, 1) := by decide +kernel
theorem dX5_records_84 : decode cX5_records 84 = .ok (.getfield 30, 3) := by decide +kernel
theorem dX5_records_87 : decode cX5_records 87 = .ok (.iconst 1, 1) := by decide +kernel
theorem dX5_records_88 : decode cX5_records 88 = .ok (.iadd, 1) := by decide +kernel
theorem dX5_records_89 : decode cX5_records 89 = .ok (.putfield 30, 3) := by decide +kernel
theorem dX5_records_92 : decode cX5_records 92 = .ok (.return_, 1) := by decide +kernel
theorem dX5_longOf_0 : decode cX5_longOf 0 = .ok (.iconst 1, 1) := by decide +kernel
theorem dX5_longOf_1 : decode cX5_longOf 1 = .ok (.istore_n 2, 1) := by decide +kernel
theorem dX5_longOf_2 : decode cX5_longOf 2 = .ok (.aload_n 0, 1) := by decide +kernel
theorem dX5_longOf_3 : decode cX5_longOf 3 = .ok (.getfield 7, 3) := by decide +kernel
theorem dX5_longOf_6 : decode cX5_longOf 6 = .ok (.iconst 0, 1) := by decide +kernel
theorem dX5_longOf_7 : decode cX5_longOf 7 = .ok (.iload_n 1, 1) := by decide +kernel
theorem dX5_longOf_8 : decode cX5_longOf 8 = .ok (.iadd, 1) := by decide +kernel
theorem dX5_longOf_9 : decode cX5_longOf 9 = .ok (.iaload, 1) := by decide +kernel
theorem dX5_longOf_10 : decode cX5_longOf 10 = .ok (.istore_n 3, 1) := by decide +kernel
theorem dX5_longOf_11 : decode cX5_longOf 11 = .ok (.iload_n 3, 1) := by decide +kernel
theorem dX5_longOf_12 : decode cX5_longOf 12 = .ok (.iload_n 1, 1) := by decide +kernel
theorem dX5_longOf_13 : decode cX5_longOf 13 = .ok (.if_icmp .eq 18, 3) := by decide +kernel
theorem dX5_longOf_16 : decode cX5_longOf 16 = .ok (.iinc 2 1, 3) := by decide +kernel
theorem dX5_longOf_19 : decode cX5_longOf 19 = .ok (.aload_n 0, 1) := by decide +kernel
theorem dX5_longOf_20 : decode cX5_longOf 20 = .ok (.getfield 7, 3) := by decide +kernel
theorem dX5_longOf_23 : decode cX5_longOf 23 = .ok (.iconst 0, 1) := by decide +kernel
theorem dX5_longOf_24 : decode cX5_longOf 24 = .ok (.iload_n 3, 1) := by decide +kernel
theorem dX5_longOf_25 : decode cX5_longOf 25 = .ok (.iadd, 1) := by decide +kernel
theorem dX5_longOf_26 : decode cX5_longOf 26 = .ok (.iaload, 1) := by decide +kernel
theorem dX5_longOf_27 : decode cX5_longOf 27 = .ok (.istore_n 3, 1) := by decide +kernel
theorem dX5_longOf_28 : decode cX5_longOf 28 = .ok (.goto (-17), 3) := by decide +kernel
theorem dX5_longOf_31 : decode cX5_longOf 31 = .ok (.iload_n 2, 1) := by decide +kernel
theorem dX5_longOf_32 : decode cX5_longOf 32 = .ok (.ireturn, 1) := by decide +kernel
theorem dX5_lowestOf_0 : decode cX5_lowestOf 0 = .ok (.iload_n 1, 1) := by decide +kernel
theorem dX5_lowestOf_1 : decode cX5_lowestOf 1 = .ok (.istore_n 2, 1) := by decide +kernel
theorem dX5_lowestOf_2 : decode cX5_lowestOf 2 = .ok (.aload_n 0, 1) := by decide +kernel
theorem dX5_lowestOf_3 : decode cX5_lowestOf 3 = .ok (.getfield 7, 3) := by decide +kernel
theorem dX5_lowestOf_6 : decode cX5_lowestOf 6 = .ok (.iconst 0, 1) := by decide +kernel
theorem dX5_lowestOf_7 : decode cX5_lowestOf 7 = .ok (.iload_n 1, 1) := by decide +kernel
theorem dX5_lowestOf_8 : decode cX5_lowestOf 8 = .ok (.iadd, 1) := by decide +kernel
theorem dX5_lowestOf_9 : decode cX5_lowestOf 9 = .ok (.iaload, 1) := by decide +kernel
theorem dX5_lowestOf_10 : decode cX5_lowestOf 10 = .ok (.istore_n 3, 1) := by decide +kernel
theorem dX5_lowestOf_11 : decode cX5_lowestOf 11 = .ok (.iload_n 3, 1) := by decide +kernel
theorem dX5_lowestOf_12 : decode cX5_lowestOf 12 = .ok (.iload_n 1, 1) := by decide +kernel
theorem dX5_lowestOf_13 : decode cX5_lowestOf 13 = .ok (.if_icmp .eq 26, 3) := by decide +kernel
theorem dX5_lowestOf_16 : decode cX5_lowestOf 16 = .ok (.iload_n 3, 1) := by decide +kernel
theorem dX5_lowestOf_17 : decode cX5_lowestOf 17 = .ok (.iload_n 2, 1) := by decide +kernel
theorem dX5_lowestOf_18 : decode cX5_lowestOf 18 = .ok (.if_icmp .ge 7, 3) := by decide +kernel
theorem dX5_lowestOf_21 : decode cX5_lowestOf 21 = .ok (.iload_n 3, 1) := by decide +kernel
theorem dX5_lowestOf_22 : decode cX5_lowestOf 22 = .ok (.goto 4, 3) := by decide +kernel
theorem dX5_lowestOf_25 : decode cX5_lowestOf 25 = .ok (.iload_n 2, 1) := by decide +kernel
theorem dX5_lowestOf_26 : decode cX5_lowestOf 26 = .ok (.istore_n 2, 1) := by decide +kernel
theorem dX5_lowestOf_27 : decode cX5_lowestOf 27 = .ok (.aload_n 0, 1) := by decide +kernel
theorem dX5_lowestOf_28 : decode cX5_lowestOf 28 = .ok (.getfield 7, 3) := by decide +kernel
theorem dX5_lowestOf_31 : decode cX5_lowestOf 31 = .ok (.iconst 0, 1) := by decide +kernel
theorem dX5_lowestOf_32 : decode cX5_lowestOf 32 = .ok (.iload_n 3, 1) := by decide +kernel
theorem dX5_lowestOf_33 : decode cX5_lowestOf 33 = .ok (.iadd, 1) := by decide +kernel
theorem dX5_lowestOf_34 : decode cX5_lowestOf 34 = .ok (.iaload, 1) := by decide +kernel
theorem dX5_lowestOf_35 : decode cX5_lowestOf 35 = .ok (.istore_n 3, 1) := by decide +kernel
theorem dX5_lowestOf_36 : decode cX5_lowestOf 36 = .ok (.goto (-25), 3) := by decide +kernel
theorem dX5_lowestOf_39 : decode cX5_lowestOf 39 = .ok (.iload_n 2, 1) := by decide +kernel
theorem dX5_lowestOf_40 : decode cX5_lowestOf 40 = .ok (.ireturn, 1) := by decide +kernel
theorem dX5_roundOf_0 : decode cX5_roundOf 0 = .ok (.iconst 1, 1) := by decide +kernel
theorem dX5_roundOf_1 : decode cX5_roundOf 1 = .ok (.iload_n 1, 1) := by decide +kernel
theorem dX5_roundOf_2 : decode cX5_roundOf 2 = .ok (.ishl, 1) := by decide +kernel
theorem dX5_roundOf_3 : decode cX5_roundOf 3 = .ok (.istore_n 2, 1) := by decide +kernel
theorem dX5_roundOf_4 : decode cX5_roundOf 4 = .ok (.aload_n 0, 1) := by decide +kernel
theorem dX5_roundOf_5 : decode cX5_roundOf 5 = .ok (.getfield 7, 3) := by decide +kernel
theorem dX5_roundOf_8 : decode cX5_roundOf 8 = .ok (.iconst 0, 1) := by decide +kernel
theorem dX5_roundOf_9 : decode cX5_roundOf 9 = .ok (.iload_n 1, 1) := by decide +kernel
theorem dX5_roundOf_10 : decode cX5_roundOf 10 = .ok (.iadd, 1) := by decide +kernel
theorem dX5_roundOf_11 : decode cX5_roundOf 11 = .ok (.iaload, 1) := by decide +kernel
theorem dX5_roundOf_12 : decode cX5_roundOf 12 = .ok (.istore_n 3, 1) := by decide +kernel
theorem dX5_roundOf_13 : decode cX5_roundOf 13 = .ok (.iload_n 3, 1) := by decide +kernel
theorem dX5_roundOf_14 : decode cX5_roundOf 14 = .ok (.iload_n 1, 1) := by decide +kernel
theorem dX5_roundOf_15 : decode cX5_roundOf 15 = .ok (.if_icmp .eq 21, 3) := by decide +kernel
theorem dX5_roundOf_18 : decode cX5_roundOf 18 = .ok (.iload_n 2, 1) := by decide +kernel
theorem dX5_roundOf_19 : decode cX5_roundOf 19 = .ok (.iconst 1, 1) := by decide +kernel
theorem dX5_roundOf_20 : decode cX5_roundOf 20 = .ok (.iload_n 3, 1) := by decide +kernel
theorem dX5_roundOf_21 : decode cX5_roundOf 21 = .ok (.ishl, 1) := by decide +kernel
theorem dX5_roundOf_22 : decode cX5_roundOf 22 = .ok (.ior, 1) := by decide +kernel
theorem dX5_roundOf_23 : decode cX5_roundOf 23 = .ok (.istore_n 2, 1) := by decide +kernel
theorem dX5_roundOf_24 : decode cX5_roundOf 24 = .ok (.aload_n 0, 1) := by decide +kernel
theorem dX5_roundOf_25 : decode cX5_roundOf 25 = .ok (.getfield 7, 3) := by decide +kernel
theorem dX5_roundOf_28 : decode cX5_roundOf 28 = .ok (.iconst 0, 1) := by decide +kernel
theorem dX5_roundOf_29 : decode cX5_roundOf 29 = .ok (.iload_n 3, 1) := by decide +kernel
theorem dX5_roundOf_30 : decode cX5_roundOf 30 = .ok (.iadd, 1) := by decide +kernel
theorem dX5_roundOf_31 : decode cX5_roundOf 31 = .ok (.iaload, 1) := by decide +kernel
theorem dX5_roundOf_32 : decode cX5_roundOf 32 = .ok (.istore_n 3, 1) := by decide +kernel
theorem dX5_roundOf_33 : decode cX5_roundOf 33 = .ok (.goto (-20), 3) := by decide +kernel
theorem dX5_roundOf_36 : decode cX5_roundOf 36 = .ok (.iload_n 2, 1) := by decide +kernel
theorem dX5_roundOf_37 : decode cX5_roundOf 37 = .ok (.ireturn, 1) := by decide +kernel
theorem dX5_sourceOf_0 : decode cX5_sourceOf 0 = .ok (.iconst 0, 1) := by decide +kernel
theorem dX5_sourceOf_1 : decode cX5_sourceOf 1 = .ok (.istore_n 2, 1) := by decide +kernel
theorem dX5_sourceOf_2 : decode cX5_sourceOf 2 = .ok (.iconst 0, 1) := by decide +kernel
theorem dX5_sourceOf_3 : decode cX5_sourceOf 3 = .ok (.istore_n 3, 1) := by decide +kernel
theorem dX5_sourceOf_4 : decode cX5_sourceOf 4 = .ok (.iload_n 3, 1) := by decide +kernel
theorem dX5_sourceOf_5 : decode cX5_sourceOf 5 = .ok (.bipush 24, 2) := by decide +kernel
theorem dX5_sourceOf_7 : decode cX5_sourceOf 7 = .ok (.if_icmp .ge 27, 3) := by decide +kernel
theorem dX5_sourceOf_10 : decode cX5_sourceOf 10 = .ok (.aload_n 0, 1) := by decide +kernel
theorem dX5_sourceOf_11 : decode cX5_sourceOf 11 = .ok (.getfield 7, 3) := by decide +kernel
theorem dX5_sourceOf_14 : decode cX5_sourceOf 14 = .ok (.iconst 0, 1) := by decide +kernel
theorem dX5_sourceOf_15 : decode cX5_sourceOf 15 = .ok (.iload_n 3, 1) := by decide +kernel
theorem dX5_sourceOf_16 : decode cX5_sourceOf 16 = .ok (.iadd, 1) := by decide +kernel
theorem dX5_sourceOf_17 : decode cX5_sourceOf 17 = .ok (.iaload, 1) := by decide +kernel
theorem dX5_sourceOf_18 : decode cX5_sourceOf 18 = .ok (.iload_n 1, 1) := by decide +kernel
theorem dX5_sourceOf_19 : decode cX5_sourceOf 19 = .ok (.if_icmp .ne 7, 3) := by decide +kernel
theorem dX5_sourceOf_22 : decode cX5_sourceOf 22 = .ok (.iload_n 3, 1) := by decide +kernel
theorem dX5_sourceOf_23 : decode cX5_sourceOf 23 = .ok (.goto 4, 3) := by decide +kernel
theorem dX5_sourceOf_26 : decode cX5_sourceOf 26 = .ok (.iload_n 2, 1) := by decide +kernel
theorem dX5_sourceOf_27 : decode cX5_sourceOf 27 = .ok (.istore_n 2, 1) := by decide +kernel
theorem dX5_sourceOf_28 : decode cX5_sourceOf 28 = .ok (.iinc 3 1, 3) := by decide +kernel
theorem dX5_sourceOf_31 : decode cX5_sourceOf 31 = .ok (.goto (-27), 3) := by decide +kernel
theorem dX5_sourceOf_34 : decode cX5_sourceOf 34 = .ok (.iload_n 2, 1) := by decide +kernel
theorem dX5_sourceOf_35 : decode cX5_sourceOf 35 = .ok (.ireturn, 1) := by decide +kernel
theorem dX5_order_0 : decode cX5_order 0 = .ok (.iconst 1, 1) := by decide +kernel
theorem dX5_order_1 : decode cX5_order 1 = .ok (.istore_n 1, 1) := by decide +kernel
theorem dX5_order_2 : decode cX5_order 2 = .ok (.iconst 0, 1) := by decide +kernel
theorem dX5_order_3 : decode cX5_order 3 = .ok (.istore_n 2, 1) := by decide +kernel
theorem dX5_order_4 : decode cX5_order 4 = .ok (.iload_n 2, 1) := by decide +kernel
theorem dX5_order_5 : decode cX5_order 5 = .ok (.bipush 24, 2) := by decide +kernel
theorem dX5_order_7 : decode cX5_order 7 = .ok (.if_icmp .ge 37, 3) := by decide +kernel
theorem dX5_order_10 : decode cX5_order 10 = .ok (.aload_n 0, 1) := by decide +kernel
theorem dX5_order_11 : decode cX5_order 11 = .ok (.iload_n 2, 1) := by decide +kernel
theorem dX5_order_12 : decode cX5_order 12 = .ok (.invokevirtual 34, 3) := by decide +kernel
theorem dX5_order_15 : decode cX5_order 15 = .ok (.istore_n 3, 1) := by decide +kernel
theorem dX5_order_16 : decode cX5_order 16 = .ok (.iload_n 1, 1) := by decide +kernel
theorem dX5_order_17 : decode cX5_order 17 = .ok (.istore 4, 2) := by decide +kernel
theorem dX5_order_19 : decode cX5_order 19 = .ok (.iload 4, 2) := by decide +kernel
theorem dX5_order_21 : decode cX5_order 21 = .ok (.iload_n 3, 1) := by decide +kernel
theorem dX5_order_22 : decode cX5_order 22 = .ok (.irem, 1) := by decide +kernel
theorem dX5_order_23 : decode cX5_order 23 = .ok (.ifCond .eq 12, 3) := by decide +kernel
theorem dX5_order_26 : decode cX5_order 26 = .ok (.iload 4, 2) := by decide +kernel
theorem dX5_order_28 : decode cX5_order 28 = .ok (.iload_n 1, 1) := by decide +kernel
theorem dX5_order_29 : decode cX5_order 29 = .ok (.iadd, 1) := by decide +kernel
theorem dX5_order_30 : decode cX5_order 30 = .ok (.istore 4, 2) := by decide +kernel
theorem dX5_order_32 : decode cX5_order 32 = .ok (.goto (-13), 3) := by decide +kernel
theorem dX5_order_35 : decode cX5_order 35 = .ok (.iload 4, 2) := by decide +kernel
theorem dX5_order_37 : decode cX5_order 37 = .ok (.istore_n 1, 1) := by decide +kernel
theorem dX5_order_38 : decode cX5_order 38 = .ok (.iinc 2 1, 3) := by decide +kernel
theorem dX5_order_41 : decode cX5_order 41 = .ok (.goto (-37), 3) := by decide +kernel
theorem dX5_order_44 : decode cX5_order 44 = .ok (.iload_n 1, 1) := by decide +kernel
theorem dX5_order_45 : decode cX5_order 45 = .ok (.ireturn, 1) := by decide +kernel
theorem dX5_moved_0 : decode cX5_moved 0 = .ok (.iconst 0, 1) := by decide +kernel
theorem dX5_moved_1 : decode cX5_moved 1 = .ok (.istore_n 2, 1) := by decide +kernel
theorem dX5_moved_2 : decode cX5_moved 2 = .ok (.iconst 0, 1) := by decide +kernel
theorem dX5_moved_3 : decode cX5_moved 3 = .ok (.istore_n 3, 1) := by decide +kernel
theorem dX5_moved_4 : decode cX5_moved 4 = .ok (.iload_n 3, 1) := by decide +kernel
theorem dX5_moved_5 : decode cX5_moved 5 = .ok (.bipush 24, 2) := by decide +kernel
theorem dX5_moved_7 : decode cX5_moved 7 = .ok (.if_icmp .ge 26, 3) := by decide +kernel
theorem dX5_moved_10 : decode cX5_moved 10 = .ok (.iload_n 2, 1) := by decide +kernel
theorem dX5_moved_11 : decode cX5_moved 11 = .ok (.iload_n 1, 1) := by decide +kernel
theorem dX5_moved_12 : decode cX5_moved 12 = .ok (.iload_n 3, 1) := by decide +kernel
theorem dX5_moved_13 : decode cX5_moved 13 = .ok (.ishr, 1) := by decide +kernel
theorem dX5_moved_14 : decode cX5_moved 14 = .ok (.iconst 1, 1) := by decide +kernel
theorem dX5_moved_15 : decode cX5_moved 15 = .ok (.iand, 1) := by decide +kernel
theorem dX5_moved_16 : decode cX5_moved 16 = .ok (.aload_n 0, 1) := by decide +kernel
theorem dX5_moved_17 : decode cX5_moved 17 = .ok (.getfield 7, 3) := by decide +kernel
theorem dX5_moved_20 : decode cX5_moved 20 = .ok (.iconst 0, 1) := by decide +kernel
theorem dX5_moved_21 : decode cX5_moved 21 = .ok (.iload_n 3, 1) := by decide +kernel
theorem dX5_moved_22 : decode cX5_moved 22 = .ok (.iadd, 1) := by decide +kernel
theorem dX5_moved_23 : decode cX5_moved 23 = .ok (.iaload, 1) := by decide +kernel
theorem dX5_moved_24 : decode cX5_moved 24 = .ok (.ishl, 1) := by decide +kernel
theorem dX5_moved_25 : decode cX5_moved 25 = .ok (.ior, 1) := by decide +kernel
theorem dX5_moved_26 : decode cX5_moved 26 = .ok (.istore_n 2, 1) := by decide +kernel
theorem dX5_moved_27 : decode cX5_moved 27 = .ok (.iinc 3 1, 3) := by decide +kernel
theorem dX5_moved_30 : decode cX5_moved 30 = .ok (.goto (-26), 3) := by decide +kernel
theorem dX5_moved_33 : decode cX5_moved 33 = .ok (.iload_n 2, 1) := by decide +kernel
theorem dX5_moved_34 : decode cX5_moved 34 = .ok (.ireturn, 1) := by decide +kernel
theorem dX5_forward_0 : decode cX5_forward 0 = .ok (.aload_n 0, 1) := by decide +kernel
theorem dX5_forward_1 : decode cX5_forward 1 = .ok (.invokevirtual 38, 3) := by decide +kernel
theorem dX5_forward_4 : decode cX5_forward 4 = .ok (.istore_n 2, 1) := by decide +kernel
theorem dX5_forward_5 : decode cX5_forward 5 = .ok (.iload_n 1, 1) := by decide +kernel
theorem dX5_forward_6 : decode cX5_forward 6 = .ok (.iload_n 2, 1) := by decide +kernel
theorem dX5_forward_7 : decode cX5_forward 7 = .ok (.irem, 1) := by decide +kernel
theorem dX5_forward_8 : decode cX5_forward 8 = .ok (.istore_n 3, 1) := by decide +kernel
theorem dX5_forward_9 : decode cX5_forward 9 = .ok (.iload_n 3, 1) := by decide +kernel
theorem dX5_forward_10 : decode cX5_forward 10 = .ok (.ifCond .ge 9, 3) := by decide +kernel
theorem dX5_forward_13 : decode cX5_forward 13 = .ok (.iload_n 3, 1) := by decide +kernel
theorem dX5_forward_14 : decode cX5_forward 14 = .ok (.iload_n 2, 1) := by decide +kernel
theorem dX5_forward_15 : decode cX5_forward 15 = .ok (.iadd, 1) := by decide +kernel
theorem dX5_forward_16 : decode cX5_forward 16 = .ok (.goto 4, 3) := by decide +kernel
theorem dX5_forward_19 : decode cX5_forward 19 = .ok (.iload_n 3, 1) := by decide +kernel
theorem dX5_forward_20 : decode cX5_forward 20 = .ok (.ireturn, 1) := by decide +kernel
theorem dX5_turned_0 : decode cX5_turned 0 = .ok (.iload_n 1, 1) := by decide +kernel
theorem dX5_turned_1 : decode cX5_turned 1 = .ok (.istore_n 3, 1) := by decide +kernel
theorem dX5_turned_2 : decode cX5_turned 2 = .ok (.iconst 0, 1) := by decide +kernel
theorem dX5_turned_3 : decode cX5_turned 3 = .ok (.istore 4, 2) := by decide +kernel
theorem dX5_turned_5 : decode cX5_turned 5 = .ok (.iload 4, 2) := by decide +kernel
theorem dX5_turned_7 : decode cX5_turned 7 = .ok (.iload_n 2, 1) := by decide +kernel
theorem dX5_turned_8 : decode cX5_turned 8 = .ok (.if_icmp .ge 15, 3) := by decide +kernel
theorem dX5_turned_11 : decode cX5_turned 11 = .ok (.aload_n 0, 1) := by decide +kernel
theorem dX5_turned_12 : decode cX5_turned 12 = .ok (.iload_n 3, 1) := by decide +kernel
theorem dX5_turned_13 : decode cX5_turned 13 = .ok (.invokevirtual 42, 3) := by decide +kernel
theorem dX5_turned_16 : decode cX5_turned 16 = .ok (.istore_n 3, 1) := by decide +kernel
theorem dX5_turned_17 : decode cX5_turned 17 = .ok (.iinc 4 1, 3) := by decide +kernel
theorem dX5_turned_20 : decode cX5_turned 20 = .ok (.goto (-15), 3) := by decide +kernel
theorem dX5_turned_23 : decode cX5_turned 23 = .ok (.iload_n 3, 1) := by decide +kernel
theorem dX5_turned_24 : decode cX5_turned 24 = .ok (.ireturn, 1) := by decide +kernel
theorem dX5_exchange_0 : decode cX5_exchange 0 = .ok (.iload_n 1, 1) := by decide +kernel
theorem dX5_exchange_1 : decode cX5_exchange 1 = .ok (.invokestatic 45, 3) := by decide +kernel
theorem dX5_exchange_4 : decode cX5_exchange 4 = .ok (.ifCond .eq 10, 3) := by decide +kernel
theorem dX5_exchange_7 : decode cX5_exchange 7 = .ok (.iload_n 2, 1) := by decide +kernel
theorem dX5_exchange_8 : decode cX5_exchange 8 = .ok (.invokestatic 45, 3) := by decide +kernel
theorem dX5_exchange_11 : decode cX5_exchange 11 = .ok (.ifCond .ne 5, 3) := by decide +kernel
theorem dX5_exchange_14 : decode cX5_exchange 14 = .ok (.iconst (-1), 1) := by decide +kernel
theorem dX5_exchange_15 : decode cX5_exchange 15 = .ok (.ireturn, 1) := by decide +kernel
theorem dX5_exchange_16 : decode cX5_exchange 16 = .ok (.iload_n 1, 1) := by decide +kernel
theorem dX5_exchange_17 : decode cX5_exchange 17 = .ok (.iload_n 2, 1) := by decide +kernel
theorem dX5_exchange_18 : decode cX5_exchange 18 = .ok (.if_icmp .ne 6, 3) := by decide +kernel
theorem dX5_exchange_21 : decode cX5_exchange 21 = .ok (.bipush (-5), 2) := by decide +kernel
theorem dX5_exchange_23 : decode cX5_exchange 23 = .ok (.ireturn, 1) := by decide +kernel
theorem dX5_exchange_24 : decode cX5_exchange 24 = .ok (.aload_n 0, 1) := by decide +kernel
theorem dX5_exchange_25 : decode cX5_exchange 25 = .ok (.invokevirtual 49, 3) := by decide +kernel
theorem dX5_exchange_28 : decode cX5_exchange 28 = .ok (.aload_n 0, 1) := by decide +kernel
theorem dX5_exchange_29 : decode cX5_exchange 29 = .ok (.getfield 7, 3) := by decide +kernel
theorem dX5_exchange_32 : decode cX5_exchange 32 = .ok (.iconst 0, 1) := by decide +kernel
theorem dX5_exchange_33 : decode cX5_exchange 33 = .ok (.iload_n 1, 1) := by decide +kernel
theorem dX5_exchange_34 : decode cX5_exchange 34 = .ok (.iadd, 1) := by decide +kernel
theorem dX5_exchange_35 : decode cX5_exchange 35 = .ok (.iaload, 1) := by decide +kernel
theorem dX5_exchange_36 : decode cX5_exchange 36 = .ok (.istore_n 3, 1) := by decide +kernel
theorem dX5_exchange_37 : decode cX5_exchange 37 = .ok (.aload_n 0, 1) := by decide +kernel
theorem dX5_exchange_38 : decode cX5_exchange 38 = .ok (.getfield 7, 3) := by decide +kernel
theorem dX5_exchange_41 : decode cX5_exchange 41 = .ok (.iconst 0, 1) := by decide +kernel
theorem dX5_exchange_42 : decode cX5_exchange 42 = .ok (.iload_n 1, 1) := by decide +kernel
theorem dX5_exchange_43 : decode cX5_exchange 43 = .ok (.iadd, 1) := by decide +kernel
theorem dX5_exchange_44 : decode cX5_exchange 44 = .ok (.aload_n 0, 1) := by decide +kernel
theorem dX5_exchange_45 : decode cX5_exchange 45 = .ok (.getfield 7, 3) := by decide +kernel
theorem dX5_exchange_48 : decode cX5_exchange 48 = .ok (.iconst 0, 1) := by decide +kernel
theorem dX5_exchange_49 : decode cX5_exchange 49 = .ok (.iload_n 2, 1) := by decide +kernel
theorem dX5_exchange_50 : decode cX5_exchange 50 = .ok (.iadd, 1) := by decide +kernel
theorem dX5_exchange_51 : decode cX5_exchange 51 = .ok (.iaload, 1) := by decide +kernel
theorem dX5_exchange_52 : decode cX5_exchange 52 = .ok (.iastore, 1) := by decide +kernel
theorem dX5_exchange_53 : decode cX5_exchange 53 = .ok (.aload_n 0, 1) := by decide +kernel
theorem dX5_exchange_54 : decode cX5_exchange 54 = .ok (.getfield 7, 3) := by decide +kernel
theorem dX5_exchange_57 : decode cX5_exchange 57 = .ok (.iconst 0, 1) := by decide +kernel
theorem dX5_exchange_58 : decode cX5_exchange 58 = .ok (.iload_n 2, 1) := by decide +kernel
theorem dX5_exchange_59 : decode cX5_exchange 59 = .ok (.iadd, 1) := by decide +kernel
theorem dX5_exchange_60 : decode cX5_exchange 60 = .ok (.iload_n 3, 1) := by decide +kernel
theorem dX5_exchange_61 : decode cX5_exchange 61 = .ok (.iastore, 1) := by decide +kernel
theorem dX5_exchange_62 : decode cX5_exchange 62 = .ok (.aload_n 0, 1) := by decide +kernel
theorem dX5_exchange_63 : decode cX5_exchange 63 = .ok (.invokevirtual 38, 3) := by decide +kernel
theorem dX5_exchange_66 : decode cX5_exchange 66 = .ok (.ireturn, 1) := by decide +kernel
theorem dX5_takes_0 : decode cX5_takes 0 = .ok (.aload_n 0, 1) := by decide +kernel
theorem dX5_takes_1 : decode cX5_takes 1 = .ok (.invokevirtual 49, 3) := by decide +kernel
theorem dX5_takes_4 : decode cX5_takes 4 = .ok (.iconst 0, 1) := by decide +kernel
theorem dX5_takes_5 : decode cX5_takes 5 = .ok (.istore_n 1, 1) := by decide +kernel
theorem dX5_takes_6 : decode cX5_takes 6 = .ok (.iload_n 1, 1) := by decide +kernel
theorem dX5_takes_7 : decode cX5_takes 7 = .ok (.bipush 24, 2) := by decide +kernel
theorem dX5_takes_9 : decode cX5_takes 9 = .ok (.if_icmp .ge 23, 3) := by decide +kernel
theorem dX5_takes_12 : decode cX5_takes 12 = .ok (.aload_n 0, 1) := by decide +kernel
theorem dX5_takes_13 : decode cX5_takes 13 = .ok (.getfield 7, 3) := by decide +kernel
theorem dX5_takes_16 : decode cX5_takes 16 = .ok (.iconst 0, 1) := by decide +kernel
theorem dX5_takes_17 : decode cX5_takes 17 = .ok (.iload_n 1, 1) := by decide +kernel
theorem dX5_takes_18 : decode cX5_takes 18 = .ok (.iadd, 1) := by decide +kernel
theorem dX5_takes_19 : decode cX5_takes 19 = .ok (.aload_n 0, 1) := by decide +kernel
theorem dX5_takes_20 : decode cX5_takes 20 = .ok (.getfield 23, 3) := by decide +kernel
theorem dX5_takes_23 : decode cX5_takes 23 = .ok (.iload_n 1, 1) := by decide +kernel
theorem dX5_takes_24 : decode cX5_takes 24 = .ok (.iaload, 1) := by decide +kernel
theorem dX5_takes_25 : decode cX5_takes 25 = .ok (.iastore, 1) := by decide +kernel
theorem dX5_takes_26 : decode cX5_takes 26 = .ok (.iinc 1 1, 3) := by decide +kernel
theorem dX5_takes_29 : decode cX5_takes 29 = .ok (.goto (-23), 3) := by decide +kernel
theorem dX5_takes_32 : decode cX5_takes 32 = .ok (.return_, 1) := by decide +kernel
theorem dX5_reverse_0 : decode cX5_reverse 0 = .ok (.iconst 1, 1) := by decide +kernel
theorem dX5_reverse_1 : decode cX5_reverse 1 = .ok (.istore_n 1, 1) := by decide +kernel
theorem dX5_reverse_2 : decode cX5_reverse 2 = .ok (.iconst 0, 1) := by decide +kernel
theorem dX5_reverse_3 : decode cX5_reverse 3 = .ok (.istore_n 2, 1) := by decide +kernel
theorem dX5_reverse_4 : decode cX5_reverse 4 = .ok (.iload_n 2, 1) := by decide +kernel
theorem dX5_reverse_5 : decode cX5_reverse 5 = .ok (.bipush 24, 2) := by decide +kernel
theorem dX5_reverse_7 : decode cX5_reverse 7 = .ok (.if_icmp .ge 47, 3) := by decide +kernel
theorem dX5_reverse_10 : decode cX5_reverse 10 = .ok (.aload_n 0, 1) := by decide +kernel
theorem dX5_reverse_11 : decode cX5_reverse 11 = .ok (.getfield 23, 3) := by decide +kernel
theorem dX5_reverse_14 : decode cX5_reverse 14 = .ok (.iload_n 2, 1) := by decide +kernel
theorem dX5_reverse_15 : decode cX5_reverse 15 = .ok (.aload_n 0, 1) := by decide +kernel
theorem dX5_reverse_16 : decode cX5_reverse 16 = .ok (.iload_n 2, 1) := by decide +kernel
theorem dX5_reverse_17 : decode cX5_reverse 17 = .ok (.invokevirtual 52, 3) := by decide +kernel
theorem dX5_reverse_20 : decode cX5_reverse 20 = .ok (.iastore, 1) := by decide +kernel
theorem dX5_reverse_21 : decode cX5_reverse 21 = .ok (.iload_n 1, 1) := by decide +kernel
theorem dX5_reverse_22 : decode cX5_reverse 22 = .ok (.ifCond .eq 24, 3) := by decide +kernel
theorem dX5_reverse_25 : decode cX5_reverse 25 = .ok (.aload_n 0, 1) := by decide +kernel
theorem dX5_reverse_26 : decode cX5_reverse 26 = .ok (.getfield 23, 3) := by decide +kernel
theorem dX5_reverse_29 : decode cX5_reverse 29 = .ok (.iload_n 2, 1) := by decide +kernel
theorem dX5_reverse_30 : decode cX5_reverse 30 = .ok (.iaload, 1) := by decide +kernel
theorem dX5_reverse_31 : decode cX5_reverse 31 = .ok (.aload_n 0, 1) := by decide +kernel
theorem dX5_reverse_32 : decode cX5_reverse 32 = .ok (.getfield 7, 3) := by decide +kernel
theorem dX5_reverse_35 : decode cX5_reverse 35 = .ok (.iconst 0, 1) := by decide +kernel
theorem dX5_reverse_36 : decode cX5_reverse 36 = .ok (.iload_n 2, 1) := by decide +kernel
theorem dX5_reverse_37 : decode cX5_reverse 37 = .ok (.iadd, 1) := by decide +kernel
theorem dX5_reverse_38 : decode cX5_reverse 38 = .ok (.iaload, 1) := by decide +kernel
theorem dX5_reverse_39 : decode cX5_reverse 39 = .ok (.if_icmp .ne 7, 3) := by decide +kernel
theorem dX5_reverse_42 : decode cX5_reverse 42 = .ok (.iconst 1, 1) := by decide +kernel
theorem dX5_reverse_43 : decode cX5_reverse 43 = .ok (.goto 4, 3) := by decide +kernel
theorem dX5_reverse_46 : decode cX5_reverse 46 = .ok (.iconst 0, 1) := by decide +kernel
theorem dX5_reverse_47 : decode cX5_reverse 47 = .ok (.istore_n 1, 1) := by decide +kernel
theorem dX5_reverse_48 : decode cX5_reverse 48 = .ok (.iinc 2 1, 3) := by decide +kernel
theorem dX5_reverse_51 : decode cX5_reverse 51 = .ok (.goto (-47), 3) := by decide +kernel
theorem dX5_reverse_54 : decode cX5_reverse 54 = .ok (.iload_n 1, 1) := by decide +kernel
theorem dX5_reverse_55 : decode cX5_reverse 55 = .ok (.ifCond .eq 6, 3) := by decide +kernel
theorem dX5_reverse_58 : decode cX5_reverse 58 = .ok (.bipush (-5), 2) := by decide +kernel
theorem dX5_reverse_60 : decode cX5_reverse 60 = .ok (.ireturn, 1) := by decide +kernel
theorem dX5_reverse_61 : decode cX5_reverse 61 = .ok (.aload_n 0, 1) := by decide +kernel
theorem dX5_reverse_62 : decode cX5_reverse 62 = .ok (.invokevirtual 55, 3) := by decide +kernel
theorem dX5_reverse_65 : decode cX5_reverse 65 = .ok (.aload_n 0, 1) := by decide +kernel
theorem dX5_reverse_66 : decode cX5_reverse 66 = .ok (.invokevirtual 38, 3) := by decide +kernel
theorem dX5_reverse_69 : decode cX5_reverse 69 = .ok (.ireturn, 1) := by decide +kernel
theorem dX5_type_0 : decode cX5_type 0 = .ok (.aload_n 0, 1) := by decide +kernel
theorem dX5_type_1 : decode cX5_type 1 = .ok (.getfield 58, 3) := by decide +kernel
theorem dX5_type_4 : decode cX5_type 4 = .ok (.bipush 80, 2) := by decide +kernel
theorem dX5_type_6 : decode cX5_type 6 = .ok (.if_icmp .ne 6, 3) := by decide +kernel
theorem dX5_type_9 : decode cX5_type 9 = .ok (.bipush (-3), 2) := by decide +kernel
theorem dX5_type_11 : decode cX5_type 11 = .ok (.ireturn, 1) := by decide +kernel
theorem dX5_type_12 : decode cX5_type 12 = .ok (.aload_n 0, 1) := by decide +kernel
theorem dX5_type_13 : decode cX5_type 13 = .ok (.getfield 19, 3) := by decide +kernel
theorem dX5_type_16 : decode cX5_type 16 = .ok (.aload_n 0, 1) := by decide +kernel
theorem dX5_type_17 : decode cX5_type 17 = .ok (.getfield 58, 3) := by decide +kernel
theorem dX5_type_20 : decode cX5_type 20 = .ok (.iload_n 1, 1) := by decide +kernel
theorem dX5_type_21 : decode cX5_type 21 = .ok (.castore, 1) := by decide +kernel
theorem dX5_type_22 : decode cX5_type 22 = .ok (.aload_n 0, 1) := by decide +kernel
theorem dX5_type_23 : decode cX5_type 23 = .ok (.dup, 1) := by decide +kernel
theorem dX5_type_24 : decode cX5_type 24 = .ok (.getfield 58, 3) := by decide +kernel
theorem dX5_type_27 : decode cX5_type 27 = .ok (.iconst 1, 1) := by decide +kernel
theorem dX5_type_28 : decode cX5_type 28 = .ok (.iadd, 1) := by decide +kernel
theorem dX5_type_29 : decode cX5_type 29 = .ok (.putfield 58, 3) := by decide +kernel
theorem dX5_type_32 : decode cX5_type 32 = .ok (.aload_n 0, 1) := by decide +kernel
theorem dX5_type_33 : decode cX5_type 33 = .ok (.getfield 58, 3) := by decide +kernel
theorem dX5_type_36 : decode cX5_type 36 = .ok (.ireturn, 1) := by decide +kernel
theorem dX5_clearText_0 : decode cX5_clearText 0 = .ok (.aload_n 0, 1) := by decide +kernel
theorem dX5_clearText_1 : decode cX5_clearText 1 = .ok (.getfield 58, 3) := by decide +kernel
theorem dX5_clearText_4 : decode cX5_clearText 4 = .ok (.istore_n 1, 1) := by decide +kernel
theorem dX5_clearText_5 : decode cX5_clearText 5 = .ok (.aload_n 0, 1) := by decide +kernel
theorem dX5_clearText_6 : decode cX5_clearText 6 = .ok (.iconst 0, 1) := by decide +kernel
theorem dX5_clearText_7 : decode cX5_clearText 7 = .ok (.putfield 58, 3) := by decide +kernel
theorem dX5_clearText_10 : decode cX5_clearText 10 = .ok (.iload_n 1, 1) := by decide +kernel
theorem dX5_clearText_11 : decode cX5_clearText 11 = .ok (.ireturn, 1) := by decide +kernel
theorem dX5_isAt_0 : decode cX5_isAt 0 = .ok (.aload_n 0, 1) := by decide +kernel
theorem dX5_isAt_1 : decode cX5_isAt 1 = .ok (.getfield 61, 3) := by decide +kernel
theorem dX5_isAt_4 : decode cX5_isAt 4 = .ok (.aload_n 0, 1) := by decide +kernel
theorem dX5_isAt_5 : decode cX5_isAt 5 = .ok (.getfield 58, 3) := by decide +kernel
theorem dX5_isAt_8 : decode cX5_isAt 8 = .ok (.if_icmp .ge 20, 3) := by decide +kernel
theorem dX5_isAt_11 : decode cX5_isAt 11 = .ok (.aload_n 0, 1) := by decide +kernel
theorem dX5_isAt_12 : decode cX5_isAt 12 = .ok (.getfield 19, 3) := by decide +kernel
theorem dX5_isAt_15 : decode cX5_isAt 15 = .ok (.aload_n 0, 1) := by decide +kernel
theorem dX5_isAt_16 : decode cX5_isAt 16 = .ok (.getfield 61, 3) := by decide +kernel
theorem dX5_isAt_19 : decode cX5_isAt 19 = .ok (.caload, 1) := by decide +kernel
theorem dX5_isAt_20 : decode cX5_isAt 20 = .ok (.iload_n 1, 1) := by decide +kernel
theorem dX5_isAt_21 : decode cX5_isAt 21 = .ok (.if_icmp .ne 7, 3) := by decide +kernel
theorem dX5_isAt_24 : decode cX5_isAt 24 = .ok (.iconst 1, 1) := by decide +kernel
theorem dX5_isAt_25 : decode cX5_isAt 25 = .ok (.goto 4, 3) := by decide +kernel
theorem dX5_isAt_28 : decode cX5_isAt 28 = .ok (.iconst 0, 1) := by decide +kernel
theorem dX5_isAt_29 : decode cX5_isAt 29 = .ok (.ireturn, 1) := by decide +kernel
theorem dX5_isDigit_0 : decode cX5_isDigit 0 = .ok (.aload_n 0, 1) := by decide +kernel
theorem dX5_isDigit_1 : decode cX5_isDigit 1 = .ok (.getfield 61, 3) := by decide +kernel
theorem dX5_isDigit_4 : decode cX5_isDigit 4 = .ok (.aload_n 0, 1) := by decide +kernel
theorem dX5_isDigit_5 : decode cX5_isDigit 5 = .ok (.getfield 58, 3) := by decide +kernel
theorem dX5_isDigit_8 : decode cX5_isDigit 8 = .ok (.if_icmp .ge 26, 3) := by decide +kernel
theorem dX5_isDigit_11 : decode cX5_isDigit 11 = .ok (.aload_n 0, 1) := by decide +kernel
theorem dX5_isDigit_12 : decode cX5_isDigit 12 = .ok (.getfield 19, 3) := by decide +kernel
theorem dX5_isDigit_15 : decode cX5_isDigit 15 = .ok (.aload_n 0, 1) := by decide +kernel
theorem dX5_isDigit_16 : decode cX5_isDigit 16 = .ok (.getfield 61, 3) := by decide +kernel
theorem dX5_isDigit_19 : decode cX5_isDigit 19 = .ok (.caload, 1) := by decide +kernel
theorem dX5_isDigit_20 : decode cX5_isDigit 20 = .ok (.bipush 48, 2) := by decide +kernel
theorem dX5_isDigit_22 : decode cX5_isDigit 22 = .ok (.bipush 57, 2) := by decide +kernel
theorem dX5_isDigit_24 : decode cX5_isDigit 24 = .ok (.invokestatic 26, 3) := by decide +kernel
theorem dX5_isDigit_27 : decode cX5_isDigit 27 = .ok (.ifCond .eq 7, 3) := by decide +kernel
theorem dX5_isDigit_30 : decode cX5_isDigit 30 = .ok (.iconst 1, 1) := by decide +kernel
theorem dX5_isDigit_31 : decode cX5_isDigit 31 = .ok (.goto 4, 3) := by decide +kernel
theorem dX5_isDigit_34 : decode cX5_isDigit 34 = .ok (.iconst 0, 1) := by decide +kernel
theorem dX5_isDigit_35 : decode cX5_isDigit 35 = .ok (.ireturn, 1) := by decide +kernel
theorem dX5_fails_0 : decode cX5_fails 0 = .ok (.aload_n 0, 1) := by decide +kernel
theorem dX5_fails_1 : decode cX5_fails 1 = .ok (.aload_n 0, 1) := by decide +kernel
theorem dX5_fails_2 : decode cX5_fails 2 = .ok (.getfield 61, 3) := by decide +kernel
theorem dX5_fails_5 : decode cX5_fails 5 = .ok (.aload_n 0, 1) := by decide +kernel
theorem dX5_fails_6 : decode cX5_fails 6 = .ok (.getfield 58, 3) := by decide +kernel
theorem dX5_fails_9 : decode cX5_fails 9 = .ok (.if_icmp .ne 7, 3) := by decide +kernel
theorem dX5_fails_12 : decode cX5_fails 12 = .ok (.iconst 1, 1) := by decide +kernel
theorem dX5_fails_13 : decode cX5_fails 13 = .ok (.goto 4, 3) := by decide +kernel
theorem dX5_fails_16 : decode cX5_fails 16 = .ok (.iconst 4, 1) := by decide +kernel
theorem dX5_fails_17 : decode cX5_fails 17 = .ok (.putfield 64, 3) := by decide +kernel
theorem dX5_fails_20 : decode cX5_fails 20 = .ok (.return_, 1) := by decide +kernel
theorem dX5_reads_0 : decode cX5_reads 0 = .ok (.aload_n 0, 1) := by decide +kernel
theorem dX5_reads_1 : decode cX5_reads 1 = .ok (.invokevirtual 67, 3) := by decide +kernel
theorem dX5_reads_4 : decode cX5_reads 4 = .ok (.ifCond .ne 8, 3) := by decide +kernel
theorem dX5_reads_7 : decode cX5_reads 7 = .ok (.aload_n 0, 1) := by decide +kernel
theorem dX5_reads_8 : decode cX5_reads 8 = .ok (.invokevirtual 71, 3) := by decide +kernel
theorem dX5_reads_11 : decode cX5_reads 11 = .ok (.return_, 1) := by decide +kernel
theorem dX5_reads_12 : decode cX5_reads 12 = .ok (.aload_n 0, 1) := by decide +kernel
theorem dX5_reads_13 : decode cX5_reads 13 = .ok (.getfield 19, 3) := by decide +kernel
theorem dX5_reads_16 : decode cX5_reads 16 = .ok (.aload_n 0, 1) := by decide +kernel
theorem dX5_reads_17 : decode cX5_reads 17 = .ok (.getfield 61, 3) := by decide +kernel
theorem dX5_reads_20 : decode cX5_reads 20 = .ok (.caload, 1) := by decide +kernel
theorem dX5_reads_21 : decode cX5_reads 21 = .ok (.bipush 48, 2) := by decide +kernel
theorem dX5_reads_23 : decode cX5_reads 23 = .ok (.isub, 1) := by decide +kernel
theorem dX5_reads_24 : decode cX5_reads 24 = .ok (.istore_n 1, 1) := by decide +kernel
theorem dX5_reads_25 : decode cX5_reads 25 = .ok (.aload_n 0, 1) := by decide +kernel
theorem dX5_reads_26 : decode cX5_reads 26 = .ok (.dup, 1) := by decide +kernel
theorem dX5_reads_27 : decode cX5_reads 27 = .ok (.getfield 61, 3) := by decide +kernel
theorem dX5_reads_30 : decode cX5_reads 30 = .ok (.iconst 1, 1) := by decide +kernel
theorem dX5_reads_31 : decode cX5_reads 31 = .ok (.iadd, 1) := by decide +kernel
theorem dX5_reads_32 : decode cX5_reads 32 = .ok (.putfield 61, 3) := by decide +kernel
theorem dX5_reads_35 : decode cX5_reads 35 = .ok (.aload_n 0, 1) := by decide +kernel
theorem dX5_reads_36 : decode cX5_reads 36 = .ok (.invokevirtual 67, 3) := by decide +kernel
theorem dX5_reads_39 : decode cX5_reads 39 = .ok (.ifCond .eq 59, 3) := by decide +kernel
theorem dX5_reads_42 : decode cX5_reads 42 = .ok (.aload_n 0, 1) := by decide +kernel
theorem dX5_reads_43 : decode cX5_reads 43 = .ok (.getfield 64, 3) := by decide +kernel
theorem dX5_reads_46 : decode cX5_reads 46 = .ok (.ifCond .ne 52, 3) := by decide +kernel
theorem dX5_reads_49 : decode cX5_reads 49 = .ok (.bipush 10, 2) := by decide +kernel
theorem dX5_reads_51 : decode cX5_reads 51 = .ok (.iload_n 1, 1) := by decide +kernel
theorem dX5_reads_52 : decode cX5_reads 52 = .ok (.imul, 1) := by decide +kernel
theorem dX5_reads_53 : decode cX5_reads 53 = .ok (.aload_n 0, 1) := by decide +kernel
theorem dX5_reads_54 : decode cX5_reads 54 = .ok (.getfield 19, 3) := by decide +kernel
theorem dX5_reads_57 : decode cX5_reads 57 = .ok (.aload_n 0, 1) := by decide +kernel
theorem dX5_reads_58 : decode cX5_reads 58 = .ok (.getfield 61, 3) := by decide +kernel
theorem dX5_reads_61 : decode cX5_reads 61 = .ok (.caload, 1) := by decide +kernel
theorem dX5_reads_62 : decode cX5_reads 62 = .ok (.iadd, 1) := by decide +kernel
theorem dX5_reads_63 : decode cX5_reads 63 = .ok (.bipush 48, 2) := by decide +kernel
theorem dX5_reads_65 : decode cX5_reads 65 = .ok (.isub, 1) := by decide +kernel
theorem dX5_reads_66 : decode cX5_reads 66 = .ok (.istore_n 2, 1) := by decide +kernel
theorem dX5_reads_67 : decode cX5_reads 67 = .ok (.iload_n 1, 1) := by decide +kernel
theorem dX5_reads_68 : decode cX5_reads 68 = .ok (.ifCond .eq 9, 3) := by decide +kernel
theorem dX5_reads_71 : decode cX5_reads 71 = .ok (.iload_n 2, 1) := by decide +kernel
theorem dX5_reads_72 : decode cX5_reads 72 = .ok (.bipush 24, 2) := by decide +kernel
theorem dX5_reads_74 : decode cX5_reads 74 = .ok (.if_icmp .lt 9, 3) := by decide +kernel
theorem dX5_reads_77 : decode cX5_reads 77 = .ok (.aload_n 0, 1) := by decide +kernel
theorem dX5_reads_78 : decode cX5_reads 78 = .ok (.iconst 2, 1) := by decide +kernel
theorem dX5_reads_79 : decode cX5_reads 79 = .ok (.putfield 64, 3) := by decide +kernel
theorem dX5_reads_82 : decode cX5_reads 82 = .ok (.return_, 1) := by decide +kernel
theorem dX5_reads_83 : decode cX5_reads 83 = .ok (.iload_n 2, 1) := by decide +kernel
theorem dX5_reads_84 : decode cX5_reads 84 = .ok (.istore_n 1, 1) := by decide +kernel
theorem dX5_reads_85 : decode cX5_reads 85 = .ok (.aload_n 0, 1) := by decide +kernel
theorem dX5_reads_86 : decode cX5_reads 86 = .ok (.dup, 1) := by decide +kernel
theorem dX5_reads_87 : decode cX5_reads 87 = .ok (.getfield 61, 3) := by decide +kernel
theorem dX5_reads_90 : decode cX5_reads 90 = .ok (.iconst 1, 1) := by decide +kernel
theorem dX5_reads_91 : decode cX5_reads 91 = .ok (.iadd, 1) := by decide +kernel
theorem dX5_reads_92 : decode cX5_reads 92 = .ok (.putfield 61, 3) := by decide +kernel
theorem dX5_reads_95 : decode cX5_reads 95 = .ok (.goto (-60), 3) := by decide +kernel
theorem dX5_reads_98 : decode cX5_reads 98 = .ok (.aload_n 0, 1) := by decide +kernel
theorem dX5_reads_99 : decode cX5_reads 99 = .ok (.getfield 74, 3) := by decide +kernel
theorem dX5_reads_102 : decode cX5_reads 102 = .ok (.iload_n 1, 1) := by decide +kernel
theorem dX5_reads_103 : decode cX5_reads 103 = .ok (.ishr, 1) := by decide +kernel
theorem dX5_reads_104 : decode cX5_reads 104 = .ok (.iconst 1, 1) := by decide +kernel
theorem dX5_reads_105 : decode cX5_reads 105 = .ok (.iand, 1) := by decide +kernel
theorem dX5_reads_106 : decode cX5_reads 106 = .ok (.iconst 1, 1) := by decide +kernel
theorem dX5_reads_107 : decode cX5_reads 107 = .ok (.if_icmp .ne 9, 3) := by decide +kernel
theorem dX5_reads_110 : decode cX5_reads 110 = .ok (.aload_n 0, 1) := by decide +kernel
theorem dX5_reads_111 : decode cX5_reads 111 = .ok (.iconst 3, 1) := by decide +kernel
theorem dX5_reads_112 : decode cX5_reads 112 = .ok (.putfield 64, 3) := by decide +kernel
theorem dX5_reads_115 : decode cX5_reads 115 = .ok (.return_, 1) := by decide +kernel
theorem dX5_reads_116 : decode cX5_reads 116 = .ok (.aload_n 0, 1) := by decide +kernel
theorem dX5_reads_117 : decode cX5_reads 117 = .ok (.dup, 1) := by decide +kernel
theorem dX5_reads_118 : decode cX5_reads 118 = .ok (.getfield 74, 3) := by decide +kernel
theorem dX5_reads_121 : decode cX5_reads 121 = .ok (.iconst 1, 1) := by decide +kernel
theorem dX5_reads_122 : decode cX5_reads 122 = .ok (.iload_n 1, 1) := by decide +kernel
theorem dX5_reads_123 : decode cX5_reads 123 = .ok (.ishl, 1) := by decide +kernel
theorem dX5_reads_124 : decode cX5_reads 124 = .ok (.ior, 1) := by decide +kernel
theorem dX5_reads_125 : decode cX5_reads 125 = .ok (.putfield 74, 3) := by decide +kernel
theorem dX5_reads_128 : decode cX5_reads 128 = .ok (.aload_n 0, 1) := by decide +kernel
theorem dX5_reads_129 : decode cX5_reads 129 = .ok (.getfield 77, 3) := by decide +kernel
theorem dX5_reads_132 : decode cX5_reads 132 = .ok (.ifCond .ne 11, 3) := by decide +kernel
theorem dX5_reads_135 : decode cX5_reads 135 = .ok (.aload_n 0, 1) := by decide +kernel
theorem dX5_reads_136 : decode cX5_reads 136 = .ok (.iload_n 1, 1) := by decide +kernel
theorem dX5_reads_137 : decode cX5_reads 137 = .ok (.putfield 80, 3) := by decide +kernel
theorem dX5_reads_140 : decode cX5_reads 140 = .ok (.goto 13, 3) := by decide +kernel
theorem dX5_reads_143 : decode cX5_reads 143 = .ok (.aload_n 0, 1) := by decide +kernel
theorem dX5_reads_144 : decode cX5_reads 144 = .ok (.getfield 23, 3) := by decide +kernel
theorem dX5_reads_147 : decode cX5_reads 147 = .ok (.aload_n 0, 1) := by decide +kernel
theorem dX5_reads_148 : decode cX5_reads 148 = .ok (.getfield 83, 3) := by decide +kernel
theorem dX5_reads_151 : decode cX5_reads 151 = .ok (.iload_n 1, 1) := by decide +kernel
theorem dX5_reads_152 : decode cX5_reads 152 = .ok (.iastore, 1) := by decide +kernel
theorem dX5_reads_153 : decode cX5_reads 153 = .ok (.aload_n 0, 1) := by decide +kernel
theorem dX5_reads_154 : decode cX5_reads 154 = .ok (.getfield 23, 3) := by decide +kernel
theorem dX5_reads_157 : decode cX5_reads 157 = .ok (.iload_n 1, 1) := by decide +kernel
theorem dX5_reads_158 : decode cX5_reads 158 = .ok (.aload_n 0, 1) := by decide +kernel
theorem dX5_reads_159 : decode cX5_reads 159 = .ok (.getfield 80, 3) := by decide +kernel
theorem dX5_reads_162 : decode cX5_reads 162 = .ok (.iastore, 1) := by decide +kernel
theorem dX5_reads_163 : decode cX5_reads 163 = .ok (.aload_n 0, 1) := by decide +kernel
theorem dX5_reads_164 : decode cX5_reads 164 = .ok (.iload_n 1, 1) := by decide +kernel
theorem dX5_reads_165 : decode cX5_reads 165 = .ok (.putfield 83, 3) := by decide +kernel
theorem dX5_reads_168 : decode cX5_reads 168 = .ok (.aload_n 0, 1) := by decide +kernel
theorem dX5_reads_169 : decode cX5_reads 169 = .ok (.dup, 1) := by decide +kernel
theorem dX5_reads_170 : decode cX5_reads 170 = .ok (.getfield 77, 3) := by decide +kernel
theorem dX5_reads_173 : decode cX5_reads 173 = .ok (.iconst 1, 1) := by decide +kernel
theorem dX5_reads_174 : decode cX5_reads 174 = .ok (.iadd, 1) := by decide +kernel
theorem dX5_reads_175 : decode cX5_reads 175 = .ok (.putfield 77, 3) := by decide +kernel
theorem dX5_reads_178 : decode cX5_reads 178 = .ok (.return_, 1) := by decide +kernel
theorem dX5_round_0 : decode cX5_round 0 = .ok (.aload_n 0, 1) := by decide +kernel
theorem dX5_round_1 : decode cX5_round 1 = .ok (.iconst 0, 1) := by decide +kernel
theorem dX5_round_2 : decode cX5_round 2 = .ok (.putfield 77, 3) := by decide +kernel
theorem dX5_round_5 : decode cX5_round 5 = .ok (.aload_n 0, 1) := by decide +kernel
theorem dX5_round_6 : decode cX5_round 6 = .ok (.bipush 40, 2) := by decide +kernel
theorem dX5_round_8 : decode cX5_round 8 = .ok (.invokevirtual 86, 3) := by decide +kernel
theorem dX5_round_11 : decode cX5_round 11 = .ok (.ifCond .ne 8, 3) := by decide +kernel
theorem dX5_round_14 : decode cX5_round 14 = .ok (.aload_n 0, 1) := by decide +kernel
theorem dX5_round_15 : decode cX5_round 15 = .ok (.invokevirtual 71, 3) := by decide +kernel
theorem dX5_round_18 : decode cX5_round 18 = .ok (.return_, 1) := by decide +kernel
theorem dX5_round_19 : decode cX5_round 19 = .ok (.iconst 1, 1) := by decide +kernel
theorem dX5_round_20 : decode cX5_round 20 = .ok (.istore_n 1, 1) := by decide +kernel
theorem dX5_round_21 : decode cX5_round 21 = .ok (.iload_n 1, 1) := by decide +kernel
theorem dX5_round_22 : decode cX5_round 22 = .ok (.ifCond .eq 42, 3) := by decide +kernel
theorem dX5_round_25 : decode cX5_round 25 = .ok (.aload_n 0, 1) := by decide +kernel
theorem dX5_round_26 : decode cX5_round 26 = .ok (.dup, 1) := by decide +kernel
theorem dX5_round_27 : decode cX5_round 27 = .ok (.getfield 61, 3) := by decide +kernel
theorem dX5_round_30 : decode cX5_round 30 = .ok (.iconst 1, 1) := by decide +kernel
theorem dX5_round_31 : decode cX5_round 31 = .ok (.iadd, 1) := by decide +kernel
theorem dX5_round_32 : decode cX5_round 32 = .ok (.putfield 61, 3) := by decide +kernel
theorem dX5_round_35 : decode cX5_round 35 = .ok (.aload_n 0, 1) := by decide +kernel
theorem dX5_round_36 : decode cX5_round 36 = .ok (.invokevirtual 90, 3) := by decide +kernel
theorem dX5_round_39 : decode cX5_round 39 = .ok (.aload_n 0, 1) := by decide +kernel
theorem dX5_round_40 : decode cX5_round 40 = .ok (.getfield 64, 3) := by decide +kernel
theorem dX5_round_43 : decode cX5_round 43 = .ok (.ifCond .ne 16, 3) := by decide +kernel
theorem dX5_round_46 : decode cX5_round 46 = .ok (.aload_n 0, 1) := by decide +kernel
theorem dX5_round_47 : decode cX5_round 47 = .ok (.bipush 44, 2) := by decide +kernel
theorem dX5_round_49 : decode cX5_round 49 = .ok (.invokevirtual 86, 3) := by decide +kernel
theorem dX5_round_52 : decode cX5_round 52 = .ok (.ifCond .eq 7, 3) := by decide +kernel
theorem dX5_round_55 : decode cX5_round 55 = .ok (.iconst 1, 1) := by decide +kernel
theorem dX5_round_56 : decode cX5_round 56 = .ok (.goto 4, 3) := by decide +kernel
theorem dX5_round_59 : decode cX5_round 59 = .ok (.iconst 0, 1) := by decide +kernel
theorem dX5_round_60 : decode cX5_round 60 = .ok (.istore_n 1, 1) := by decide +kernel
theorem dX5_round_61 : decode cX5_round 61 = .ok (.goto (-40), 3) := by decide +kernel
theorem dX5_round_64 : decode cX5_round 64 = .ok (.aload_n 0, 1) := by decide +kernel
theorem dX5_round_65 : decode cX5_round 65 = .ok (.getfield 64, 3) := by decide +kernel
theorem dX5_round_68 : decode cX5_round 68 = .ok (.ifCond .ne 37, 3) := by decide +kernel
theorem dX5_round_71 : decode cX5_round 71 = .ok (.aload_n 0, 1) := by decide +kernel
theorem dX5_round_72 : decode cX5_round 72 = .ok (.getfield 77, 3) := by decide +kernel
theorem dX5_round_75 : decode cX5_round 75 = .ok (.iconst 1, 1) := by decide +kernel
theorem dX5_round_76 : decode cX5_round 76 = .ok (.if_icmp .le 25, 3) := by decide +kernel
theorem dX5_round_79 : decode cX5_round 79 = .ok (.aload_n 0, 1) := by decide +kernel
theorem dX5_round_80 : decode cX5_round 80 = .ok (.bipush 41, 2) := by decide +kernel
theorem dX5_round_82 : decode cX5_round 82 = .ok (.invokevirtual 86, 3) := by decide +kernel
theorem dX5_round_85 : decode cX5_round 85 = .ok (.ifCond .eq 16, 3) := by decide +kernel
theorem dX5_round_88 : decode cX5_round 88 = .ok (.aload_n 0, 1) := by decide +kernel
theorem dX5_round_89 : decode cX5_round 89 = .ok (.dup, 1) := by decide +kernel
theorem dX5_round_90 : decode cX5_round 90 = .ok (.getfield 61, 3) := by decide +kernel
theorem dX5_round_93 : decode cX5_round 93 = .ok (.iconst 1, 1) := by decide +kernel
theorem dX5_round_94 : decode cX5_round 94 = .ok (.iadd, 1) := by decide +kernel
theorem dX5_round_95 : decode cX5_round 95 = .ok (.putfield 61, 3) := by decide +kernel
theorem dX5_round_98 : decode cX5_round 98 = .ok (.goto 7, 3) := by decide +kernel
theorem dX5_round_101 : decode cX5_round 101 = .ok (.aload_n 0, 1) := by decide +kernel
theorem dX5_round_102 : decode cX5_round 102 = .ok (.invokevirtual 71, 3) := by decide +kernel
theorem dX5_round_105 : decode cX5_round 105 = .ok (.return_, 1) := by decide +kernel
theorem dX5_isMove_0 : decode cX5_isMove 0 = .ok (.iconst 0, 1) := by decide +kernel
theorem dX5_isMove_1 : decode cX5_isMove 1 = .ok (.istore_n 1, 1) := by decide +kernel
theorem dX5_isMove_2 : decode cX5_isMove 2 = .ok (.iload_n 1, 1) := by decide +kernel
theorem dX5_isMove_3 : decode cX5_isMove 3 = .ok (.bipush 24, 2) := by decide +kernel
theorem dX5_isMove_5 : decode cX5_isMove 5 = .ok (.if_icmp .ge 16, 3) := by decide +kernel
theorem dX5_isMove_8 : decode cX5_isMove 8 = .ok (.aload_n 0, 1) := by decide +kernel
theorem dX5_isMove_9 : decode cX5_isMove 9 = .ok (.getfield 23, 3) := by decide +kernel
theorem dX5_isMove_12 : decode cX5_isMove 12 = .ok (.iload_n 1, 1) := by decide +kernel
theorem dX5_isMove_13 : decode cX5_isMove 13 = .ok (.iload_n 1, 1) := by decide +kernel
theorem dX5_isMove_14 : decode cX5_isMove 14 = .ok (.iastore, 1) := by decide +kernel
theorem dX5_isMove_15 : decode cX5_isMove 15 = .ok (.iinc 1 1, 3) := by decide +kernel
theorem dX5_isMove_18 : decode cX5_isMove 18 = .ok (.goto (-16), 3) := by decide +kernel
theorem dX5_isMove_21 : decode cX5_isMove 21 = .ok (.aload_n 0, 1) := by decide +kernel
theorem dX5_isMove_22 : decode cX5_isMove 22 = .ok (.iconst 0, 1) := by decide +kernel
theorem dX5_isMove_23 : decode cX5_isMove 23 = .ok (.putfield 61, 3) := by decide +kernel
theorem dX5_isMove_26 : decode cX5_isMove 26 = .ok (.aload_n 0, 1) := by decide +kernel
theorem dX5_isMove_27 : decode cX5_isMove 27 = .ok (.iconst 0, 1) := by decide +kernel
theorem dX5_isMove_28 : decode cX5_isMove 28 = .ok (.putfield 64, 3) := by decide +kernel
theorem dX5_isMove_31 : decode cX5_isMove 31 = .ok (.aload_n 0, 1) := by decide +kernel
theorem dX5_isMove_32 : decode cX5_isMove 32 = .ok (.iconst 0, 1) := by decide +kernel
theorem dX5_isMove_33 : decode cX5_isMove 33 = .ok (.putfield 74, 3) := by decide +kernel
theorem dX5_isMove_36 : decode cX5_isMove 36 = .ok (.aload_n 0, 1) := by decide +kernel
theorem dX5_isMove_37 : decode cX5_isMove 37 = .ok (.invokevirtual 93, 3) := by decide +kernel
theorem dX5_isMove_40 : decode cX5_isMove 40 = .ok (.aload_n 0, 1) := by decide +kernel
theorem dX5_isMove_41 : decode cX5_isMove 41 = .ok (.getfield 64, 3) := by decide +kernel
theorem dX5_isMove_44 : decode cX5_isMove 44 = .ok (.ifCond .ne 14, 3) := by decide +kernel
theorem dX5_isMove_47 : decode cX5_isMove 47 = .ok (.aload_n 0, 1) := by decide +kernel
theorem dX5_isMove_48 : decode cX5_isMove 48 = .ok (.getfield 61, 3) := by decide +kernel
theorem dX5_isMove_51 : decode cX5_isMove 51 = .ok (.aload_n 0, 1) := by decide +kernel
theorem dX5_isMove_52 : decode cX5_isMove 52 = .ok (.getfield 58, 3) := by decide +kernel
theorem dX5_isMove_55 : decode cX5_isMove 55 = .ok (.if_icmp .lt (-19), 3) := by decide +kernel
theorem dX5_isMove_58 : decode cX5_isMove 58 = .ok (.aload_n 0, 1) := by decide +kernel
theorem dX5_isMove_59 : decode cX5_isMove 59 = .ok (.getfield 64, 3) := by decide +kernel
theorem dX5_isMove_62 : decode cX5_isMove 62 = .ok (.ifCond .ne 7, 3) := by decide +kernel
theorem dX5_isMove_65 : decode cX5_isMove 65 = .ok (.iconst 1, 1) := by decide +kernel
theorem dX5_isMove_66 : decode cX5_isMove 66 = .ok (.goto 4, 3) := by decide +kernel
theorem dX5_isMove_69 : decode cX5_isMove 69 = .ok (.iconst 0, 1) := by decide +kernel
theorem dX5_isMove_70 : decode cX5_isMove 70 = .ok (.ireturn, 1) := by decide +kernel
theorem dX5_readMove_0 : decode cX5_readMove 0 = .ok (.aload_n 0, 1) := by decide +kernel
theorem dX5_readMove_1 : decode cX5_readMove 1 = .ok (.invokevirtual 96, 3) := by decide +kernel
theorem dX5_readMove_4 : decode cX5_readMove 4 = .ok (.ifCond .ne 11, 3) := by decide +kernel
theorem dX5_readMove_7 : decode cX5_readMove 7 = .ok (.bipush (-100), 2) := by decide +kernel
theorem dX5_readMove_9 : decode cX5_readMove 9 = .ok (.aload_n 0, 1) := by decide +kernel
theorem dX5_readMove_10 : decode cX5_readMove 10 = .ok (.getfield 61, 3) := by decide +kernel
theorem dX5_readMove_13 : decode cX5_readMove 13 = .ok (.isub, 1) := by decide +kernel
theorem dX5_readMove_14 : decode cX5_readMove 14 = .ok (.ireturn, 1) := by decide +kernel
theorem dX5_readMove_15 : decode cX5_readMove 15 = .ok (.aload_n 0, 1) := by decide +kernel
theorem dX5_readMove_16 : decode cX5_readMove 16 = .ok (.invokevirtual 55, 3) := by decide +kernel
theorem dX5_readMove_19 : decode cX5_readMove 19 = .ok (.aload_n 0, 1) := by decide +kernel
theorem dX5_readMove_20 : decode cX5_readMove 20 = .ok (.invokevirtual 38, 3) := by decide +kernel
theorem dX5_readMove_23 : decode cX5_readMove 23 = .ok (.ireturn, 1) := by decide +kernel
theorem dX5_fault_0 : decode cX5_fault 0 = .ok (.iload_n 1, 1) := by decide +kernel
theorem dX5_fault_1 : decode cX5_fault 1 = .ok (.iconst 0, 1) := by decide +kernel
theorem dX5_fault_2 : decode cX5_fault 2 = .ok (.iconst 1, 1) := by decide +kernel
theorem dX5_fault_3 : decode cX5_fault 3 = .ok (.invokestatic 26, 3) := by decide +kernel
theorem dX5_fault_6 : decode cX5_fault 6 = .ok (.ifCond .ne 6, 3) := by decide +kernel
theorem dX5_fault_9 : decode cX5_fault 9 = .ok (.bipush (-2), 2) := by decide +kernel
theorem dX5_fault_11 : decode cX5_fault 11 = .ok (.ireturn, 1) := by decide +kernel
theorem dX5_fault_12 : decode cX5_fault 12 = .ok (.aload_n 0, 1) := by decide +kernel
theorem dX5_fault_13 : decode cX5_fault 13 = .ok (.invokevirtual 96, 3) := by decide +kernel
theorem dX5_fault_16 : decode cX5_fault 16 = .ok (.ifCond .eq 6, 3) := by decide +kernel
theorem dX5_fault_19 : decode cX5_fault 19 = .ok (.bipush (-5), 2) := by decide +kernel
theorem dX5_fault_21 : decode cX5_fault 21 = .ok (.ireturn, 1) := by decide +kernel
theorem dX5_fault_22 : decode cX5_fault 22 = .ok (.iload_n 1, 1) := by decide +kernel
theorem dX5_fault_23 : decode cX5_fault 23 = .ok (.ifCond .ne 10, 3) := by decide +kernel
theorem dX5_fault_26 : decode cX5_fault 26 = .ok (.aload_n 0, 1) := by decide +kernel
theorem dX5_fault_27 : decode cX5_fault 27 = .ok (.getfield 61, 3) := by decide +kernel
theorem dX5_fault_30 : decode cX5_fault 30 = .ok (.goto 7, 3) := by decide +kernel
theorem dX5_fault_33 : decode cX5_fault 33 = .ok (.aload_n 0, 1) := by decide +kernel
theorem dX5_fault_34 : decode cX5_fault 34 = .ok (.getfield 64, 3) := by decide +kernel
theorem dX5_fault_37 : decode cX5_fault 37 = .ok (.ireturn, 1) := by decide +kernel
theorem dX5_sell_0 : decode cX5_sell 0 = .ok (.iload_n 1, 1) := by decide +kernel
theorem dX5_sell_1 : decode cX5_sell 1 = .ok (.iconst 0, 1) := by decide +kernel
theorem dX5_sell_2 : decode cX5_sell 2 = .ok (.ldc 99, 2) := by decide +kernel
theorem dX5_sell_4 : decode cX5_sell 4 = .ok (.invokestatic 26, 3) := by decide +kernel
theorem dX5_sell_7 : decode cX5_sell 7 = .ok (.ifCond .ne 6, 3) := by decide +kernel
theorem dX5_sell_10 : decode cX5_sell 10 = .ok (.bipush (-2), 2) := by decide +kernel
theorem dX5_sell_12 : decode cX5_sell 12 = .ok (.ireturn, 1) := by decide +kernel
theorem dX5_sell_13 : decode cX5_sell 13 = .ok (.aload_n 0, 1) := by decide +kernel
theorem dX5_sell_14 : decode cX5_sell 14 = .ok (.getfield 7, 3) := by decide +kernel
theorem dX5_sell_17 : decode cX5_sell 17 = .ok (.bipush 24, 2) := by decide +kernel
theorem dX5_sell_19 : decode cX5_sell 19 = .ok (.iaload, 1) := by decide +kernel
theorem dX5_sell_20 : decode cX5_sell 20 = .ok (.bipush 12, 2) := by decide +kernel
theorem dX5_sell_22 : decode cX5_sell 22 = .ok (.if_icmp .ne 6, 3) := by decide +kernel
theorem dX5_sell_25 : decode cX5_sell 25 = .ok (.bipush (-3), 2) := by decide +kernel
theorem dX5_sell_27 : decode cX5_sell 27 = .ok (.ireturn, 1) := by decide +kernel
theorem dX5_sell_28 : decode cX5_sell 28 = .ok (.aload_n 0, 1) := by decide +kernel
theorem dX5_sell_29 : decode cX5_sell 29 = .ok (.invokevirtual 49, 3) := by decide +kernel
theorem dX5_sell_32 : decode cX5_sell 32 = .ok (.aload_n 0, 1) := by decide +kernel
theorem dX5_sell_33 : decode cX5_sell 33 = .ok (.getfield 7, 3) := by decide +kernel
theorem dX5_sell_36 : decode cX5_sell 36 = .ok (.bipush 24, 2) := by decide +kernel
theorem dX5_sell_38 : decode cX5_sell 38 = .ok (.iaload, 1) := by decide +kernel
theorem dX5_sell_39 : decode cX5_sell 39 = .ok (.istore_n 2, 1) := by decide +kernel
theorem dX5_sell_40 : decode cX5_sell 40 = .ok (.aload_n 0, 1) := by decide +kernel
theorem dX5_sell_41 : decode cX5_sell 41 = .ok (.getfield 7, 3) := by decide +kernel
theorem dX5_sell_44 : decode cX5_sell 44 = .ok (.bipush 25, 2) := by decide +kernel
theorem dX5_sell_46 : decode cX5_sell 46 = .ok (.iload_n 2, 1) := by decide +kernel
theorem dX5_sell_47 : decode cX5_sell 47 = .ok (.iadd, 1) := by decide +kernel
theorem dX5_sell_48 : decode cX5_sell 48 = .ok (.iload_n 1, 1) := by decide +kernel
theorem dX5_sell_49 : decode cX5_sell 49 = .ok (.iastore, 1) := by decide +kernel
theorem dX5_sell_50 : decode cX5_sell 50 = .ok (.aload_n 0, 1) := by decide +kernel
theorem dX5_sell_51 : decode cX5_sell 51 = .ok (.getfield 7, 3) := by decide +kernel
theorem dX5_sell_54 : decode cX5_sell 54 = .ok (.bipush 37, 2) := by decide +kernel
theorem dX5_sell_56 : decode cX5_sell 56 = .ok (.iload_n 2, 1) := by decide +kernel
theorem dX5_sell_57 : decode cX5_sell 57 = .ok (.iadd, 1) := by decide +kernel
theorem dX5_sell_58 : decode cX5_sell 58 = .ok (.iload_n 1, 1) := by decide +kernel
theorem dX5_sell_59 : decode cX5_sell 59 = .ok (.iastore, 1) := by decide +kernel
theorem dX5_sell_60 : decode cX5_sell 60 = .ok (.aload_n 0, 1) := by decide +kernel
theorem dX5_sell_61 : decode cX5_sell 61 = .ok (.getfield 7, 3) := by decide +kernel
theorem dX5_sell_64 : decode cX5_sell 64 = .ok (.bipush 62, 2) := by decide +kernel
theorem dX5_sell_66 : decode cX5_sell 66 = .ok (.dup2, 1) := by decide +kernel
theorem dX5_sell_67 : decode cX5_sell 67 = .ok (.iaload, 1) := by decide +kernel
theorem dX5_sell_68 : decode cX5_sell 68 = .ok (.iload_n 1, 1) := by decide +kernel
theorem dX5_sell_69 : decode cX5_sell 69 = .ok (.invokestatic 100, 3) := by decide +kernel
theorem dX5_sell_72 : decode cX5_sell 72 = .ok (.iadd, 1) := by decide +kernel
theorem dX5_sell_73 : decode cX5_sell 73 = .ok (.iastore, 1) := by decide +kernel
theorem dX5_sell_74 : decode cX5_sell 74 = .ok (.aload_n 0, 1) := by decide +kernel
theorem dX5_sell_75 : decode cX5_sell 75 = .ok (.getfield 7, 3) := by decide +kernel
theorem dX5_sell_78 : decode cX5_sell 78 = .ok (.bipush 24, 2) := by decide +kernel
theorem dX5_sell_80 : decode cX5_sell 80 = .ok (.dup2, 1) := by decide +kernel
theorem dX5_sell_81 : decode cX5_sell 81 = .ok (.iaload, 1) := by decide +kernel
theorem dX5_sell_82 : decode cX5_sell 82 = .ok (.iconst 1, 1) := by decide +kernel
theorem dX5_sell_83 : decode cX5_sell 83 = .ok (.iadd, 1) := by decide +kernel
theorem dX5_sell_84 : decode cX5_sell 84 = .ok (.iastore, 1) := by decide +kernel
theorem dX5_sell_85 : decode cX5_sell 85 = .ok (.iload_n 2, 1) := by decide +kernel
theorem dX5_sell_86 : decode cX5_sell 86 = .ok (.ireturn, 1) := by decide +kernel
theorem dX5_punch_0 : decode cX5_punch 0 = .ok (.aload_n 0, 1) := by decide +kernel
theorem dX5_punch_1 : decode cX5_punch 1 = .ok (.iload_n 1, 1) := by decide +kernel
theorem dX5_punch_2 : decode cX5_punch 2 = .ok (.invokevirtual 103, 3) := by decide +kernel
theorem dX5_punch_5 : decode cX5_punch 5 = .ok (.ifCond .eq 10, 3) := by decide +kernel
theorem dX5_punch_8 : decode cX5_punch 8 = .ok (.iload_n 2, 1) := by decide +kernel
theorem dX5_punch_9 : decode cX5_punch 9 = .ok (.invokestatic 45, 3) := by decide +kernel
theorem dX5_punch_12 : decode cX5_punch 12 = .ok (.ifCond .ne 5, 3) := by decide +kernel
theorem dX5_punch_15 : decode cX5_punch 15 = .ok (.iconst (-1), 1) := by decide +kernel
theorem dX5_punch_16 : decode cX5_punch 16 = .ok (.ireturn, 1) := by decide +kernel
theorem dX5_punch_17 : decode cX5_punch 17 = .ok (.aload_n 0, 1) := by decide +kernel
theorem dX5_punch_18 : decode cX5_punch 18 = .ok (.getfield 7, 3) := by decide +kernel
theorem dX5_punch_21 : decode cX5_punch 21 = .ok (.bipush 25, 2) := by decide +kernel
theorem dX5_punch_23 : decode cX5_punch 23 = .ok (.iload_n 1, 1) := by decide +kernel
theorem dX5_punch_24 : decode cX5_punch 24 = .ok (.iadd, 1) := by decide +kernel
theorem dX5_punch_25 : decode cX5_punch 25 = .ok (.iaload, 1) := by decide +kernel
theorem dX5_punch_26 : decode cX5_punch 26 = .ok (.aload_n 0, 1) := by decide +kernel
theorem dX5_punch_27 : decode cX5_punch 27 = .ok (.getfield 7, 3) := by decide +kernel
theorem dX5_punch_30 : decode cX5_punch 30 = .ok (.bipush 37, 2) := by decide +kernel
theorem dX5_punch_32 : decode cX5_punch 32 = .ok (.iload_n 1, 1) := by decide +kernel
theorem dX5_punch_33 : decode cX5_punch 33 = .ok (.iadd, 1) := by decide +kernel
theorem dX5_punch_34 : decode cX5_punch 34 = .ok (.iaload, 1) := by decide +kernel
theorem dX5_punch_35 : decode cX5_punch 35 = .ok (.iand, 1) := by decide +kernel
theorem dX5_punch_36 : decode cX5_punch 36 = .ok (.iconst 1, 1) := by decide +kernel
theorem dX5_punch_37 : decode cX5_punch 37 = .ok (.iload_n 2, 1) := by decide +kernel
theorem dX5_punch_38 : decode cX5_punch 38 = .ok (.ishl, 1) := by decide +kernel
theorem dX5_punch_39 : decode cX5_punch 39 = .ok (.iand, 1) := by decide +kernel
theorem dX5_punch_40 : decode cX5_punch 40 = .ok (.ifCond .eq 6, 3) := by decide +kernel
theorem dX5_punch_43 : decode cX5_punch 43 = .ok (.bipush (-5), 2) := by decide +kernel
theorem dX5_punch_45 : decode cX5_punch 45 = .ok (.ireturn, 1) := by decide +kernel
theorem dX5_punch_46 : decode cX5_punch 46 = .ok (.aload_n 0, 1) := by decide +kernel
theorem dX5_punch_47 : decode cX5_punch 47 = .ok (.invokevirtual 49, 3) := by decide +kernel
theorem dX5_punch_50 : decode cX5_punch 50 = .ok (.aload_n 0, 1) := by decide +kernel
theorem dX5_punch_51 : decode cX5_punch 51 = .ok (.getfield 7, 3) := by decide +kernel
theorem dX5_punch_54 : decode cX5_punch 54 = .ok (.bipush 25, 2) := by decide +kernel
theorem dX5_punch_56 : decode cX5_punch 56 = .ok (.iload_n 1, 1) := by decide +kernel
theorem dX5_punch_57 : decode cX5_punch 57 = .ok (.iadd, 1) := by decide +kernel
theorem dX5_punch_58 : decode cX5_punch 58 = .ok (.dup2, 1) := by decide +kernel
theorem dX5_punch_59 : decode cX5_punch 59 = .ok (.iaload, 1) := by decide +kernel
theorem dX5_punch_60 : decode cX5_punch 60 = .ok (.iconst 1, 1) := by decide +kernel
theorem dX5_punch_61 : decode cX5_punch 61 = .ok (.iload_n 2, 1) := by decide +kernel
theorem dX5_punch_62 : decode cX5_punch 62 = .ok (.ishl, 1) := by decide +kernel
theorem dX5_punch_63 : decode cX5_punch 63 = .ok (.ior, 1) := by decide +kernel
theorem dX5_punch_64 : decode cX5_punch 64 = .ok (.iastore, 1) := by decide +kernel
theorem dX5_punch_65 : decode cX5_punch 65 = .ok (.aload_n 0, 1) := by decide +kernel
theorem dX5_punch_66 : decode cX5_punch 66 = .ok (.getfield 7, 3) := by decide +kernel
theorem dX5_punch_69 : decode cX5_punch 69 = .ok (.bipush 37, 2) := by decide +kernel
theorem dX5_punch_71 : decode cX5_punch 71 = .ok (.iload_n 1, 1) := by decide +kernel
theorem dX5_punch_72 : decode cX5_punch 72 = .ok (.iadd, 1) := by decide +kernel
theorem dX5_punch_73 : decode cX5_punch 73 = .ok (.dup2, 1) := by decide +kernel
theorem dX5_punch_74 : decode cX5_punch 74 = .ok (.iaload, 1) := by decide +kernel
theorem dX5_punch_75 : decode cX5_punch 75 = .ok (.iconst 1, 1) := by decide +kernel
theorem dX5_punch_76 : decode cX5_punch 76 = .ok (.iload_n 2, 1) := by decide +kernel
theorem dX5_punch_77 : decode cX5_punch 77 = .ok (.ishl, 1) := by decide +kernel
theorem dX5_punch_78 : decode cX5_punch 78 = .ok (.ior, 1) := by decide +kernel
theorem dX5_punch_79 : decode cX5_punch 79 = .ok (.iastore, 1) := by decide +kernel
theorem dX5_punch_80 : decode cX5_punch 80 = .ok (.aload_n 0, 1) := by decide +kernel
theorem dX5_punch_81 : decode cX5_punch 81 = .ok (.getfield 7, 3) := by decide +kernel
theorem dX5_punch_84 : decode cX5_punch 84 = .ok (.bipush 62, 2) := by decide +kernel
theorem dX5_punch_86 : decode cX5_punch 86 = .ok (.dup2, 1) := by decide +kernel
theorem dX5_punch_87 : decode cX5_punch 87 = .ok (.iaload, 1) := by decide +kernel
theorem dX5_punch_88 : decode cX5_punch 88 = .ok (.iconst 1, 1) := by decide +kernel
theorem dX5_punch_89 : decode cX5_punch 89 = .ok (.iadd, 1) := by decide +kernel
theorem dX5_punch_90 : decode cX5_punch 90 = .ok (.iastore, 1) := by decide +kernel
theorem dX5_punch_91 : decode cX5_punch 91 = .ok (.aload_n 0, 1) := by decide +kernel
theorem dX5_punch_92 : decode cX5_punch 92 = .ok (.getfield 7, 3) := by decide +kernel
theorem dX5_punch_95 : decode cX5_punch 95 = .ok (.bipush 25, 2) := by decide +kernel
theorem dX5_punch_97 : decode cX5_punch 97 = .ok (.iload_n 1, 1) := by decide +kernel
theorem dX5_punch_98 : decode cX5_punch 98 = .ok (.iadd, 1) := by decide +kernel
theorem dX5_punch_99 : decode cX5_punch 99 = .ok (.iaload, 1) := by decide +kernel
theorem dX5_punch_100 : decode cX5_punch 100 = .ok (.invokestatic 100, 3) := by decide +kernel
theorem dX5_punch_103 : decode cX5_punch 103 = .ok (.ireturn, 1) := by decide +kernel
theorem dX5_isFalse_0 : decode cX5_isFalse 0 = .ok (.aload_n 0, 1) := by decide +kernel
theorem dX5_isFalse_1 : decode cX5_isFalse 1 = .ok (.getfield 7, 3) := by decide +kernel
theorem dX5_isFalse_4 : decode cX5_isFalse 4 = .ok (.bipush 25, 2) := by decide +kernel
theorem dX5_isFalse_6 : decode cX5_isFalse 6 = .ok (.iload_n 1, 1) := by decide +kernel
theorem dX5_isFalse_7 : decode cX5_isFalse 7 = .ok (.iadd, 1) := by decide +kernel
theorem dX5_isFalse_8 : decode cX5_isFalse 8 = .ok (.iaload, 1) := by decide +kernel
theorem dX5_isFalse_9 : decode cX5_isFalse 9 = .ok (.aload_n 0, 1) := by decide +kernel
theorem dX5_isFalse_10 : decode cX5_isFalse 10 = .ok (.getfield 7, 3) := by decide +kernel
theorem dX5_isFalse_13 : decode cX5_isFalse 13 = .ok (.bipush 37, 2) := by decide +kernel
theorem dX5_isFalse_15 : decode cX5_isFalse 15 = .ok (.iload_n 1, 1) := by decide +kernel
theorem dX5_isFalse_16 : decode cX5_isFalse 16 = .ok (.iadd, 1) := by decide +kernel
theorem dX5_isFalse_17 : decode cX5_isFalse 17 = .ok (.iaload, 1) := by decide +kernel
theorem dX5_isFalse_18 : decode cX5_isFalse 18 = .ok (.if_icmp .eq 7, 3) := by decide +kernel
theorem dX5_isFalse_21 : decode cX5_isFalse 21 = .ok (.iconst 1, 1) := by decide +kernel
theorem dX5_isFalse_22 : decode cX5_isFalse 22 = .ok (.goto 4, 3) := by decide +kernel
theorem dX5_isFalse_25 : decode cX5_isFalse 25 = .ok (.iconst 0, 1) := by decide +kernel
theorem dX5_isFalse_26 : decode cX5_isFalse 26 = .ok (.ireturn, 1) := by decide +kernel
theorem dX5_forge_0 : decode cX5_forge 0 = .ok (.aload_n 0, 1) := by decide +kernel
theorem dX5_forge_1 : decode cX5_forge 1 = .ok (.iload_n 1, 1) := by decide +kernel
theorem dX5_forge_2 : decode cX5_forge 2 = .ok (.invokevirtual 103, 3) := by decide +kernel
theorem dX5_forge_5 : decode cX5_forge 5 = .ok (.ifCond .eq 10, 3) := by decide +kernel
theorem dX5_forge_8 : decode cX5_forge 8 = .ok (.iload_n 2, 1) := by decide +kernel
theorem dX5_forge_9 : decode cX5_forge 9 = .ok (.invokestatic 45, 3) := by decide +kernel
theorem dX5_forge_12 : decode cX5_forge 12 = .ok (.ifCond .ne 5, 3) := by decide +kernel
theorem dX5_forge_15 : decode cX5_forge 15 = .ok (.iconst (-1), 1) := by decide +kernel
theorem dX5_forge_16 : decode cX5_forge 16 = .ok (.ireturn, 1) := by decide +kernel
theorem dX5_forge_17 : decode cX5_forge 17 = .ok (.aload_n 0, 1) := by decide +kernel
theorem dX5_forge_18 : decode cX5_forge 18 = .ok (.getfield 7, 3) := by decide +kernel
theorem dX5_forge_21 : decode cX5_forge 21 = .ok (.bipush 25, 2) := by decide +kernel
theorem dX5_forge_23 : decode cX5_forge 23 = .ok (.iload_n 1, 1) := by decide +kernel
theorem dX5_forge_24 : decode cX5_forge 24 = .ok (.iadd, 1) := by decide +kernel
theorem dX5_forge_25 : decode cX5_forge 25 = .ok (.iaload, 1) := by decide +kernel
theorem dX5_forge_26 : decode cX5_forge 26 = .ok (.iload_n 2, 1) := by decide +kernel
theorem dX5_forge_27 : decode cX5_forge 27 = .ok (.ishr, 1) := by decide +kernel
theorem dX5_forge_28 : decode cX5_forge 28 = .ok (.iconst 1, 1) := by decide +kernel
theorem dX5_forge_29 : decode cX5_forge 29 = .ok (.iand, 1) := by decide +kernel
theorem dX5_forge_30 : decode cX5_forge 30 = .ok (.iconst 1, 1) := by decide +kernel
theorem dX5_forge_31 : decode cX5_forge 31 = .ok (.if_icmp .ne 7, 3) := by decide +kernel
theorem dX5_forge_34 : decode cX5_forge 34 = .ok (.iconst 1, 1) := by decide +kernel
theorem dX5_forge_35 : decode cX5_forge 35 = .ok (.goto 4, 3) := by decide +kernel
theorem dX5_forge_38 : decode cX5_forge 38 = .ok (.iconst 0, 1) := by decide +kernel
theorem dX5_forge_39 : decode cX5_forge 39 = .ok (.iload_n 3, 1) := by decide +kernel
theorem dX5_forge_40 : decode cX5_forge 40 = .ok (.if_icmp .ne 6, 3) := by decide +kernel
theorem dX5_forge_43 : decode cX5_forge 43 = .ok (.bipush (-5), 2) := by decide +kernel
theorem dX5_forge_45 : decode cX5_forge 45 = .ok (.ireturn, 1) := by decide +kernel
theorem dX5_forge_46 : decode cX5_forge 46 = .ok (.aload_n 0, 1) := by decide +kernel
theorem dX5_forge_47 : decode cX5_forge 47 = .ok (.invokevirtual 49, 3) := by decide +kernel
theorem dX5_forge_50 : decode cX5_forge 50 = .ok (.aload_n 0, 1) := by decide +kernel
theorem dX5_forge_51 : decode cX5_forge 51 = .ok (.getfield 7, 3) := by decide +kernel
theorem dX5_forge_54 : decode cX5_forge 54 = .ok (.bipush 25, 2) := by decide +kernel
theorem dX5_forge_56 : decode cX5_forge 56 = .ok (.iload_n 1, 1) := by decide +kernel
theorem dX5_forge_57 : decode cX5_forge 57 = .ok (.iadd, 1) := by decide +kernel
theorem dX5_forge_58 : decode cX5_forge 58 = .ok (.dup2, 1) := by decide +kernel
theorem dX5_forge_59 : decode cX5_forge 59 = .ok (.iaload, 1) := by decide +kernel
theorem dX5_forge_60 : decode cX5_forge 60 = .ok (.iconst 1, 1) := by decide +kernel
theorem dX5_forge_61 : decode cX5_forge 61 = .ok (.iload_n 2, 1) := by decide +kernel
theorem dX5_forge_62 : decode cX5_forge 62 = .ok (.ishl, 1) := by decide +kernel
theorem dX5_forge_63 : decode cX5_forge 63 = .ok (.ixor, 1) := by decide +kernel
theorem dX5_forge_64 : decode cX5_forge 64 = .ok (.iastore, 1) := by decide +kernel
theorem dX5_forge_65 : decode cX5_forge 65 = .ok (.aload_n 0, 1) := by decide +kernel
theorem dX5_forge_66 : decode cX5_forge 66 = .ok (.getfield 7, 3) := by decide +kernel
theorem dX5_forge_69 : decode cX5_forge 69 = .ok (.bipush 63, 2) := by decide +kernel
theorem dX5_forge_71 : decode cX5_forge 71 = .ok (.dup2, 1) := by decide +kernel
theorem dX5_forge_72 : decode cX5_forge 72 = .ok (.iaload, 1) := by decide +kernel
theorem dX5_forge_73 : decode cX5_forge 73 = .ok (.iconst 1, 1) := by decide +kernel
theorem dX5_forge_74 : decode cX5_forge 74 = .ok (.iadd, 1) := by decide +kernel
theorem dX5_forge_75 : decode cX5_forge 75 = .ok (.iastore, 1) := by decide +kernel
theorem dX5_forge_76 : decode cX5_forge 76 = .ok (.aload_n 0, 1) := by decide +kernel
theorem dX5_forge_77 : decode cX5_forge 77 = .ok (.iload_n 1, 1) := by decide +kernel
theorem dX5_forge_78 : decode cX5_forge 78 = .ok (.invokevirtual 106, 3) := by decide +kernel
theorem dX5_forge_81 : decode cX5_forge 81 = .ok (.ifCond .eq 7, 3) := by decide +kernel
theorem dX5_forge_84 : decode cX5_forge 84 = .ok (.iconst 1, 1) := by decide +kernel
theorem dX5_forge_85 : decode cX5_forge 85 = .ok (.goto 4, 3) := by decide +kernel
theorem dX5_forge_88 : decode cX5_forge 88 = .ok (.iconst 0, 1) := by decide +kernel
theorem dX5_forge_89 : decode cX5_forge 89 = .ok (.ireturn, 1) := by decide +kernel
theorem dX5_mend_0 : decode cX5_mend 0 = .ok (.aload_n 0, 1) := by decide +kernel
theorem dX5_mend_1 : decode cX5_mend 1 = .ok (.iload_n 1, 1) := by decide +kernel
theorem dX5_mend_2 : decode cX5_mend 2 = .ok (.invokevirtual 103, 3) := by decide +kernel
theorem dX5_mend_5 : decode cX5_mend 5 = .ok (.ifCond .ne 5, 3) := by decide +kernel
theorem dX5_mend_8 : decode cX5_mend 8 = .ok (.iconst (-1), 1) := by decide +kernel
theorem dX5_mend_9 : decode cX5_mend 9 = .ok (.ireturn, 1) := by decide +kernel
theorem dX5_mend_10 : decode cX5_mend 10 = .ok (.aload_n 0, 1) := by decide +kernel
theorem dX5_mend_11 : decode cX5_mend 11 = .ok (.iload_n 1, 1) := by decide +kernel
theorem dX5_mend_12 : decode cX5_mend 12 = .ok (.invokevirtual 106, 3) := by decide +kernel
