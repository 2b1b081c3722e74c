theorem dX5_mend_15 : decode cX5_mend 15 = .ok (.ifCond .ne 6, 3) := by decide +kernel
theorem dX5_mend_18 : decode cX5_mend 18 = .ok (.bipush (-5), 2) := by decide +kernel
theorem dX5_mend_20 : decode cX5_mend 20 = .ok (.ireturn, 1) := by decide +kernel
theorem dX5_mend_21 : decode cX5_mend 21 = .ok (.aload_n 0, 1) := by decide +kernel
theorem dX5_mend_22 : decode cX5_mend 22 = .ok (.invokevirtual 49, 3) := by decide +kernel
theorem dX5_mend_25 : decode cX5_mend 25 = .ok (.aload_n 0, 1) := by decide +kernel
theorem dX5_mend_26 : decode cX5_mend 26 = .ok (.getfield 7, 3) := by decide +kernel
theorem dX5_mend_29 : decode cX5_mend 29 = .ok (.bipush 25, 2) := by decide +kernel
theorem dX5_mend_31 : decode cX5_mend 31 = .ok (.iload_n 1, 1) := by decide +kernel
theorem dX5_mend_32 : decode cX5_mend 32 = .ok (.iadd, 1) := by decide +kernel
theorem dX5_mend_33 : decode cX5_mend 33 = .ok (.iaload, 1) := by decide +kernel
theorem dX5_mend_34 : decode cX5_mend 34 = .ok (.aload_n 0, 1) := by decide +kernel
theorem dX5_mend_35 : decode cX5_mend 35 = .ok (.getfield 7, 3) := by decide +kernel
theorem dX5_mend_38 : decode cX5_mend 38 = .ok (.bipush 37, 2) := by decide +kernel
theorem dX5_mend_40 : decode cX5_mend 40 = .ok (.iload_n 1, 1) := by decide +kernel
theorem dX5_mend_41 : decode cX5_mend 41 = .ok (.iadd, 1) := by decide +kernel
theorem dX5_mend_42 : decode cX5_mend 42 = .ok (.iaload, 1) := by decide +kernel
theorem dX5_mend_43 : decode cX5_mend 43 = .ok (.ixor, 1) := by decide +kernel
theorem dX5_mend_44 : decode cX5_mend 44 = .ok (.invokestatic 100, 3) := by decide +kernel
theorem dX5_mend_47 : decode cX5_mend 47 = .ok (.istore_n 2, 1) := by decide +kernel
theorem dX5_mend_48 : decode cX5_mend 48 = .ok (.aload_n 0, 1) := by decide +kernel
theorem dX5_mend_49 : decode cX5_mend 49 = .ok (.getfield 7, 3) := by decide +kernel
theorem dX5_mend_52 : decode cX5_mend 52 = .ok (.bipush 25, 2) := by decide +kernel
theorem dX5_mend_54 : decode cX5_mend 54 = .ok (.iload_n 1, 1) := by decide +kernel
theorem dX5_mend_55 : decode cX5_mend 55 = .ok (.iadd, 1) := by decide +kernel
theorem dX5_mend_56 : decode cX5_mend 56 = .ok (.aload_n 0, 1) := by decide +kernel
theorem dX5_mend_57 : decode cX5_mend 57 = .ok (.getfield 7, 3) := by decide +kernel
theorem dX5_mend_60 : decode cX5_mend 60 = .ok (.bipush 37, 2) := by decide +kernel
theorem dX5_mend_62 : decode cX5_mend 62 = .ok (.iload_n 1, 1) := by decide +kernel
theorem dX5_mend_63 : decode cX5_mend 63 = .ok (.iadd, 1) := by decide +kernel
theorem dX5_mend_64 : decode cX5_mend 64 = .ok (.iaload, 1) := by decide +kernel
theorem dX5_mend_65 : decode cX5_mend 65 = .ok (.iastore, 1) := by decide +kernel
theorem dX5_mend_66 : decode cX5_mend 66 = .ok (.iload_n 2, 1) := by decide +kernel
theorem dX5_mend_67 : decode cX5_mend 67 = .ok (.ireturn, 1) := by decide +kernel
theorem dX5_turns_0 : decode cX5_turns 0 = .ok (.aload_n 0, 1) := by decide +kernel
theorem dX5_turns_1 : decode cX5_turns 1 = .ok (.iload_n 2, 1) := by decide +kernel
theorem dX5_turns_2 : decode cX5_turns 2 = .ok (.invokevirtual 109, 3) := by decide +kernel
theorem dX5_turns_5 : decode cX5_turns 5 = .ok (.istore_n 3, 1) := by decide +kernel
theorem dX5_turns_6 : decode cX5_turns 6 = .ok (.aload_n 0, 1) := by decide +kernel
theorem dX5_turns_7 : decode cX5_turns 7 = .ok (.getfield 7, 3) := by decide +kernel
theorem dX5_turns_10 : decode cX5_turns 10 = .ok (.bipush 25, 2) := by decide +kernel
theorem dX5_turns_12 : decode cX5_turns 12 = .ok (.iload_n 1, 1) := by decide +kernel
theorem dX5_turns_13 : decode cX5_turns 13 = .ok (.iadd, 1) := by decide +kernel
theorem dX5_turns_14 : decode cX5_turns 14 = .ok (.aload_n 0, 1) := by decide +kernel
theorem dX5_turns_15 : decode cX5_turns 15 = .ok (.aload_n 0, 1) := by decide +kernel
theorem dX5_turns_16 : decode cX5_turns 16 = .ok (.getfield 7, 3) := by decide +kernel
theorem dX5_turns_19 : decode cX5_turns 19 = .ok (.bipush 25, 2) := by decide +kernel
theorem dX5_turns_21 : decode cX5_turns 21 = .ok (.iload_n 1, 1) := by decide +kernel
theorem dX5_turns_22 : decode cX5_turns 22 = .ok (.iadd, 1) := by decide +kernel
theorem dX5_turns_23 : decode cX5_turns 23 = .ok (.iaload, 1) := by decide +kernel
theorem dX5_turns_24 : decode cX5_turns 24 = .ok (.iload_n 3, 1) := by decide +kernel
theorem dX5_turns_25 : decode cX5_turns 25 = .ok (.invokevirtual 112, 3) := by decide +kernel
theorem dX5_turns_28 : decode cX5_turns 28 = .ok (.iastore, 1) := by decide +kernel
theorem dX5_turns_29 : decode cX5_turns 29 = .ok (.aload_n 0, 1) := by decide +kernel
theorem dX5_turns_30 : decode cX5_turns 30 = .ok (.getfield 7, 3) := by decide +kernel
theorem dX5_turns_33 : decode cX5_turns 33 = .ok (.bipush 37, 2) := by decide +kernel
theorem dX5_turns_35 : decode cX5_turns 35 = .ok (.iload_n 1, 1) := by decide +kernel
theorem dX5_turns_36 : decode cX5_turns 36 = .ok (.iadd, 1) := by decide +kernel
theorem dX5_turns_37 : decode cX5_turns 37 = .ok (.aload_n 0, 1) := by decide +kernel
theorem dX5_turns_38 : decode cX5_turns 38 = .ok (.aload_n 0, 1) := by decide +kernel
theorem dX5_turns_39 : decode cX5_turns 39 = .ok (.getfield 7, 3) := by decide +kernel
theorem dX5_turns_42 : decode cX5_turns 42 = .ok (.bipush 37, 2) := by decide +kernel
theorem dX5_turns_44 : decode cX5_turns 44 = .ok (.iload_n 1, 1) := by decide +kernel
theorem dX5_turns_45 : decode cX5_turns 45 = .ok (.iadd, 1) := by decide +kernel
theorem dX5_turns_46 : decode cX5_turns 46 = .ok (.iaload, 1) := by decide +kernel
theorem dX5_turns_47 : decode cX5_turns 47 = .ok (.iload_n 3, 1) := by decide +kernel
theorem dX5_turns_48 : decode cX5_turns 48 = .ok (.invokevirtual 112, 3) := by decide +kernel
theorem dX5_turns_51 : decode cX5_turns 51 = .ok (.iastore, 1) := by decide +kernel
theorem dX5_turns_52 : decode cX5_turns 52 = .ok (.aload_n 0, 1) := by decide +kernel
theorem dX5_turns_53 : decode cX5_turns 53 = .ok (.getfield 7, 3) := by decide +kernel
theorem dX5_turns_56 : decode cX5_turns 56 = .ok (.bipush 50, 2) := by decide +kernel
theorem dX5_turns_58 : decode cX5_turns 58 = .ok (.iload_n 1, 1) := by decide +kernel
theorem dX5_turns_59 : decode cX5_turns 59 = .ok (.iadd, 1) := by decide +kernel
theorem dX5_turns_60 : decode cX5_turns 60 = .ok (.dup2, 1) := by decide +kernel
theorem dX5_turns_61 : decode cX5_turns 61 = .ok (.iaload, 1) := by decide +kernel
theorem dX5_turns_62 : decode cX5_turns 62 = .ok (.iload_n 2, 1) := by decide +kernel
theorem dX5_turns_63 : decode cX5_turns 63 = .ok (.iadd, 1) := by decide +kernel
theorem dX5_turns_64 : decode cX5_turns 64 = .ok (.iastore, 1) := by decide +kernel
theorem dX5_turns_65 : decode cX5_turns 65 = .ok (.aload_n 0, 1) := by decide +kernel
theorem dX5_turns_66 : decode cX5_turns 66 = .ok (.getfield 7, 3) := by decide +kernel
theorem dX5_turns_69 : decode cX5_turns 69 = .ok (.bipush 64, 2) := by decide +kernel
theorem dX5_turns_71 : decode cX5_turns 71 = .ok (.dup2, 1) := by decide +kernel
theorem dX5_turns_72 : decode cX5_turns 72 = .ok (.iaload, 1) := by decide +kernel
theorem dX5_turns_73 : decode cX5_turns 73 = .ok (.iconst 1, 1) := by decide +kernel
theorem dX5_turns_74 : decode cX5_turns 74 = .ok (.iadd, 1) := by decide +kernel
theorem dX5_turns_75 : decode cX5_turns 75 = .ok (.iastore, 1) := by decide +kernel
theorem dX5_turns_76 : decode cX5_turns 76 = .ok (.return_, 1) := by decide +kernel
theorem dX5_turn_0 : decode cX5_turn 0 = .ok (.aload_n 0, 1) := by decide +kernel
theorem dX5_turn_1 : decode cX5_turn 1 = .ok (.iload_n 1, 1) := by decide +kernel
theorem dX5_turn_2 : decode cX5_turn 2 = .ok (.invokevirtual 103, 3) := by decide +kernel
theorem dX5_turn_5 : decode cX5_turn 5 = .ok (.ifCond .ne 5, 3) := by decide +kernel
theorem dX5_turn_8 : decode cX5_turn 8 = .ok (.iconst (-1), 1) := by decide +kernel
theorem dX5_turn_9 : decode cX5_turn 9 = .ok (.ireturn, 1) := by decide +kernel
theorem dX5_turn_10 : decode cX5_turn 10 = .ok (.iload_n 2, 1) := by decide +kernel
theorem dX5_turn_11 : decode cX5_turn 11 = .ok (.invokestatic 116, 3) := by decide +kernel
theorem dX5_turn_14 : decode cX5_turn 14 = .ok (.ifCond .ne 6, 3) := by decide +kernel
theorem dX5_turn_17 : decode cX5_turn 17 = .ok (.bipush (-2), 2) := by decide +kernel
theorem dX5_turn_19 : decode cX5_turn 19 = .ok (.ireturn, 1) := by decide +kernel
theorem dX5_turn_20 : decode cX5_turn 20 = .ok (.aload_n 0, 1) := by decide +kernel
theorem dX5_turn_21 : decode cX5_turn 21 = .ok (.iload_n 2, 1) := by decide +kernel
theorem dX5_turn_22 : decode cX5_turn 22 = .ok (.invokevirtual 109, 3) := by decide +kernel
theorem dX5_turn_25 : decode cX5_turn 25 = .ok (.ifCond .ne 6, 3) := by decide +kernel
theorem dX5_turn_28 : decode cX5_turn 28 = .ok (.bipush (-5), 2) := by decide +kernel
theorem dX5_turn_30 : decode cX5_turn 30 = .ok (.ireturn, 1) := by decide +kernel
theorem dX5_turn_31 : decode cX5_turn 31 = .ok (.aload_n 0, 1) := by decide +kernel
theorem dX5_turn_32 : decode cX5_turn 32 = .ok (.invokevirtual 49, 3) := by decide +kernel
theorem dX5_turn_35 : decode cX5_turn 35 = .ok (.aload_n 0, 1) := by decide +kernel
theorem dX5_turn_36 : decode cX5_turn 36 = .ok (.iload_n 1, 1) := by decide +kernel
theorem dX5_turn_37 : decode cX5_turn 37 = .ok (.iload_n 2, 1) := by decide +kernel
theorem dX5_turn_38 : decode cX5_turn 38 = .ok (.invokevirtual 119, 3) := by decide +kernel
theorem dX5_turn_41 : decode cX5_turn 41 = .ok (.aload_n 0, 1) := by decide +kernel
theorem dX5_turn_42 : decode cX5_turn 42 = .ok (.getfield 7, 3) := by decide +kernel
theorem dX5_turn_45 : decode cX5_turn 45 = .ok (.bipush 25, 2) := by decide +kernel
theorem dX5_turn_47 : decode cX5_turn 47 = .ok (.iload_n 1, 1) := by decide +kernel
theorem dX5_turn_48 : decode cX5_turn 48 = .ok (.iadd, 1) := by decide +kernel
theorem dX5_turn_49 : decode cX5_turn 49 = .ok (.iaload, 1) := by decide +kernel
theorem dX5_turn_50 : decode cX5_turn 50 = .ok (.ireturn, 1) := by decide +kernel
theorem dX5_isOn_0 : decode cX5_isOn 0 = .ok (.aload_n 0, 1) := by decide +kernel
theorem dX5_isOn_1 : decode cX5_isOn 1 = .ok (.getfield 7, 3) := by decide +kernel
theorem dX5_isOn_4 : decode cX5_isOn 4 = .ok (.bipush 49, 2) := by decide +kernel
theorem dX5_isOn_6 : decode cX5_isOn 6 = .ok (.iaload, 1) := by decide +kernel
theorem dX5_isOn_7 : decode cX5_isOn 7 = .ok (.iload_n 1, 1) := by decide +kernel
theorem dX5_isOn_8 : decode cX5_isOn 8 = .ok (.ishr, 1) := by decide +kernel
theorem dX5_isOn_9 : decode cX5_isOn 9 = .ok (.iconst 1, 1) := by decide +kernel
theorem dX5_isOn_10 : decode cX5_isOn 10 = .ok (.iand, 1) := by decide +kernel
theorem dX5_isOn_11 : decode cX5_isOn 11 = .ok (.iconst 1, 1) := by decide +kernel
theorem dX5_isOn_12 : decode cX5_isOn 12 = .ok (.if_icmp .ne 7, 3) := by decide +kernel
theorem dX5_isOn_15 : decode cX5_isOn 15 = .ok (.iconst 1, 1) := by decide +kernel
theorem dX5_isOn_16 : decode cX5_isOn 16 = .ok (.goto 4, 3) := by decide +kernel
theorem dX5_isOn_19 : decode cX5_isOn 19 = .ok (.iconst 0, 1) := by decide +kernel
theorem dX5_isOn_20 : decode cX5_isOn 20 = .ok (.ireturn, 1) := by decide +kernel
theorem dX5_stack_0 : decode cX5_stack 0 = .ok (.aload_n 0, 1) := by decide +kernel
theorem dX5_stack_1 : decode cX5_stack 1 = .ok (.iload_n 1, 1) := by decide +kernel
theorem dX5_stack_2 : decode cX5_stack 2 = .ok (.invokevirtual 103, 3) := by decide +kernel
theorem dX5_stack_5 : decode cX5_stack 5 = .ok (.ifCond .ne 5, 3) := by decide +kernel
theorem dX5_stack_8 : decode cX5_stack 8 = .ok (.iconst (-1), 1) := by decide +kernel
theorem dX5_stack_9 : decode cX5_stack 9 = .ok (.ireturn, 1) := by decide +kernel
theorem dX5_stack_10 : decode cX5_stack 10 = .ok (.aload_n 0, 1) := by decide +kernel
theorem dX5_stack_11 : decode cX5_stack 11 = .ok (.iload_n 1, 1) := by decide +kernel
theorem dX5_stack_12 : decode cX5_stack 12 = .ok (.invokevirtual 123, 3) := by decide +kernel
theorem dX5_stack_15 : decode cX5_stack 15 = .ok (.iload_n 2, 1) := by decide +kernel
theorem dX5_stack_16 : decode cX5_stack 16 = .ok (.if_icmp .ne 6, 3) := by decide +kernel
theorem dX5_stack_19 : decode cX5_stack 19 = .ok (.bipush (-5), 2) := by decide +kernel
theorem dX5_stack_21 : decode cX5_stack 21 = .ok (.ireturn, 1) := by decide +kernel
theorem dX5_stack_22 : decode cX5_stack 22 = .ok (.aload_n 0, 1) := by decide +kernel
theorem dX5_stack_23 : decode cX5_stack 23 = .ok (.invokevirtual 49, 3) := by decide +kernel
theorem dX5_stack_26 : decode cX5_stack 26 = .ok (.aload_n 0, 1) := by decide +kernel
theorem dX5_stack_27 : decode cX5_stack 27 = .ok (.getfield 7, 3) := by decide +kernel
theorem dX5_stack_30 : decode cX5_stack 30 = .ok (.bipush 49, 2) := by decide +kernel
theorem dX5_stack_32 : decode cX5_stack 32 = .ok (.dup2, 1) := by decide +kernel
theorem dX5_stack_33 : decode cX5_stack 33 = .ok (.iaload, 1) := by decide +kernel
theorem dX5_stack_34 : decode cX5_stack 34 = .ok (.iconst 1, 1) := by decide +kernel
theorem dX5_stack_35 : decode cX5_stack 35 = .ok (.iload_n 1, 1) := by decide +kernel
theorem dX5_stack_36 : decode cX5_stack 36 = .ok (.ishl, 1) := by decide +kernel
theorem dX5_stack_37 : decode cX5_stack 37 = .ok (.ixor, 1) := by decide +kernel
theorem dX5_stack_38 : decode cX5_stack 38 = .ok (.iastore, 1) := by decide +kernel
theorem dX5_stack_39 : decode cX5_stack 39 = .ok (.aload_n 0, 1) := by decide +kernel
theorem dX5_stack_40 : decode cX5_stack 40 = .ok (.getfield 7, 3) := by decide +kernel
theorem dX5_stack_43 : decode cX5_stack 43 = .ok (.bipush 49, 2) := by decide +kernel
theorem dX5_stack_45 : decode cX5_stack 45 = .ok (.iaload, 1) := by decide +kernel
theorem dX5_stack_46 : decode cX5_stack 46 = .ok (.invokestatic 100, 3) := by decide +kernel
theorem dX5_stack_49 : decode cX5_stack 49 = .ok (.ireturn, 1) := by decide +kernel
theorem dX5_turnStack_0 : decode cX5_turnStack 0 = .ok (.iload_n 1, 1) := by decide +kernel
theorem dX5_turnStack_1 : decode cX5_turnStack 1 = .ok (.invokestatic 116, 3) := by decide +kernel
theorem dX5_turnStack_4 : decode cX5_turnStack 4 = .ok (.ifCond .ne 6, 3) := by decide +kernel
theorem dX5_turnStack_7 : decode cX5_turnStack 7 = .ok (.bipush (-2), 2) := by decide +kernel
theorem dX5_turnStack_9 : decode cX5_turnStack 9 = .ok (.ireturn, 1) := by decide +kernel
theorem dX5_turnStack_10 : decode cX5_turnStack 10 = .ok (.aload_n 0, 1) := by decide +kernel
theorem dX5_turnStack_11 : decode cX5_turnStack 11 = .ok (.getfield 7, 3) := by decide +kernel
theorem dX5_turnStack_14 : decode cX5_turnStack 14 = .ok (.bipush 49, 2) := by decide +kernel
theorem dX5_turnStack_16 : decode cX5_turnStack 16 = .ok (.iaload, 1) := by decide +kernel
theorem dX5_turnStack_17 : decode cX5_turnStack 17 = .ok (.ifCond .eq 11, 3) := by decide +kernel
theorem dX5_turnStack_20 : decode cX5_turnStack 20 = .ok (.aload_n 0, 1) := by decide +kernel
theorem dX5_turnStack_21 : decode cX5_turnStack 21 = .ok (.iload_n 1, 1) := by decide +kernel
theorem dX5_turnStack_22 : decode cX5_turnStack 22 = .ok (.invokevirtual 109, 3) := by decide +kernel
theorem dX5_turnStack_25 : decode cX5_turnStack 25 = .ok (.ifCond .ne 6, 3) := by decide +kernel
theorem dX5_turnStack_28 : decode cX5_turnStack 28 = .ok (.bipush (-5), 2) := by decide +kernel
theorem dX5_turnStack_30 : decode cX5_turnStack 30 = .ok (.ireturn, 1) := by decide +kernel
theorem dX5_turnStack_31 : decode cX5_turnStack 31 = .ok (.aload_n 0, 1) := by decide +kernel
theorem dX5_turnStack_32 : decode cX5_turnStack 32 = .ok (.invokevirtual 49, 3) := by decide +kernel
theorem dX5_turnStack_35 : decode cX5_turnStack 35 = .ok (.iconst 0, 1) := by decide +kernel
theorem dX5_turnStack_36 : decode cX5_turnStack 36 = .ok (.istore_n 2, 1) := by decide +kernel
theorem dX5_turnStack_37 : decode cX5_turnStack 37 = .ok (.iload_n 2, 1) := by decide +kernel
theorem dX5_turnStack_38 : decode cX5_turnStack 38 = .ok (.aload_n 0, 1) := by decide +kernel
theorem dX5_turnStack_39 : decode cX5_turnStack 39 = .ok (.getfield 7, 3) := by decide +kernel
theorem dX5_turnStack_42 : decode cX5_turnStack 42 = .ok (.bipush 24, 2) := by decide +kernel
theorem dX5_turnStack_44 : decode cX5_turnStack 44 = .ok (.iaload, 1) := by decide +kernel
theorem dX5_turnStack_45 : decode cX5_turnStack 45 = .ok (.if_icmp .ge 23, 3) := by decide +kernel
theorem dX5_turnStack_48 : decode cX5_turnStack 48 = .ok (.aload_n 0, 1) := by decide +kernel
theorem dX5_turnStack_49 : decode cX5_turnStack 49 = .ok (.iload_n 2, 1) := by decide +kernel
theorem dX5_turnStack_50 : decode cX5_turnStack 50 = .ok (.invokevirtual 123, 3) := by decide +kernel
theorem dX5_turnStack_53 : decode cX5_turnStack 53 = .ok (.ifCond .eq 9, 3) := by decide +kernel
theorem dX5_turnStack_56 : decode cX5_turnStack 56 = .ok (.aload_n 0, 1) := by decide +kernel
theorem dX5_turnStack_57 : decode cX5_turnStack 57 = .ok (.iload_n 2, 1) := by decide +kernel
theorem dX5_turnStack_58 : decode cX5_turnStack 58 = .ok (.iload_n 1, 1) := by decide +kernel
theorem dX5_turnStack_59 : decode cX5_turnStack 59 = .ok (.invokevirtual 119, 3) := by decide +kernel
theorem dX5_turnStack_62 : decode cX5_turnStack 62 = .ok (.iinc 2 1, 3) := by decide +kernel
theorem dX5_turnStack_65 : decode cX5_turnStack 65 = .ok (.goto (-28), 3) := by decide +kernel
theorem dX5_turnStack_68 : decode cX5_turnStack 68 = .ok (.aload_n 0, 1) := by decide +kernel
theorem dX5_turnStack_69 : decode cX5_turnStack 69 = .ok (.getfield 7, 3) := by decide +kernel
theorem dX5_turnStack_72 : decode cX5_turnStack 72 = .ok (.bipush 49, 2) := by decide +kernel
theorem dX5_turnStack_74 : decode cX5_turnStack 74 = .ok (.iaload, 1) := by decide +kernel
theorem dX5_turnStack_75 : decode cX5_turnStack 75 = .ok (.invokestatic 100, 3) := by decide +kernel
theorem dX5_turnStack_78 : decode cX5_turnStack 78 = .ok (.ireturn, 1) := by decide +kernel
theorem dX5_undo_0 : decode cX5_undo 0 = .ok (.aload_n 0, 1) := by decide +kernel
theorem dX5_undo_1 : decode cX5_undo 1 = .ok (.getfield 30, 3) := by decide +kernel
theorem dX5_undo_4 : decode cX5_undo 4 = .ok (.ifCond .ne 6, 3) := by decide +kernel
theorem dX5_undo_7 : decode cX5_undo 7 = .ok (.bipush (-5), 2) := by decide +kernel
theorem dX5_undo_9 : decode cX5_undo 9 = .ok (.ireturn, 1) := by decide +kernel
theorem dX5_undo_10 : decode cX5_undo 10 = .ok (.aload_n 0, 1) := by decide +kernel
theorem dX5_undo_11 : decode cX5_undo 11 = .ok (.dup, 1) := by decide +kernel
theorem dX5_undo_12 : decode cX5_undo 12 = .ok (.getfield 30, 3) := by decide +kernel
theorem dX5_undo_15 : decode cX5_undo 15 = .ok (.iconst 1, 1) := by decide +kernel
theorem dX5_undo_16 : decode cX5_undo 16 = .ok (.isub, 1) := by decide +kernel
theorem dX5_undo_17 : decode cX5_undo 17 = .ok (.putfield 30, 3) := by decide +kernel
theorem dX5_undo_20 : decode cX5_undo 20 = .ok (.iconst 0, 1) := by decide +kernel
theorem dX5_undo_21 : decode cX5_undo 21 = .ok (.istore_n 1, 1) := by decide +kernel
theorem dX5_undo_22 : decode cX5_undo 22 = .ok (.iload_n 1, 1) := by decide +kernel
theorem dX5_undo_23 : decode cX5_undo 23 = .ok (.bipush 65, 2) := by decide +kernel
theorem dX5_undo_25 : decode cX5_undo 25 = .ok (.if_icmp .ge 29, 3) := by decide +kernel
theorem dX5_undo_28 : decode cX5_undo 28 = .ok (.aload_n 0, 1) := by decide +kernel
theorem dX5_undo_29 : decode cX5_undo 29 = .ok (.getfield 7, 3) := by decide +kernel
theorem dX5_undo_32 : decode cX5_undo 32 = .ok (.iload_n 1, 1) := by decide +kernel
theorem dX5_undo_33 : decode cX5_undo 33 = .ok (.aload_n 0, 1) := by decide +kernel
theorem dX5_undo_34 : decode cX5_undo 34 = .ok (.getfield 13, 3) := by decide +kernel
theorem dX5_undo_37 : decode cX5_undo 37 = .ok (.bipush 65, 2) := by decide +kernel
theorem dX5_undo_39 : decode cX5_undo 39 = .ok (.aload_n 0, 1) := by decide +kernel
theorem dX5_undo_40 : decode cX5_undo 40 = .ok (.getfield 30, 3) := by decide +kernel
theorem dX5_undo_43 : decode cX5_undo 43 = .ok (.imul, 1) := by decide +kernel
theorem dX5_undo_44 : decode cX5_undo 44 = .ok (.iload_n 1, 1) := by decide +kernel
theorem dX5_undo_45 : decode cX5_undo 45 = .ok (.iadd, 1) := by decide +kernel
theorem dX5_undo_46 : decode cX5_undo 46 = .ok (.iaload, 1) := by decide +kernel
theorem dX5_undo_47 : decode cX5_undo 47 = .ok (.iastore, 1) := by decide +kernel
theorem dX5_undo_48 : decode cX5_undo 48 = .ok (.iinc 1 1, 3) := by decide +kernel
theorem dX5_undo_51 : decode cX5_undo 51 = .ok (.goto (-29), 3) := by decide +kernel
theorem dX5_undo_54 : decode cX5_undo 54 = .ok (.aload_n 0, 1) := by decide +kernel
theorem dX5_undo_55 : decode cX5_undo 55 = .ok (.getfield 30, 3) := by decide +kernel
theorem dX5_undo_58 : decode cX5_undo 58 = .ok (.ireturn, 1) := by decide +kernel
theorem dX5_keep_0 : decode cX5_keep 0 = .ok (.iconst 0, 1) := by decide +kernel
theorem dX5_keep_1 : decode cX5_keep 1 = .ok (.istore_n 1, 1) := by decide +kernel
theorem dX5_keep_2 : decode cX5_keep 2 = .ok (.iload_n 1, 1) := by decide +kernel
theorem dX5_keep_3 : decode cX5_keep 3 = .ok (.bipush 65, 2) := by decide +kernel
theorem dX5_keep_5 : decode cX5_keep 5 = .ok (.if_icmp .ge 21, 3) := by decide +kernel
theorem dX5_keep_8 : decode cX5_keep 8 = .ok (.aload_n 0, 1) := by decide +kernel
theorem dX5_keep_9 : decode cX5_keep 9 = .ok (.getfield 16, 3) := by decide +kernel
theorem dX5_keep_12 : decode cX5_keep 12 = .ok (.iload_n 1, 1) := by decide +kernel
theorem dX5_keep_13 : decode cX5_keep 13 = .ok (.aload_n 0, 1) := by decide +kernel
theorem dX5_keep_14 : decode cX5_keep 14 = .ok (.getfield 7, 3) := by decide +kernel
theorem dX5_keep_17 : decode cX5_keep 17 = .ok (.iload_n 1, 1) := by decide +kernel
theorem dX5_keep_18 : decode cX5_keep 18 = .ok (.iaload, 1) := by decide +kernel
theorem dX5_keep_19 : decode cX5_keep 19 = .ok (.iastore, 1) := by decide +kernel
theorem dX5_keep_20 : decode cX5_keep 20 = .ok (.iinc 1 1, 3) := by decide +kernel
theorem dX5_keep_23 : decode cX5_keep 23 = .ok (.goto (-21), 3) := by decide +kernel
theorem dX5_keep_26 : decode cX5_keep 26 = .ok (.aload_n 0, 1) := by decide +kernel
theorem dX5_keep_27 : decode cX5_keep 27 = .ok (.iconst 1, 1) := by decide +kernel
theorem dX5_keep_28 : decode cX5_keep 28 = .ok (.putfield 126, 3) := by decide +kernel
theorem dX5_keep_31 : decode cX5_keep 31 = .ok (.aload_n 0, 1) := by decide +kernel
theorem dX5_keep_32 : decode cX5_keep 32 = .ok (.getfield 7, 3) := by decide +kernel
theorem dX5_keep_35 : decode cX5_keep 35 = .ok (.bipush 24, 2) := by decide +kernel
theorem dX5_keep_37 : decode cX5_keep 37 = .ok (.iaload, 1) := by decide +kernel
theorem dX5_keep_38 : decode cX5_keep 38 = .ok (.ireturn, 1) := by decide +kernel
theorem dX5_restore_0 : decode cX5_restore 0 = .ok (.aload_n 0, 1) := by decide +kernel
theorem dX5_restore_1 : decode cX5_restore 1 = .ok (.getfield 126, 3) := by decide +kernel
theorem dX5_restore_4 : decode cX5_restore 4 = .ok (.ifCond .ne 6, 3) := by decide +kernel
theorem dX5_restore_7 : decode cX5_restore 7 = .ok (.bipush (-5), 2) := by decide +kernel
theorem dX5_restore_9 : decode cX5_restore 9 = .ok (.ireturn, 1) := by decide +kernel
theorem dX5_restore_10 : decode cX5_restore 10 = .ok (.aload_n 0, 1) := by decide +kernel
theorem dX5_restore_11 : decode cX5_restore 11 = .ok (.invokevirtual 49, 3) := by decide +kernel
theorem dX5_restore_14 : decode cX5_restore 14 = .ok (.iconst 0, 1) := by decide +kernel
theorem dX5_restore_15 : decode cX5_restore 15 = .ok (.istore_n 1, 1) := by decide +kernel
theorem dX5_restore_16 : decode cX5_restore 16 = .ok (.iload_n 1, 1) := by decide +kernel
theorem dX5_restore_17 : decode cX5_restore 17 = .ok (.bipush 65, 2) := by decide +kernel
theorem dX5_restore_19 : decode cX5_restore 19 = .ok (.if_icmp .ge 21, 3) := by decide +kernel
theorem dX5_restore_22 : decode cX5_restore 22 = .ok (.aload_n 0, 1) := by decide +kernel
theorem dX5_restore_23 : decode cX5_restore 23 = .ok (.getfield 7, 3) := by decide +kernel
theorem dX5_restore_26 : decode cX5_restore 26 = .ok (.iload_n 1, 1) := by decide +kernel
theorem dX5_restore_27 : decode cX5_restore 27 = .ok (.aload_n 0, 1) := by decide +kernel
theorem dX5_restore_28 : decode cX5_restore 28 = .ok (.getfield 16, 3) := by decide +kernel
theorem dX5_restore_31 : decode cX5_restore 31 = .ok (.iload_n 1, 1) := by decide +kernel
theorem dX5_restore_32 : decode cX5_restore 32 = .ok (.iaload, 1) := by decide +kernel
theorem dX5_restore_33 : decode cX5_restore 33 = .ok (.iastore, 1) := by decide +kernel
theorem dX5_restore_34 : decode cX5_restore 34 = .ok (.iinc 1 1, 3) := by decide +kernel
theorem dX5_restore_37 : decode cX5_restore 37 = .ok (.goto (-21), 3) := by decide +kernel
theorem dX5_restore_40 : decode cX5_restore 40 = .ok (.aload_n 0, 1) := by decide +kernel
theorem dX5_restore_41 : decode cX5_restore 41 = .ok (.getfield 7, 3) := by decide +kernel
theorem dX5_restore_44 : decode cX5_restore 44 = .ok (.bipush 24, 2) := by decide +kernel
theorem dX5_restore_46 : decode cX5_restore 46 = .ok (.iaload, 1) := by decide +kernel
theorem dX5_restore_47 : decode cX5_restore 47 = .ok (.ireturn, 1) := by decide +kernel
theorem dX5_withHole_0 : decode cX5_withHole 0 = .ok (.iconst 0, 1) := by decide +kernel
theorem dX5_withHole_1 : decode cX5_withHole 1 = .ok (.istore_n 2, 1) := by decide +kernel
theorem dX5_withHole_2 : decode cX5_withHole 2 = .ok (.iconst 0, 1) := by decide +kernel
theorem dX5_withHole_3 : decode cX5_withHole 3 = .ok (.istore_n 3, 1) := by decide +kernel
theorem dX5_withHole_4 : decode cX5_withHole 4 = .ok (.iload_n 3, 1) := by decide +kernel
theorem dX5_withHole_5 : decode cX5_withHole 5 = .ok (.aload_n 0, 1) := by decide +kernel
theorem dX5_withHole_6 : decode cX5_withHole 6 = .ok (.getfield 7, 3) := by decide +kernel
theorem dX5_withHole_9 : decode cX5_withHole 9 = .ok (.bipush 24, 2) := by decide +kernel
theorem dX5_withHole_11 : decode cX5_withHole 11 = .ok (.iaload, 1) := by decide +kernel
theorem dX5_withHole_12 : decode cX5_withHole 12 = .ok (.if_icmp .ge 27, 3) := by decide +kernel
theorem dX5_withHole_15 : decode cX5_withHole 15 = .ok (.iload_n 2, 1) := by decide +kernel
theorem dX5_withHole_16 : decode cX5_withHole 16 = .ok (.aload_n 0, 1) := by decide +kernel
theorem dX5_withHole_17 : decode cX5_withHole 17 = .ok (.getfield 7, 3) := by decide +kernel
theorem dX5_withHole_20 : decode cX5_withHole 20 = .ok (.bipush 25, 2) := by decide +kernel
theorem dX5_withHole_22 : decode cX5_withHole 22 = .ok (.iload_n 3, 1) := by decide +kernel
theorem dX5_withHole_23 : decode cX5_withHole 23 = .ok (.iadd, 1) := by decide +kernel
theorem dX5_withHole_24 : decode cX5_withHole 24 = .ok (.iaload, 1) := by decide +kernel
theorem dX5_withHole_25 : decode cX5_withHole 25 = .ok (.iload_n 1, 1) := by decide +kernel
theorem dX5_withHole_26 : decode cX5_withHole 26 = .ok (.ishr, 1) := by decide +kernel
theorem dX5_withHole_27 : decode cX5_withHole 27 = .ok (.iconst 1, 1) := by decide +kernel
theorem dX5_withHole_28 : decode cX5_withHole 28 = .ok (.iand, 1) := by decide +kernel
theorem dX5_withHole_29 : decode cX5_withHole 29 = .ok (.iload_n 3, 1) := by decide +kernel
theorem dX5_withHole_30 : decode cX5_withHole 30 = .ok (.ishl, 1) := by decide +kernel
theorem dX5_withHole_31 : decode cX5_withHole 31 = .ok (.ior, 1) := by decide +kernel
theorem dX5_withHole_32 : decode cX5_withHole 32 = .ok (.istore_n 2, 1) := by decide +kernel
theorem dX5_withHole_33 : decode cX5_withHole 33 = .ok (.iinc 3 1, 3) := by decide +kernel
theorem dX5_withHole_36 : decode cX5_withHole 36 = .ok (.goto (-32), 3) := by decide +kernel
theorem dX5_withHole_39 : decode cX5_withHole 39 = .ok (.iload_n 2, 1) := by decide +kernel
theorem dX5_withHole_40 : decode cX5_withHole 40 = .ok (.ireturn, 1) := by decide +kernel
theorem dX5_place_0 : decode cX5_place 0 = .ok (.iload_n 1, 1) := by decide +kernel
theorem dX5_place_1 : decode cX5_place 1 = .ok (.invokestatic 45, 3) := by decide +kernel
theorem dX5_place_4 : decode cX5_place 4 = .ok (.ifCond .ne 5, 3) := by decide +kernel
theorem dX5_place_7 : decode cX5_place 7 = .ok (.iconst (-1), 1) := by decide +kernel
theorem dX5_place_8 : decode cX5_place 8 = .ok (.ireturn, 1) := by decide +kernel
theorem dX5_place_9 : decode cX5_place 9 = .ok (.iload_n 2, 1) := by decide +kernel
theorem dX5_place_10 : decode cX5_place 10 = .ok (.tableswitch 67 0 4 #[34, 43, 49, 55, 61], 34) := by decide +kernel
theorem dX5_place_44 : decode cX5_place 44 = .ok (.aload_n 0, 1) := by decide +kernel
theorem dX5_place_45 : decode cX5_place 45 = .ok (.getfield 7, 3) := by decide +kernel
theorem dX5_place_48 : decode cX5_place 48 = .ok (.iconst 0, 1) := by decide +kernel
theorem dX5_place_49 : decode cX5_place 49 = .ok (.iload_n 1, 1) := by decide +kernel
theorem dX5_place_50 : decode cX5_place 50 = .ok (.iadd, 1) := by decide +kernel
theorem dX5_place_51 : decode cX5_place 51 = .ok (.iaload, 1) := by decide +kernel
theorem dX5_place_52 : decode cX5_place 52 = .ok (.ireturn, 1) := by decide +kernel
theorem dX5_place_53 : decode cX5_place 53 = .ok (.aload_n 0, 1) := by decide +kernel
theorem dX5_place_54 : decode cX5_place 54 = .ok (.iload_n 1, 1) := by decide +kernel
theorem dX5_place_55 : decode cX5_place 55 = .ok (.invokevirtual 52, 3) := by decide +kernel
theorem dX5_place_58 : decode cX5_place 58 = .ok (.ireturn, 1) := by decide +kernel
theorem dX5_place_59 : decode cX5_place 59 = .ok (.aload_n 0, 1) := by decide +kernel
theorem dX5_place_60 : decode cX5_place 60 = .ok (.iload_n 1, 1) := by decide +kernel
theorem dX5_place_61 : decode cX5_place 61 = .ok (.invokevirtual 34, 3) := by decide +kernel
theorem dX5_place_64 : decode cX5_place 64 = .ok (.ireturn, 1) := by decide +kernel
theorem dX5_place_65 : decode cX5_place 65 = .ok (.aload_n 0, 1) := by decide +kernel
theorem dX5_place_66 : decode cX5_place 66 = .ok (.iload_n 1, 1) := by decide +kernel
theorem dX5_place_67 : decode cX5_place 67 = .ok (.invokevirtual 130, 3) := by decide +kernel
theorem dX5_place_70 : decode cX5_place 70 = .ok (.ireturn, 1) := by decide +kernel
theorem dX5_place_71 : decode cX5_place 71 = .ok (.aload_n 0, 1) := by decide +kernel
theorem dX5_place_72 : decode cX5_place 72 = .ok (.iload_n 1, 1) := by decide +kernel
theorem dX5_place_73 : decode cX5_place 73 = .ok (.invokevirtual 133, 3) := by decide +kernel
theorem dX5_place_76 : decode cX5_place 76 = .ok (.ireturn, 1) := by decide +kernel
theorem dX5_place_77 : decode cX5_place 77 = .ok (.bipush (-2), 2) := by decide +kernel
theorem dX5_place_79 : decode cX5_place 79 = .ok (.ireturn, 1) := by decide +kernel
theorem dX5_rounds_0 : decode cX5_rounds 0 = .ok (.iconst 0, 1) := by decide +kernel
theorem dX5_rounds_1 : decode cX5_rounds 1 = .ok (.istore_n 1, 1) := by decide +kernel
theorem dX5_rounds_2 : decode cX5_rounds 2 = .ok (.iconst 0, 1) := by decide +kernel
theorem dX5_rounds_3 : decode cX5_rounds 3 = .ok (.istore_n 2, 1) := by decide +kernel
theorem dX5_rounds_4 : decode cX5_rounds 4 = .ok (.iload_n 2, 1) := by decide +kernel
theorem dX5_rounds_5 : decode cX5_rounds 5 = .ok (.bipush 24, 2) := by decide +kernel
theorem dX5_rounds_7 : decode cX5_rounds 7 = .ok (.if_icmp .ge 26, 3) := by decide +kernel
theorem dX5_rounds_10 : decode cX5_rounds 10 = .ok (.iload_n 1, 1) := by decide +kernel
theorem dX5_rounds_11 : decode cX5_rounds 11 = .ok (.aload_n 0, 1) := by decide +kernel
theorem dX5_rounds_12 : decode cX5_rounds 12 = .ok (.iload_n 2, 1) := by decide +kernel
theorem dX5_rounds_13 : decode cX5_rounds 13 = .ok (.invokevirtual 130, 3) := by decide +kernel
theorem dX5_rounds_16 : decode cX5_rounds 16 = .ok (.iload_n 2, 1) := by decide +kernel
theorem dX5_rounds_17 : decode cX5_rounds 17 = .ok (.if_icmp .ne 7, 3) := by decide +kernel
theorem dX5_rounds_20 : decode cX5_rounds 20 = .ok (.iconst 1, 1) := by decide +kernel
theorem dX5_rounds_21 : decode cX5_rounds 21 = .ok (.goto 4, 3) := by decide +kernel
theorem dX5_rounds_24 : decode cX5_rounds 24 = .ok (.iconst 0, 1) := by decide +kernel
theorem dX5_rounds_25 : decode cX5_rounds 25 = .ok (.iadd, 1) := by decide +kernel
theorem dX5_rounds_26 : decode cX5_rounds 26 = .ok (.istore_n 1, 1) := by decide +kernel
theorem dX5_rounds_27 : decode cX5_rounds 27 = .ok (.iinc 2 1, 3) := by decide +kernel
theorem dX5_rounds_30 : decode cX5_rounds 30 = .ok (.goto (-26), 3) := by decide +kernel
theorem dX5_rounds_33 : decode cX5_rounds 33 = .ok (.iload_n 1, 1) := by decide +kernel
theorem dX5_rounds_34 : decode cX5_rounds 34 = .ok (.ireturn, 1) := by decide +kernel
theorem dX5_stays_0 : decode cX5_stays 0 = .ok (.iconst 0, 1) := by decide +kernel
theorem dX5_stays_1 : decode cX5_stays 1 = .ok (.istore_n 1, 1) := by decide +kernel
theorem dX5_stays_2 : decode cX5_stays 2 = .ok (.iconst 0, 1) := by decide +kernel
theorem dX5_stays_3 : decode cX5_stays 3 = .ok (.istore_n 2, 1) := by decide +kernel
theorem dX5_stays_4 : decode cX5_stays 4 = .ok (.iload_n 2, 1) := by decide +kernel
theorem dX5_stays_5 : decode cX5_stays 5 = .ok (.bipush 24, 2) := by decide +kernel
theorem dX5_stays_7 : decode cX5_stays 7 = .ok (.if_icmp .ge 29, 3) := by decide +kernel
theorem dX5_stays_10 : decode cX5_stays 10 = .ok (.iload_n 1, 1) := by decide +kernel
theorem dX5_stays_11 : decode cX5_stays 11 = .ok (.aload_n 0, 1) := by decide +kernel
theorem dX5_stays_12 : decode cX5_stays 12 = .ok (.getfield 7, 3) := by decide +kernel
theorem dX5_stays_15 : decode cX5_stays 15 = .ok (.iconst 0, 1) := by decide +kernel
theorem dX5_stays_16 : decode cX5_stays 16 = .ok (.iload_n 2, 1) := by decide +kernel
theorem dX5_stays_17 : decode cX5_stays 17 = .ok (.iadd, 1) := by decide +kernel
theorem dX5_stays_18 : decode cX5_stays 18 = .ok (.iaload, 1) := by decide +kernel
theorem dX5_stays_19 : decode cX5_stays 19 = .ok (.iload_n 2, 1) := by decide +kernel
theorem dX5_stays_20 : decode cX5_stays 20 = .ok (.if_icmp .ne 7, 3) := by decide +kernel
theorem dX5_stays_23 : decode cX5_stays 23 = .ok (.iconst 1, 1) := by decide +kernel
theorem dX5_stays_24 : decode cX5_stays 24 = .ok (.goto 4, 3) := by decide +kernel
theorem dX5_stays_27 : decode cX5_stays 27 = .ok (.iconst 0, 1) := by decide +kernel
theorem dX5_stays_28 : decode cX5_stays 28 = .ok (.iadd, 1) := by decide +kernel
theorem dX5_stays_29 : decode cX5_stays 29 = .ok (.istore_n 1, 1) := by decide +kernel
theorem dX5_stays_30 : decode cX5_stays 30 = .ok (.iinc 2 1, 3) := by decide +kernel
theorem dX5_stays_33 : decode cX5_stays 33 = .ok (.goto (-29), 3) := by decide +kernel
theorem dX5_stays_36 : decode cX5_stays 36 = .ok (.iload_n 1, 1) := by decide +kernel
theorem dX5_stays_37 : decode cX5_stays 37 = .ok (.ireturn, 1) := by decide +kernel
theorem dX5_longest_0 : decode cX5_longest 0 = .ok (.iconst 0, 1) := by decide +kernel
theorem dX5_longest_1 : decode cX5_longest 1 = .ok (.istore_n 1, 1) := by decide +kernel
theorem dX5_longest_2 : decode cX5_longest 2 = .ok (.iconst 0, 1) := by decide +kernel
theorem dX5_longest_3 : decode cX5_longest 3 = .ok (.istore_n 2, 1) := by decide +kernel
theorem dX5_longest_4 : decode cX5_longest 4 = .ok (.iload_n 2, 1) := by decide +kernel
theorem dX5_longest_5 : decode cX5_longest 5 = .ok (.bipush 24, 2) := by decide +kernel
theorem dX5_longest_7 : decode cX5_longest 7 = .ok (.if_icmp .ge 28, 3) := by decide +kernel
theorem dX5_longest_10 : decode cX5_longest 10 = .ok (.aload_n 0, 1) := by decide +kernel
theorem dX5_longest_11 : decode cX5_longest 11 = .ok (.iload_n 2, 1) := by decide +kernel
theorem dX5_longest_12 : decode cX5_longest 12 = .ok (.invokevirtual 34, 3) := by decide +kernel
theorem dX5_longest_15 : decode cX5_longest 15 = .ok (.iload_n 1, 1) := by decide +kernel
theorem dX5_longest_16 : decode cX5_longest 16 = .ok (.if_icmp .le 11, 3) := by decide +kernel
theorem dX5_longest_19 : decode cX5_longest 19 = .ok (.aload_n 0, 1) := by decide +kernel
theorem dX5_longest_20 : decode cX5_longest 20 = .ok (.iload_n 2, 1) := by decide +kernel
theorem dX5_longest_21 : decode cX5_longest 21 = .ok (.invokevirtual 34, 3) := by decide +kernel
theorem dX5_longest_24 : decode cX5_longest 24 = .ok (.goto 4, 3) := by decide +kernel
theorem dX5_longest_27 : decode cX5_longest 27 = .ok (.iload_n 1, 1) := by decide +kernel
theorem dX5_longest_28 : decode cX5_longest 28 = .ok (.istore_n 1, 1) := by decide +kernel
theorem dX5_longest_29 : decode cX5_longest 29 = .ok (.iinc 2 1, 3) := by decide +kernel
theorem dX5_longest_32 : decode cX5_longest 32 = .ok (.goto (-28), 3) := by decide +kernel
theorem dX5_longest_35 : decode cX5_longest 35 = .ok (.iload_n 1, 1) := by decide +kernel
theorem dX5_longest_36 : decode cX5_longest 36 = .ok (.ireturn, 1) := by decide +kernel
theorem dX5_move_0 : decode cX5_move 0 = .ok (.iload_n 1, 1) := by decide +kernel
theorem dX5_move_1 : decode cX5_move 1 = .ok (.tableswitch 73 0 4 #[35, 40, 45, 50, 55], 35) := by decide +kernel
theorem dX5_move_36 : decode cX5_move 36 = .ok (.aload_n 0, 1) := by decide +kernel
theorem dX5_move_37 : decode cX5_move 37 = .ok (.invokevirtual 38, 3) := by decide +kernel
theorem dX5_move_40 : decode cX5_move 40 = .ok (.ireturn, 1) := by decide +kernel
theorem dX5_move_41 : decode cX5_move 41 = .ok (.aload_n 0, 1) := by decide +kernel
theorem dX5_move_42 : decode cX5_move 42 = .ok (.invokevirtual 136, 3) := by decide +kernel
theorem dX5_move_45 : decode cX5_move 45 = .ok (.ireturn, 1) := by decide +kernel
theorem dX5_move_46 : decode cX5_move 46 = .ok (.aload_n 0, 1) := by decide +kernel
theorem dX5_move_47 : decode cX5_move 47 = .ok (.invokevirtual 139, 3) := by decide +kernel
theorem dX5_move_50 : decode cX5_move 50 = .ok (.ireturn, 1) := by decide +kernel
theorem dX5_move_51 : decode cX5_move 51 = .ok (.aload_n 0, 1) := by decide +kernel
theorem dX5_move_52 : decode cX5_move 52 = .ok (.invokevirtual 142, 3) := by decide +kernel
theorem dX5_move_55 : decode cX5_move 55 = .ok (.ireturn, 1) := by decide +kernel
theorem dX5_move_56 : decode cX5_move 56 = .ok (.bipush 24, 2) := by decide +kernel
theorem dX5_move_58 : decode cX5_move 58 = .ok (.aload_n 0, 1) := by decide +kernel
theorem dX5_move_59 : decode cX5_move 59 = .ok (.invokevirtual 136, 3) := by decide +kernel
theorem dX5_move_62 : decode cX5_move 62 = .ok (.isub, 1) := by decide +kernel
theorem dX5_move_63 : decode cX5_move 63 = .ok (.iconst 2, 1) := by decide +kernel
theorem dX5_move_64 : decode cX5_move 64 = .ok (.irem, 1) := by decide +kernel
theorem dX5_move_65 : decode cX5_move 65 = .ok (.ifCond .ne 7, 3) := by decide +kernel
theorem dX5_move_68 : decode cX5_move 68 = .ok (.iconst 1, 1) := by decide +kernel
theorem dX5_move_69 : decode cX5_move 69 = .ok (.goto 4, 3) := by decide +kernel
theorem dX5_move_72 : decode cX5_move 72 = .ok (.iconst 0, 1) := by decide +kernel
theorem dX5_move_73 : decode cX5_move 73 = .ok (.ireturn, 1) := by decide +kernel
theorem dX5_move_74 : decode cX5_move 74 = .ok (.bipush (-2), 2) := by decide +kernel
theorem dX5_move_76 : decode cX5_move 76 = .ok (.ireturn, 1) := by decide +kernel
theorem dX5_power_0 : decode cX5_power 0 = .ok (.iload_n 1, 1) := by decide +kernel
theorem dX5_power_1 : decode cX5_power 1 = .ok (.invokestatic 45, 3) := by decide +kernel
theorem dX5_power_4 : decode cX5_power 4 = .ok (.ifCond .ne 5, 3) := by decide +kernel
theorem dX5_power_7 : decode cX5_power 7 = .ok (.iconst (-1), 1) := by decide +kernel
theorem dX5_power_8 : decode cX5_power 8 = .ok (.ireturn, 1) := by decide +kernel
theorem dX5_power_9 : decode cX5_power 9 = .ok (.iload_n 2, 1) := by decide +kernel
theorem dX5_power_10 : decode cX5_power 10 = .ok (.invokestatic 116, 3) := by decide +kernel
theorem dX5_power_13 : decode cX5_power 13 = .ok (.ifCond .ne 6, 3) := by decide +kernel
theorem dX5_power_16 : decode cX5_power 16 = .ok (.bipush (-2), 2) := by decide +kernel
theorem dX5_power_18 : decode cX5_power 18 = .ok (.ireturn, 1) := by decide +kernel
theorem dX5_power_19 : decode cX5_power 19 = .ok (.iload_n 1, 1) := by decide +kernel
theorem dX5_power_20 : decode cX5_power 20 = .ok (.istore_n 3, 1) := by decide +kernel
theorem dX5_power_21 : decode cX5_power 21 = .ok (.aload_n 0, 1) := by decide +kernel
theorem dX5_power_22 : decode cX5_power 22 = .ok (.iload_n 2, 1) := by decide +kernel
theorem dX5_power_23 : decode cX5_power 23 = .ok (.invokevirtual 109, 3) := by decide +kernel
theorem dX5_power_26 : decode cX5_power 26 = .ok (.istore 4, 2) := by decide +kernel
theorem dX5_power_28 : decode cX5_power 28 = .ok (.iload 4, 2) := by decide +kernel
theorem dX5_power_30 : decode cX5_power 30 = .ok (.ifCond .le 18, 3) := by decide +kernel
theorem dX5_power_33 : decode cX5_power 33 = .ok (.aload_n 0, 1) := by decide +kernel
theorem dX5_power_34 : decode cX5_power 34 = .ok (.getfield 7, 3) := by decide +kernel
theorem dX5_power_37 : decode cX5_power 37 = .ok (.iconst 0, 1) := by decide +kernel
theorem dX5_power_38 : decode cX5_power 38 = .ok (.iload_n 3, 1) := by decide +kernel
theorem dX5_power_39 : decode cX5_power 39 = .ok (.iadd, 1) := by decide +kernel
theorem dX5_power_40 : decode cX5_power 40 = .ok (.iaload, 1) := by decide +kernel
theorem dX5_power_41 : decode cX5_power 41 = .ok (.istore_n 3, 1) := by decide +kernel
theorem dX5_power_42 : decode cX5_power 42 = .ok (.iinc 4 (-1), 3) := by decide +kernel
theorem dX5_power_45 : decode cX5_power 45 = .ok (.goto (-17), 3) := by decide +kernel
theorem dX5_power_48 : decode cX5_power 48 = .ok (.iload_n 3, 1) := by decide +kernel
theorem dX5_power_49 : decode cX5_power 49 = .ok (.ireturn, 1) := by decide +kernel
theorem dX5_movesTo_0 : decode cX5_movesTo 0 = .ok (.aload_n 0, 1) := by decide +kernel
theorem dX5_movesTo_1 : decode cX5_movesTo 1 = .ok (.invokevirtual 38, 3) := by decide +kernel
theorem dX5_movesTo_4 : decode cX5_movesTo 4 = .ok (.istore 4, 2) := by decide +kernel
theorem dX5_movesTo_6 : decode cX5_movesTo 6 = .ok (.iload_n 3, 1) := by decide +kernel
theorem dX5_movesTo_7 : decode cX5_movesTo 7 = .ok (.ifCond .ne 7, 3) := by decide +kernel
theorem dX5_movesTo_10 : decode cX5_movesTo 10 = .ok (.iload_n 1, 1) := by decide +kernel
theorem dX5_movesTo_11 : decode cX5_movesTo 11 = .ok (.goto 8, 3) := by decide +kernel
theorem dX5_movesTo_14 : decode cX5_movesTo 14 = .ok (.aload_n 0, 1) := by decide +kernel
theorem dX5_movesTo_15 : decode cX5_movesTo 15 = .ok (.iload_n 1, 1) := by decide +kernel
theorem dX5_movesTo_16 : decode cX5_movesTo 16 = .ok (.invokevirtual 42, 3) := by decide +kernel
theorem dX5_movesTo_19 : decode cX5_movesTo 19 = .ok (.istore 5, 2) := by decide +kernel
theorem dX5_movesTo_21 : decode cX5_movesTo 21 = .ok (.iload_n 3, 1) := by decide +kernel
theorem dX5_movesTo_22 : decode cX5_movesTo 22 = .ok (.istore 6, 2) := by decide +kernel
theorem dX5_movesTo_24 : decode cX5_movesTo 24 = .ok (.iload 6, 2) := by decide +kernel
theorem dX5_movesTo_26 : decode cX5_movesTo 26 = .ok (.iload 4, 2) := by decide +kernel
theorem dX5_movesTo_28 : decode cX5_movesTo 28 = .ok (.iload_n 3, 1) := by decide +kernel
theorem dX5_movesTo_29 : decode cX5_movesTo 29 = .ok (.iadd, 1) := by decide +kernel
theorem dX5_movesTo_30 : decode cX5_movesTo 30 = .ok (.if_icmp .ge 26, 3) := by decide +kernel
theorem dX5_movesTo_33 : decode cX5_movesTo 33 = .ok (.iload 5, 2) := by decide +kernel
theorem dX5_movesTo_35 : decode cX5_movesTo 35 = .ok (.iload_n 2, 1) := by decide +kernel
theorem dX5_movesTo_36 : decode cX5_movesTo 36 = .ok (.if_icmp .ne 6, 3) := by decide +kernel
theorem dX5_movesTo_39 : decode cX5_movesTo 39 = .ok (.iload 6, 2) := by decide +kernel
theorem dX5_movesTo_41 : decode cX5_movesTo 41 = .ok (.ireturn, 1) := by decide +kernel
theorem dX5_movesTo_42 : decode cX5_movesTo 42 = .ok (.aload_n 0, 1) := by decide +kernel
theorem dX5_movesTo_43 : decode cX5_movesTo 43 = .ok (.iload 5, 2) := by decide +kernel
theorem dX5_movesTo_45 : decode cX5_movesTo 45 = .ok (.invokevirtual 42, 3) := by decide +kernel
theorem dX5_movesTo_48 : decode cX5_movesTo 48 = .ok (.istore 5, 2) := by decide +kernel
theorem dX5_movesTo_50 : decode cX5_movesTo 50 = .ok (.iinc 6 1, 3) := by decide +kernel
theorem dX5_movesTo_53 : decode cX5_movesTo 53 = .ok (.goto (-29), 3) := by decide +kernel
theorem dX5_movesTo_56 : decode cX5_movesTo 56 = .ok (.bipush (-5), 2) := by decide +kernel
theorem dX5_movesTo_58 : decode cX5_movesTo 58 = .ok (.ireturn, 1) := by decide +kernel
theorem dX5_ticket_0 : decode cX5_ticket 0 = .ok (.aload_n 0, 1) := by decide +kernel
theorem dX5_ticket_1 : decode cX5_ticket 1 = .ok (.iload_n 1, 1) := by decide +kernel
theorem dX5_ticket_2 : decode cX5_ticket 2 = .ok (.invokevirtual 103, 3) := by decide +kernel
theorem dX5_ticket_5 : decode cX5_ticket 5 = .ok (.ifCond .ne 5, 3) := by decide +kernel
theorem dX5_ticket_8 : decode cX5_ticket 8 = .ok (.iconst (-1), 1) := by decide +kernel
theorem dX5_ticket_9 : decode cX5_ticket 9 = .ok (.ireturn, 1) := by decide +kernel
theorem dX5_ticket_10 : decode cX5_ticket 10 = .ok (.aload_n 0, 1) := by decide +kernel
theorem dX5_ticket_11 : decode cX5_ticket 11 = .ok (.getfield 7, 3) := by decide +kernel
theorem dX5_ticket_14 : decode cX5_ticket 14 = .ok (.bipush 25, 2) := by decide +kernel
theorem dX5_ticket_16 : decode cX5_ticket 16 = .ok (.iload_n 1, 1) := by decide +kernel
theorem dX5_ticket_17 : decode cX5_ticket 17 = .ok (.iadd, 1) := by decide +kernel
theorem dX5_ticket_18 : decode cX5_ticket 18 = .ok (.iaload, 1) := by decide +kernel
theorem dX5_ticket_19 : decode cX5_ticket 19 = .ok (.istore_n 3, 1) := by decide +kernel
theorem dX5_ticket_20 : decode cX5_ticket 20 = .ok (.aload_n 0, 1) := by decide +kernel
theorem dX5_ticket_21 : decode cX5_ticket 21 = .ok (.getfield 7, 3) := by decide +kernel
theorem dX5_ticket_24 : decode cX5_ticket 24 = .ok (.bipush 37, 2) := by decide +kernel
theorem dX5_ticket_26 : decode cX5_ticket 26 = .ok (.iload_n 1, 1) := by decide +kernel
theorem dX5_ticket_27 : decode cX5_ticket 27 = .ok (.iadd, 1) := by decide +kernel
theorem dX5_ticket_28 : decode cX5_ticket 28 = .ok (.iaload, 1) := by decide +kernel
theorem dX5_ticket_29 : decode cX5_ticket 29 = .ok (.istore 4, 2) := by decide +kernel
theorem dX5_ticket_31 : decode cX5_ticket 31 = .ok (.iload_n 2, 1) := by decide +kernel
theorem dX5_ticket_32 : decode cX5_ticket 32 = .ok (.tableswitch 122 0 8 #[52, 54, 57, 64, 71, 76, 90, 98, 112], 52) := by decide +kernel
theorem dX5_ticket_84 : decode cX5_ticket 84 = .ok (.iload_n 3, 1) := by decide +kernel
theorem dX5_ticket_85 : decode cX5_ticket 85 = .ok (.ireturn, 1) := by decide +kernel
theorem dX5_ticket_86 : decode cX5_ticket 86 = .ok (.iload 4, 2) := by decide +kernel
theorem dX5_ticket_88 : decode cX5_ticket 88 = .ok (.ireturn, 1) := by decide +kernel
theorem dX5_ticket_89 : decode cX5_ticket 89 = .ok (.iload_n 3, 1) := by decide +kernel
theorem dX5_ticket_90 : decode cX5_ticket 90 = .ok (.iload 4, 2) := by decide +kernel
theorem dX5_ticket_92 : decode cX5_ticket 92 = .ok (.iconst (-1), 1) := by decide +kernel
theorem dX5_ticket_93 : decode cX5_ticket 93 = .ok (.ixor, 1) := by decide +kernel
theorem dX5_ticket_94 : decode cX5_ticket 94 = .ok (.iand, 1) := by decide +kernel
theorem dX5_ticket_95 : decode cX5_ticket 95 = .ok (.ireturn, 1) := by decide +kernel
theorem dX5_ticket_96 : decode cX5_ticket 96 = .ok (.iload 4, 2) := by decide +kernel
theorem dX5_ticket_98 : decode cX5_ticket 98 = .ok (.iload_n 3, 1) := by decide +kernel
theorem dX5_ticket_99 : decode cX5_ticket 99 = .ok (.iconst (-1), 1) := by decide +kernel
theorem dX5_ticket_100 : decode cX5_ticket 100 = .ok (.ixor, 1) := by decide +kernel
theorem dX5_ticket_101 : decode cX5_ticket 101 = .ok (.iand, 1) := by decide +kernel
theorem dX5_ticket_102 : decode cX5_ticket 102 = .ok (.ireturn, 1) := by decide +kernel
theorem dX5_ticket_103 : decode cX5_ticket 103 = .ok (.iload_n 3, 1) := by decide +kernel
theorem dX5_ticket_104 : decode cX5_ticket 104 = .ok (.invokestatic 100, 3) := by decide +kernel
theorem dX5_ticket_107 : decode cX5_ticket 107 = .ok (.ireturn, 1) := by decide +kernel
theorem dX5_ticket_108 : decode cX5_ticket 108 = .ok (.aload_n 0, 1) := by decide +kernel
theorem dX5_ticket_109 : decode cX5_ticket 109 = .ok (.iload_n 1, 1) := by decide +kernel
theorem dX5_ticket_110 : decode cX5_ticket 110 = .ok (.invokevirtual 106, 3) := by decide +kernel
theorem dX5_ticket_113 : decode cX5_ticket 113 = .ok (.ifCond .eq 7, 3) := by decide +kernel
theorem dX5_ticket_116 : decode cX5_ticket 116 = .ok (.iconst 1, 1) := by decide +kernel
theorem dX5_ticket_117 : decode cX5_ticket 117 = .ok (.goto 4, 3) := by decide +kernel
theorem dX5_ticket_120 : decode cX5_ticket 120 = .ok (.iconst 0, 1) := by decide +kernel
theorem dX5_ticket_121 : decode cX5_ticket 121 = .ok (.ireturn, 1) := by decide +kernel
theorem dX5_ticket_122 : decode cX5_ticket 122 = .ok (.aload_n 0, 1) := by decide +kernel
theorem dX5_ticket_123 : decode cX5_ticket 123 = .ok (.iload_n 3, 1) := by decide +kernel
theorem dX5_ticket_124 : decode cX5_ticket 124 = .ok (.iload_n 3, 1) := by decide +kernel
theorem dX5_ticket_125 : decode cX5_ticket 125 = .ok (.iconst 1, 1) := by decide +kernel
theorem dX5_ticket_126 : decode cX5_ticket 126 = .ok (.invokevirtual 145, 3) := by decide +kernel
theorem dX5_ticket_129 : decode cX5_ticket 129 = .ok (.ireturn, 1) := by decide +kernel
theorem dX5_ticket_130 : decode cX5_ticket 130 = .ok (.aload_n 0, 1) := by decide +kernel
theorem dX5_ticket_131 : decode cX5_ticket 131 = .ok (.iload_n 1, 1) := by decide +kernel
theorem dX5_ticket_132 : decode cX5_ticket 132 = .ok (.invokevirtual 123, 3) := by decide +kernel
theorem dX5_ticket_135 : decode cX5_ticket 135 = .ok (.ifCond .eq 7, 3) := by decide +kernel
theorem dX5_ticket_138 : decode cX5_ticket 138 = .ok (.iconst 1, 1) := by decide +kernel
theorem dX5_ticket_139 : decode cX5_ticket 139 = .ok (.goto 4, 3) := by decide +kernel
theorem dX5_ticket_142 : decode cX5_ticket 142 = .ok (.iconst 0, 1) := by decide +kernel
theorem dX5_ticket_143 : decode cX5_ticket 143 = .ok (.ireturn, 1) := by decide +kernel
theorem dX5_ticket_144 : decode cX5_ticket 144 = .ok (.aload_n 0, 1) := by decide +kernel
theorem dX5_ticket_145 : decode cX5_ticket 145 = .ok (.getfield 7, 3) := by decide +kernel
theorem dX5_ticket_148 : decode cX5_ticket 148 = .ok (.bipush 50, 2) := by decide +kernel
theorem dX5_ticket_150 : decode cX5_ticket 150 = .ok (.iload_n 1, 1) := by decide +kernel
theorem dX5_ticket_151 : decode cX5_ticket 151 = .ok (.iadd, 1) := by decide +kernel
theorem dX5_ticket_152 : decode cX5_ticket 152 = .ok (.iaload, 1) := by decide +kernel
theorem dX5_ticket_153 : decode cX5_ticket 153 = .ok (.ireturn, 1) := by decide +kernel
theorem dX5_ticket_154 : decode cX5_ticket 154 = .ok (.bipush (-2), 2) := by decide +kernel
theorem dX5_ticket_156 : decode cX5_ticket 156 = .ok (.ireturn, 1) := by decide +kernel
theorem dX5_alikeIn_0 : decode cX5_alikeIn 0 = .ok (.aload_n 0, 1) := by decide +kernel
theorem dX5_alikeIn_1 : decode cX5_alikeIn 1 = .ok (.iload_n 1, 1) := by decide +kernel
theorem dX5_alikeIn_2 : decode cX5_alikeIn 2 = .ok (.invokevirtual 103, 3) := by decide +kernel
theorem dX5_alikeIn_5 : decode cX5_alikeIn 5 = .ok (.ifCond .eq 37, 3) := by decide +kernel
theorem dX5_alikeIn_8 : decode cX5_alikeIn 8 = .ok (.aload_n 0, 1) := by decide +kernel
theorem dX5_alikeIn_9 : decode cX5_alikeIn 9 = .ok (.iload_n 2, 1) := by decide +kernel
theorem dX5_alikeIn_10 : decode cX5_alikeIn 10 = .ok (.invokevirtual 103, 3) := by decide +kernel
theorem dX5_alikeIn_13 : decode cX5_alikeIn 13 = .ok (.ifCond .eq 29, 3) := by decide +kernel
theorem dX5_alikeIn_16 : decode cX5_alikeIn 16 = .ok (.aload_n 0, 1) := by decide +kernel
theorem dX5_alikeIn_17 : decode cX5_alikeIn 17 = .ok (.aload_n 0, 1) := by decide +kernel
theorem dX5_alikeIn_18 : decode cX5_alikeIn 18 = .ok (.getfield 7, 3) := by decide +kernel
theorem dX5_alikeIn_21 : decode cX5_alikeIn 21 = .ok (.bipush 25, 2) := by decide +kernel
theorem dX5_alikeIn_23 : decode cX5_alikeIn 23 = .ok (.iload_n 1, 1) := by decide +kernel
theorem dX5_alikeIn_24 : decode cX5_alikeIn 24 = .ok (.iadd, 1) := by decide +kernel
theorem dX5_alikeIn_25 : decode cX5_alikeIn 25 = .ok (.iaload, 1) := by decide +kernel
theorem dX5_alikeIn_26 : decode cX5_alikeIn 26 = .ok (.aload_n 0, 1) := by decide +kernel
theorem dX5_alikeIn_27 : decode cX5_alikeIn 27 = .ok (.getfield 7, 3) := by decide +kernel
theorem dX5_alikeIn_30 : decode cX5_alikeIn 30 = .ok (.bipush 25, 2) := by decide +kernel
theorem dX5_alikeIn_32 : decode cX5_alikeIn 32 = .ok (.iload_n 2, 1) := by decide +kernel
theorem dX5_alikeIn_33 : decode cX5_alikeIn 33 = .ok (.iadd, 1) := by decide +kernel
theorem dX5_alikeIn_34 : decode cX5_alikeIn 34 = .ok (.iaload, 1) := by decide +kernel
theorem dX5_alikeIn_35 : decode cX5_alikeIn 35 = .ok (.iconst 0, 1) := by decide +kernel
theorem dX5_alikeIn_36 : decode cX5_alikeIn 36 = .ok (.invokevirtual 145, 3) := by decide +kernel
theorem dX5_alikeIn_39 : decode cX5_alikeIn 39 = .ok (.goto 4, 3) := by decide +kernel
theorem dX5_alikeIn_42 : decode cX5_alikeIn 42 = .ok (.iconst (-1), 1) := by decide +kernel
theorem dX5_alikeIn_43 : decode cX5_alikeIn 43 = .ok (.ireturn, 1) := by decide +kernel
theorem dX5_meetsIn_0 : decode cX5_meetsIn 0 = .ok (.aload_n 0, 1) := by decide +kernel
theorem dX5_meetsIn_1 : decode cX5_meetsIn 1 = .ok (.iload_n 1, 1) := by decide +kernel
theorem dX5_meetsIn_2 : decode cX5_meetsIn 2 = .ok (.invokevirtual 103, 3) := by decide +kernel
theorem dX5_meetsIn_5 : decode cX5_meetsIn 5 = .ok (.ifCond .eq 11, 3) := by decide +kernel
theorem dX5_meetsIn_8 : decode cX5_meetsIn 8 = .ok (.aload_n 0, 1) := by decide +kernel
theorem dX5_meetsIn_9 : decode cX5_meetsIn 9 = .ok (.iload_n 2, 1) := by decide +kernel
theorem dX5_meetsIn_10 : decode cX5_meetsIn 10 = .ok (.invokevirtual 103, 3) := by decide +kernel
theorem dX5_meetsIn_13 : decode cX5_meetsIn 13 = .ok (.ifCond .ne 5, 3) := by decide +kernel
theorem dX5_meetsIn_16 : decode cX5_meetsIn 16 = .ok (.iconst (-1), 1) := by decide +kernel
theorem dX5_meetsIn_17 : decode cX5_meetsIn 17 = .ok (.ireturn, 1) := by decide +kernel
theorem dX5_meetsIn_18 : decode cX5_meetsIn 18 = .ok (.aload_n 0, 1) := by decide +kernel
theorem dX5_meetsIn_19 : decode cX5_meetsIn 19 = .ok (.invokevirtual 38, 3) := by decide +kernel
theorem dX5_meetsIn_22 : decode cX5_meetsIn 22 = .ok (.istore_n 3, 1) := by decide +kernel
theorem dX5_meetsIn_23 : decode cX5_meetsIn 23 = .ok (.aload_n 0, 1) := by decide +kernel
theorem dX5_meetsIn_24 : decode cX5_meetsIn 24 = .ok (.getfield 7, 3) := by decide +kernel
theorem dX5_meetsIn_27 : decode cX5_meetsIn 27 = .ok (.bipush 25, 2) := by decide +kernel
theorem dX5_meetsIn_29 : decode cX5_meetsIn 29 = .ok (.iload_n 1, 1) := by decide +kernel
theorem dX5_meetsIn_30 : decode cX5_meetsIn 30 = .ok (.iadd, 1) := by decide +kernel
theorem dX5_meetsIn_31 : decode cX5_meetsIn 31 = .ok (.iaload, 1) := by decide +kernel
theorem dX5_meetsIn_32 : decode cX5_meetsIn 32 = .ok (.istore 4, 2) := by decide +kernel
theorem dX5_meetsIn_34 : decode cX5_meetsIn 34 = .ok (.iconst 0, 1) := by decide +kernel
theorem dX5_meetsIn_35 : decode cX5_meetsIn 35 = .ok (.istore 5, 2) := by decide +kernel
theorem dX5_meetsIn_37 : decode cX5_meetsIn 37 = .ok (.iload 5, 2) := by decide +kernel
theorem dX5_meetsIn_39 : decode cX5_meetsIn 39 = .ok (.iload_n 3, 1) := by decide +kernel
theorem dX5_meetsIn_40 : decode cX5_meetsIn 40 = .ok (.if_icmp .ge 35, 3) := by decide +kernel
theorem dX5_meetsIn_43 : decode cX5_meetsIn 43 = .ok (.iload 4, 2) := by decide +kernel
theorem dX5_meetsIn_45 : decode cX5_meetsIn 45 = .ok (.aload_n 0, 1) := by decide +kernel
theorem dX5_meetsIn_46 : decode cX5_meetsIn 46 = .ok (.getfield 7, 3) := by decide +kernel
theorem dX5_meetsIn_49 : decode cX5_meetsIn 49 = .ok (.bipush 25, 2) := by decide +kernel
theorem dX5_meetsIn_51 : decode cX5_meetsIn 51 = .ok (.iload_n 2, 1) := by decide +kernel
theorem dX5_meetsIn_52 : decode cX5_meetsIn 52 = .ok (.iadd, 1) := by decide +kernel
theorem dX5_meetsIn_53 : decode cX5_meetsIn 53 = .ok (.iaload, 1) := by decide +kernel
theorem dX5_meetsIn_54 : decode cX5_meetsIn 54 = .ok (.iand, 1) := by decide +kernel
theorem dX5_meetsIn_55 : decode cX5_meetsIn 55 = .ok (.ifCond .eq 6, 3) := by decide +kernel
theorem dX5_meetsIn_58 : decode cX5_meetsIn 58 = .ok (.iload 5, 2) := by decide +kernel
theorem dX5_meetsIn_60 : decode cX5_meetsIn 60 = .ok (.ireturn, 1) := by decide +kernel
theorem dX5_meetsIn_61 : decode cX5_meetsIn 61 = .ok (.aload_n 0, 1) := by decide +kernel
theorem dX5_meetsIn_62 : decode cX5_meetsIn 62 = .ok (.iload 4, 2) := by decide +kernel
theorem dX5_meetsIn_64 : decode cX5_meetsIn 64 = .ok (.invokevirtual 42, 3) := by decide +kernel
theorem dX5_meetsIn_67 : decode cX5_meetsIn 67 = .ok (.istore 4, 2) := by decide +kernel
theorem dX5_meetsIn_69 : decode cX5_meetsIn 69 = .ok (.iinc 5 1, 3) := by decide +kernel
theorem dX5_meetsIn_72 : decode cX5_meetsIn 72 = .ok (.goto (-35), 3) := by decide +kernel
theorem dX5_meetsIn_75 : decode cX5_meetsIn 75 = .ok (.bipush (-5), 2) := by decide +kernel
theorem dX5_meetsIn_77 : decode cX5_meetsIn 77 = .ok (.ireturn, 1) := by decide +kernel
theorem dX5_reason_0 : decode cX5_reason 0 = .ok (.aload_n 0, 1) := by decide +kernel
theorem dX5_reason_1 : decode cX5_reason 1 = .ok (.iload_n 1, 1) := by decide +kernel
theorem dX5_reason_2 : decode cX5_reason 2 = .ok (.invokevirtual 103, 3) := by decide +kernel
theorem dX5_reason_5 : decode cX5_reason 5 = .ok (.ifCond .eq 11, 3) := by decide +kernel
theorem dX5_reason_8 : decode cX5_reason 8 = .ok (.aload_n 0, 1) := by decide +kernel
theorem dX5_reason_9 : decode cX5_reason 9 = .ok (.iload_n 2, 1) := by decide +kernel
theorem dX5_reason_10 : decode cX5_reason 10 = .ok (.invokevirtual 103, 3) := by decide +kernel
theorem dX5_reason_13 : decode cX5_reason 13 = .ok (.ifCond .ne 5, 3) := by decide +kernel
theorem dX5_reason_16 : decode cX5_reason 16 = .ok (.iconst (-1), 1) := by decide +kernel
theorem dX5_reason_17 : decode cX5_reason 17 = .ok (.ireturn, 1) := by decide +kernel
theorem dX5_reason_18 : decode cX5_reason 18 = .ok (.aload_n 0, 1) := by decide +kernel
theorem dX5_reason_19 : decode cX5_reason 19 = .ok (.getfield 7, 3) := by decide +kernel
theorem dX5_reason_22 : decode cX5_reason 22 = .ok (.bipush 25, 2) := by decide +kernel
theorem dX5_reason_24 : decode cX5_reason 24 = .ok (.iload_n 1, 1) := by decide +kernel
theorem dX5_reason_25 : decode cX5_reason 25 = .ok (.iadd, 1) := by decide +kernel
theorem dX5_reason_26 : decode cX5_reason 26 = .ok (.iaload, 1) := by decide +kernel
theorem dX5_reason_27 : decode cX5_reason 27 = .ok (.istore_n 3, 1) := by decide +kernel
theorem dX5_reason_28 : decode cX5_reason 28 = .ok (.aload_n 0, 1) := by decide +kernel
theorem dX5_reason_29 : decode cX5_reason 29 = .ok (.getfield 7, 3) := by decide +kernel
theorem dX5_reason_32 : decode cX5_reason 32 = .ok (.bipush 25, 2) := by decide +kernel
theorem dX5_reason_34 : decode cX5_reason 34 = .ok (.iload_n 2, 1) := by decide +kernel
theorem dX5_reason_35 : decode cX5_reason 35 = .ok (.iadd, 1) := by decide +kernel
theorem dX5_reason_36 : decode cX5_reason 36 = .ok (.iaload, 1) := by decide +kernel
theorem dX5_reason_37 : decode cX5_reason 37 = .ok (.istore 4, 2) := by decide +kernel
theorem dX5_reason_39 : decode cX5_reason 39 = .ok (.iload_n 3, 1) := by decide +kernel
theorem dX5_reason_40 : decode cX5_reason 40 = .ok (.invokestatic 100, 3) := by decide +kernel
theorem dX5_reason_43 : decode cX5_reason 43 = .ok (.iload 4, 2) := by decide +kernel
theorem dX5_reason_45 : decode cX5_reason 45 = .ok (.invokestatic 100, 3) := by decide +kernel
theorem dX5_reason_48 : decode cX5_reason 48 = .ok (.if_icmp .eq 5, 3) := by decide +kernel
theorem dX5_reason_51 : decode cX5_reason 51 = .ok (.iconst 1, 1) := by decide +kernel
theorem dX5_reason_52 : decode cX5_reason 52 = .ok (.ireturn, 1) := by decide +kernel
theorem dX5_reason_53 : decode cX5_reason 53 = .ok (.iconst 1, 1) := by decide +kernel
theorem dX5_reason_54 : decode cX5_reason 54 = .ok (.istore 5, 2) := by decide +kernel
theorem dX5_reason_56 : decode cX5_reason 56 = .ok (.iconst 0, 1) := by decide +kernel
theorem dX5_reason_57 : decode cX5_reason 57 = .ok (.istore 6, 2) := by decide +kernel
theorem dX5_reason_59 : decode cX5_reason 59 = .ok (.iload 6, 2) := by decide +kernel
theorem dX5_reason_61 : decode cX5_reason 61 = .ok (.bipush 24, 2) := by decide +kernel
theorem dX5_reason_63 : decode cX5_reason 63 = .ok (.if_icmp .ge 47, 3) := by decide +kernel
theorem dX5_reason_66 : decode cX5_reason 66 = .ok (.iload 5, 2) := by decide +kernel
theorem dX5_reason_68 : decode cX5_reason 68 = .ok (.ifCond .eq 33, 3) := by decide +kernel
theorem dX5_reason_71 : decode cX5_reason 71 = .ok (.iload_n 3, 1) := by decide +kernel
theorem dX5_reason_72 : decode cX5_reason 72 = .ok (.aload_n 0, 1) := by decide +kernel
theorem dX5_reason_73 : decode cX5_reason 73 = .ok (.iload 6, 2) := by decide +kernel
theorem dX5_reason_75 : decode cX5_reason 75 = .ok (.invokevirtual 149, 3) := by decide +kernel
theorem dX5_reason_78 : decode cX5_reason 78 = .ok (.iand, 1) := by decide +kernel
theorem dX5_reason_79 : decode cX5_reason 79 = .ok (.invokestatic 100, 3) := by decide +kernel
theorem dX5_reason_82 : decode cX5_reason 82 = .ok (.iload 4, 2) := by decide +kernel
theorem dX5_reason_84 : decode cX5_reason 84 = .ok (.aload_n 0, 1) := by decide +kernel
theorem dX5_reason_85 : decode cX5_reason 85 = .ok (.iload 6, 2) := by decide +kernel
theorem dX5_reason_87 : decode cX5_reason 87 = .ok (.invokevirtual 149, 3) := by decide +kernel
theorem dX5_reason_90 : decode cX5_reason 90 = .ok (.iand, 1) := by decide +kernel
theorem dX5_reason_91 : decode cX5_reason 91 = .ok (.invokestatic 100, 3) := by decide +kernel
theorem dX5_reason_94 : decode cX5_reason 94 = .ok (.if_icmp .ne 7, 3) := by decide +kernel
theorem dX5_reason_97 : decode cX5_reason 97 = .ok (.iconst 1, 1) := by decide +kernel
theorem dX5_reason_98 : decode cX5_reason 98 = .ok (.goto 4, 3) := by decide +kernel
theorem dX5_reason_101 : decode cX5_reason 101 = .ok (.iconst 0, 1) := by decide +kernel
theorem dX5_reason_102 : decode cX5_reason 102 = .ok (.istore 5, 2) := by decide +kernel
theorem dX5_reason_104 : decode cX5_reason 104 = .ok (.iinc 6 1, 3) := by decide +kernel
theorem dX5_reason_107 : decode cX5_reason 107 = .ok (.goto (-48), 3) := by decide +kernel
theorem dX5_reason_110 : decode cX5_reason 110 = .ok (.iload 5, 2) := by decide +kernel
theorem dX5_reason_112 : decode cX5_reason 112 = .ok (.ifCond .ne 7, 3) := by decide +kernel
theorem dX5_reason_115 : decode cX5_reason 115 = .ok (.iconst 2, 1) := by decide +kernel
theorem dX5_reason_116 : decode cX5_reason 116 = .ok (.goto 21, 3) := by decide +kernel
theorem dX5_reason_119 : decode cX5_reason 119 = .ok (.aload_n 0, 1) := by decide +kernel
theorem dX5_reason_120 : decode cX5_reason 120 = .ok (.iload_n 3, 1) := by decide +kernel
theorem dX5_reason_121 : decode cX5_reason 121 = .ok (.iload 4, 2) := by decide +kernel
theorem dX5_reason_123 : decode cX5_reason 123 = .ok (.iconst 0, 1) := by decide +kernel
theorem dX5_reason_124 : decode cX5_reason 124 = .ok (.invokevirtual 145, 3) := by decide +kernel
theorem dX5_reason_127 : decode cX5_reason 127 = .ok (.bipush (-5), 2) := by decide +kernel
theorem dX5_reason_129 : decode cX5_reason 129 = .ok (.if_icmp .ne 7, 3) := by decide +kernel
theorem dX5_reason_132 : decode cX5_reason 132 = .ok (.iconst 3, 1) := by decide +kernel
theorem dX5_reason_133 : decode cX5_reason 133 = .ok (.goto 4, 3) := by decide +kernel
theorem dX5_reason_136 : decode cX5_reason 136 = .ok (.iconst 0, 1) := by decide +kernel
theorem dX5_reason_137 : decode cX5_reason 137 = .ok (.ireturn, 1) := by decide +kernel
theorem dX5_kin_0 : decode cX5_kin 0 = .ok (.aload_n 0, 1) := by decide +kernel
theorem dX5_kin_1 : decode cX5_kin 1 = .ok (.iload_n 1, 1) := by decide +kernel
theorem dX5_kin_2 : decode cX5_kin 2 = .ok (.invokevirtual 103, 3) := by decide +kernel
theorem dX5_kin_5 : decode cX5_kin 5 = .ok (.ifCond .ne 5, 3) := by decide +kernel
theorem dX5_kin_8 : decode cX5_kin 8 = .ok (.iconst (-1), 1) := by decide +kernel
theorem dX5_kin_9 : decode cX5_kin 9 = .ok (.ireturn, 1) := by decide +kernel
theorem dX5_kin_10 : decode cX5_kin 10 = .ok (.iconst 0, 1) := by decide +kernel
theorem dX5_kin_11 : decode cX5_kin 11 = .ok (.istore_n 2, 1) := by decide +kernel
theorem dX5_kin_12 : decode cX5_kin 12 = .ok (.iconst 0, 1) := by decide +kernel
theorem dX5_kin_13 : decode cX5_kin 13 = .ok (.istore_n 3, 1) := by decide +kernel
theorem dX5_kin_14 : decode cX5_kin 14 = .ok (.iload_n 3, 1) := by decide +kernel
theorem dX5_kin_15 : decode cX5_kin 15 = .ok (.aload_n 0, 1) := by decide +kernel
theorem dX5_kin_16 : decode cX5_kin 16 = .ok (.getfield 7, 3) := by decide +kernel
theorem dX5_kin_19 : decode cX5_kin 19 = .ok (.bipush 24, 2) := by decide +kernel
theorem dX5_kin_21 : decode cX5_kin 21 = .ok (.iaload, 1) := by decide +kernel
theorem dX5_kin_22 : decode cX5_kin 22 = .ok (.if_icmp .ge 47, 3) := by decide +kernel
theorem dX5_kin_25 : decode cX5_kin 25 = .ok (.iload_n 2, 1) := by decide +kernel
theorem dX5_kin_26 : decode cX5_kin 26 = .ok (.aload_n 0, 1) := by decide +kernel
theorem dX5_kin_27 : decode cX5_kin 27 = .ok (.aload_n 0, 1) := by decide +kernel
theorem dX5_kin_28 : decode cX5_kin 28 = .ok (.getfield 7, 3) := by decide +kernel
theorem dX5_kin_31 : decode cX5_kin 31 = .ok (.bipush 25, 2) := by decide +kernel
theorem dX5_kin_33 : decode cX5_kin 33 = .ok (.iload_n 3, 1) := by decide +kernel
theorem dX5_kin_34 : decode cX5_kin 34 = .ok (.iadd, 1) := by decide +kernel
theorem dX5_kin_35 : decode cX5_kin 35 = .ok (.iaload, 1) := by decide +kernel
theorem dX5_kin_36 : decode cX5_kin 36 = .ok (.aload_n 0, 1) := by decide +kernel
theorem dX5_kin_37 : decode cX5_kin 37 = .ok (.getfield 7, 3) := by decide +kernel
theorem dX5_kin_40 : decode cX5_kin 40 = .ok (.bipush 25, 2) := by decide +kernel
theorem dX5_kin_42 : decode cX5_kin 42 = .ok (.iload_n 1, 1) := by decide +kernel
theorem dX5_kin_43 : decode cX5_kin 43 = .ok (.iadd, 1) := by decide +kernel
theorem dX5_kin_44 : decode cX5_kin 44 = .ok (.iaload, 1) := by decide +kernel
theorem dX5_kin_45 : decode cX5_kin 45 = .ok (.iconst 0, 1) := by decide +kernel
theorem dX5_kin_46 : decode cX5_kin 46 = .ok (.invokevirtual 145, 3) := by decide +kernel
theorem dX5_kin_49 : decode cX5_kin 49 = .ok (.bipush (-5), 2) := by decide +kernel
theorem dX5_kin_51 : decode cX5_kin 51 = .ok (.if_icmp .ne 7, 3) := by decide +kernel
theorem dX5_kin_54 : decode cX5_kin 54 = .ok (.iconst 0, 1) := by decide +kernel
theorem dX5_kin_55 : decode cX5_kin 55 = .ok (.goto 6, 3) := by decide +kernel
theorem dX5_kin_58 : decode cX5_kin 58 = .ok (.iconst 1, 1) := by decide +kernel
theorem dX5_kin_59 : decode cX5_kin 59 = .ok (.iload_n 3, 1) := by decide +kernel
theorem dX5_kin_60 : decode cX5_kin 60 = .ok (.ishl, 1) := by decide +kernel
theorem dX5_kin_61 : decode cX5_kin 61 = .ok (.ior, 1) := by decide +kernel
theorem dX5_kin_62 : decode cX5_kin 62 = .ok (.istore_n 2, 1) := by decide +kernel
theorem dX5_kin_63 : decode cX5_kin 63 = .ok (.iinc 3 1, 3) := by decide +kernel
theorem dX5_kin_66 : decode cX5_kin 66 = .ok (.goto (-52), 3) := by decide +kernel
theorem dX5_kin_69 : decode cX5_kin 69 = .ok (.iload_n 2, 1) := by decide +kernel
theorem dX5_kin_70 : decode cX5_kin 70 = .ok (.ireturn, 1) := by decide +kernel
theorem dX5_lightBut_0 : decode cX5_lightBut 0 = .ok (.ldc 99, 2) := by decide +kernel
theorem dX5_lightBut_2 : decode cX5_lightBut 2 = .ok (.istore_n 2, 1) := by decide +kernel
theorem dX5_lightBut_3 : decode cX5_lightBut 3 = .ok (.iconst 0, 1) := by decide +kernel
theorem dX5_lightBut_4 : decode cX5_lightBut 4 = .ok (.istore_n 3, 1) := by decide +kernel
theorem dX5_lightBut_5 : decode cX5_lightBut 5 = .ok (.iload_n 3, 1) := by decide +kernel
theorem dX5_lightBut_6 : decode cX5_lightBut 6 = .ok (.aload_n 0, 1) := by decide +kernel
theorem dX5_lightBut_7 : decode cX5_lightBut 7 = .ok (.getfield 7, 3) := by decide +kernel
theorem dX5_lightBut_10 : decode cX5_lightBut 10 = .ok (.bipush 24, 2) := by decide +kernel
theorem dX5_lightBut_12 : decode cX5_lightBut 12 = .ok (.iaload, 1) := by decide +kernel
theorem dX5_lightBut_13 : decode cX5_lightBut 13 = .ok (.if_icmp .ge 39, 3) := by decide +kernel
theorem dX5_lightBut_16 : decode cX5_lightBut 16 = .ok (.iload_n 2, 1) := by decide +kernel
theorem dX5_lightBut_17 : decode cX5_lightBut 17 = .ok (.aload_n 0, 1) := by decide +kernel
theorem dX5_lightBut_18 : decode cX5_lightBut 18 = .ok (.iload_n 3, 1) := by decide +kernel
theorem dX5_lightBut_19 : decode cX5_lightBut 19 = .ok (.invokevirtual 123, 3) := by decide +kernel
theorem dX5_lightBut_22 : decode cX5_lightBut 22 = .ok (.ifCond .eq 20, 3) := by decide +kernel
theorem dX5_lightBut_25 : decode cX5_lightBut 25 = .ok (.iload_n 3, 1) := by decide +kernel
theorem dX5_lightBut_26 : decode cX5_lightBut 26 = .ok (.iload_n 1, 1) := by decide +kernel
theorem dX5_lightBut_27 : decode cX5_lightBut 27 = .ok (.if_icmp .eq 15, 3) := by decide +kernel
theorem dX5_lightBut_30 : decode cX5_lightBut 30 = .ok (.aload_n 0, 1) := by decide +kernel
theorem dX5_lightBut_31 : decode cX5_lightBut 31 = .ok (.getfield 7, 3) := by decide +kernel
theorem dX5_lightBut_34 : decode cX5_lightBut 34 = .ok (.bipush 25, 2) := by decide +kernel
theorem dX5_lightBut_36 : decode cX5_lightBut 36 = .ok (.iload_n 3, 1) := by decide +kernel
theorem dX5_lightBut_37 : decode cX5_lightBut 37 = .ok (.iadd, 1) := by decide +kernel
theorem dX5_lightBut_38 : decode cX5_lightBut 38 = .ok (.iaload, 1) := by decide +kernel
theorem dX5_lightBut_39 : decode cX5_lightBut 39 = .ok (.goto 5, 3) := by decide +kernel
theorem dX5_lightBut_42 : decode cX5_lightBut 42 = .ok (.ldc 99, 2) := by decide +kernel
theorem dX5_lightBut_44 : decode cX5_lightBut 44 = .ok (.iand, 1) := by decide +kernel
theorem dX5_lightBut_45 : decode cX5_lightBut 45 = .ok (.istore_n 2, 1) := by decide +kernel
theorem dX5_lightBut_46 : decode cX5_lightBut 46 = .ok (.iinc 3 1, 3) := by decide +kernel
theorem dX5_lightBut_49 : decode cX5_lightBut 49 = .ok (.goto (-44), 3) := by decide +kernel
theorem dX5_lightBut_52 : decode cX5_lightBut 52 = .ok (.iload_n 2, 1) := by decide +kernel
theorem dX5_lightBut_53 : decode cX5_lightBut 53 = .ok (.ireturn, 1) := by decide +kernel
theorem dX5_lit_0 : decode cX5_lit 0 = .ok (.aload_n 0, 1) := by decide +kernel
theorem dX5_lit_1 : decode cX5_lit 1 = .ok (.getfield 7, 3) := by decide +kernel
theorem dX5_lit_4 : decode cX5_lit 4 = .ok (.bipush 49, 2) := by decide +kernel
theorem dX5_lit_6 : decode cX5_lit 6 = .ok (.iaload, 1) := by decide +kernel
theorem dX5_lit_7 : decode cX5_lit 7 = .ok (.ifCond .ne 7, 3) := by decide +kernel
theorem dX5_lit_10 : decode cX5_lit 10 = .ok (.iconst 0, 1) := by decide +kernel
theorem dX5_lit_11 : decode cX5_lit 11 = .ok (.goto 8, 3) := by decide +kernel
theorem dX5_lit_14 : decode cX5_lit 14 = .ok (.aload_n 0, 1) := by decide +kernel
theorem dX5_lit_15 : decode cX5_lit 15 = .ok (.iconst (-1), 1) := by decide +kernel
theorem dX5_lit_16 : decode cX5_lit 16 = .ok (.invokevirtual 152, 3) := by decide +kernel
theorem dX5_lit_19 : decode cX5_lit 19 = .ok (.ireturn, 1) := by decide +kernel
theorem dX5_light_0 : decode cX5_light 0 = .ok (.aload_n 0, 1) := by decide +kernel
theorem dX5_light_1 : decode cX5_light 1 = .ok (.invokevirtual 155, 3) := by decide +kernel
theorem dX5_light_4 : decode cX5_light 4 = .ok (.ireturn, 1) := by decide +kernel
theorem dX5_bestTurn_0 : decode cX5_bestTurn 0 = .ok (.aload_n 0, 1) := by decide +kernel
theorem dX5_bestTurn_1 : decode cX5_bestTurn 1 = .ok (.iload_n 1, 1) := by decide +kernel
theorem dX5_bestTurn_2 : decode cX5_bestTurn 2 = .ok (.invokevirtual 103, 3) := by decide +kernel
theorem dX5_bestTurn_5 : decode cX5_bestTurn 5 = .ok (.ifCond .ne 5, 3) := by decide +kernel
theorem dX5_bestTurn_8 : decode cX5_bestTurn 8 = .ok (.iconst (-1), 1) := by decide +kernel
theorem dX5_bestTurn_9 : decode cX5_bestTurn 9 = .ok (.ireturn, 1) := by decide +kernel
theorem dX5_bestTurn_10 : decode cX5_bestTurn 10 = .ok (.iload_n 2, 1) := by decide +kernel
theorem dX5_bestTurn_11 : decode cX5_bestTurn 11 = .ok (.iconst 0, 1) := by decide +kernel
theorem dX5_bestTurn_12 : decode cX5_bestTurn 12 = .ok (.iconst 1, 1) := by decide +kernel
theorem dX5_bestTurn_13 : decode cX5_bestTurn 13 = .ok (.invokestatic 26, 3) := by decide +kernel
theorem dX5_bestTurn_16 : decode cX5_bestTurn 16 = .ok (.ifCond .ne 6, 3) := by decide +kernel
theorem dX5_bestTurn_19 : decode cX5_bestTurn 19 = .ok (.bipush (-2), 2) := by decide +kernel
theorem dX5_bestTurn_21 : decode cX5_bestTurn 21 = .ok (.ireturn, 1) := by decide +kernel
theorem dX5_bestTurn_22 : decode cX5_bestTurn 22 = .ok (.aload_n 0, 1) := by decide +kernel
theorem dX5_bestTurn_23 : decode cX5_bestTurn 23 = .ok (.iload_n 1, 1) := by decide +kernel
theorem dX5_bestTurn_24 : decode cX5_bestTurn 24 = .ok (.invokevirtual 123, 3) := by decide +kernel
theorem dX5_bestTurn_27 : decode cX5_bestTurn 27 = .ok (.ifCond .ne 6, 3) := by decide +kernel
theorem dX5_bestTurn_30 : decode cX5_bestTurn 30 = .ok (.bipush (-4), 2) := by decide +kernel
theorem dX5_bestTurn_32 : decode cX5_bestTurn 32 = .ok (.ireturn, 1) := by decide +kernel
theorem dX5_bestTurn_33 : decode cX5_bestTurn 33 = .ok (.aload_n 0, 1) := by decide +kernel
theorem dX5_bestTurn_34 : decode cX5_bestTurn 34 = .ok (.iload_n 1, 1) := by decide +kernel
theorem dX5_bestTurn_35 : decode cX5_bestTurn 35 = .ok (.invokevirtual 152, 3) := by decide +kernel
theorem dX5_bestTurn_38 : decode cX5_bestTurn 38 = .ok (.istore_n 3, 1) := by decide +kernel
theorem dX5_bestTurn_39 : decode cX5_bestTurn 39 = .ok (.aload_n 0, 1) := by decide +kernel
theorem dX5_bestTurn_40 : decode cX5_bestTurn 40 = .ok (.invokevirtual 38, 3) := by decide +kernel
theorem dX5_bestTurn_43 : decode cX5_bestTurn 43 = .ok (.istore 4, 2) := by decide +kernel
theorem dX5_bestTurn_45 : decode cX5_bestTurn 45 = .ok (.aload_n 0, 1) := by decide +kernel
theorem dX5_bestTurn_46 : decode cX5_bestTurn 46 = .ok (.getfield 7, 3) := by decide +kernel
theorem dX5_bestTurn_49 : decode cX5_bestTurn 49 = .ok (.bipush 25, 2) := by decide +kernel
theorem dX5_bestTurn_51 : decode cX5_bestTurn 51 = .ok (.iload_n 1, 1) := by decide +kernel
theorem dX5_bestTurn_52 : decode cX5_bestTurn 52 = .ok (.iadd, 1) := by decide +kernel
theorem dX5_bestTurn_53 : decode cX5_bestTurn 53 = .ok (.iaload, 1) := by decide +kernel
theorem dX5_bestTurn_54 : decode cX5_bestTurn 54 = .ok (.istore 5, 2) := by decide +kernel
theorem dX5_bestTurn_56 : decode cX5_bestTurn 56 = .ok (.iconst 0, 1) := by decide +kernel
theorem dX5_bestTurn_57 : decode cX5_bestTurn 57 = .ok (.istore 6, 2) := by decide +kernel
theorem dX5_bestTurn_59 : decode cX5_bestTurn 59 = .ok (.iconst (-1), 1) := by decide +kernel
theorem dX5_bestTurn_60 : decode cX5_bestTurn 60 = .ok (.istore 7, 2) := by decide +kernel
theorem dX5_bestTurn_62 : decode cX5_bestTurn 62 = .ok (.iconst 0, 1) := by decide +kernel
theorem dX5_bestTurn_63 : decode cX5_bestTurn 63 = .ok (.istore 8, 2) := by decide +kernel
theorem dX5_bestTurn_65 : decode cX5_bestTurn 65 = .ok (.iload 8, 2) := by decide +kernel
theorem dX5_bestTurn_67 : decode cX5_bestTurn 67 = .ok (.iload 4, 2) := by decide +kernel
theorem dX5_bestTurn_69 : decode cX5_bestTurn 69 = .ok (.if_icmp .ge 58, 3) := by decide +kernel
theorem dX5_bestTurn_72 : decode cX5_bestTurn 72 = .ok (.iload 5, 2) := by decide +kernel
theorem dX5_bestTurn_74 : decode cX5_bestTurn 74 = .ok (.iload_n 3, 1) := by decide +kernel
theorem dX5_bestTurn_75 : decode cX5_bestTurn 75 = .ok (.iand, 1) := by decide +kernel
theorem dX5_bestTurn_76 : decode cX5_bestTurn 76 = .ok (.invokestatic 100, 3) := by decide +kernel
theorem dX5_bestTurn_79 : decode cX5_bestTurn 79 = .ok (.istore 9, 2) := by decide +kernel
theorem dX5_bestTurn_81 : decode cX5_bestTurn 81 = .ok (.iload 9, 2) := by decide +kernel
theorem dX5_bestTurn_83 : decode cX5_bestTurn 83 = .ok (.iload 7, 2) := by decide +kernel
theorem dX5_bestTurn_85 : decode cX5_bestTurn 85 = .ok (.if_icmp .le 8, 3) := by decide +kernel
theorem dX5_bestTurn_88 : decode cX5_bestTurn 88 = .ok (.iload 8, 2) := by decide +kernel
theorem dX5_bestTurn_90 : decode cX5_bestTurn 90 = .ok (.goto 5, 3) := by decide +kernel
theorem dX5_bestTurn_93 : decode cX5_bestTurn 93 = .ok (.iload 6, 2) := by decide +kernel
theorem dX5_bestTurn_95 : decode cX5_bestTurn 95 = .ok (.istore 6, 2) := by decide +kernel
theorem dX5_bestTurn_97 : decode cX5_bestTurn 97 = .ok (.iload 9, 2) := by decide +kernel
theorem dX5_bestTurn_99 : decode cX5_bestTurn 99 = .ok (.iload 7, 2) := by decide +kernel
theorem dX5_bestTurn_101 : decode cX5_bestTurn 101 = .ok (.if_icmp .le 8, 3) := by decide +kernel
theorem dX5_bestTurn_104 : decode cX5_bestTurn 104 = .ok (.iload 9, 2) := by decide +kernel
theorem dX5_bestTurn_106 : decode cX5_bestTurn 106 = .ok (.goto 5, 3) := by decide +kernel
theorem dX5_bestTurn_109 : decode cX5_bestTurn 109 = .ok (.iload 7, 2) := by decide +kernel
theorem dX5_bestTurn_111 : decode cX5_bestTurn 111 = .ok (.istore 7, 2) := by decide +kernel
theorem dX5_bestTurn_113 : decode cX5_bestTurn 113 = .ok (.aload_n 0, 1) := by decide +kernel
theorem dX5_bestTurn_114 : decode cX5_bestTurn 114 = .ok (.iload 5, 2) := by decide +kernel
theorem dX5_bestTurn_116 : decode cX5_bestTurn 116 = .ok (.invokevirtual 42, 3) := by decide +kernel
theorem dX5_bestTurn_119 : decode cX5_bestTurn 119 = .ok (.istore 5, 2) := by decide +kernel
theorem dX5_bestTurn_121 : decode cX5_bestTurn 121 = .ok (.iinc 8 1, 3) := by decide +kernel
theorem dX5_bestTurn_124 : decode cX5_bestTurn 124 = .ok (.goto (-59), 3) := by decide +kernel
theorem dX5_bestTurn_127 : decode cX5_bestTurn 127 = .ok (.iload_n 2, 1) := by decide +kernel
theorem dX5_bestTurn_128 : decode cX5_bestTurn 128 = .ok (.ifCond .ne 8, 3) := by decide +kernel
theorem dX5_bestTurn_131 : decode cX5_bestTurn 131 = .ok (.iload 6, 2) := by decide +kernel
theorem dX5_bestTurn_133 : decode cX5_bestTurn 133 = .ok (.goto 5, 3) := by decide +kernel
theorem dX5_bestTurn_136 : decode cX5_bestTurn 136 = .ok (.iload 7, 2) := by decide +kernel
theorem dX5_bestTurn_138 : decode cX5_bestTurn 138 = .ok (.ireturn, 1) := by decide +kernel
theorem dX5_allOf_0 : decode cX5_allOf 0 = .ok (.iconst 0, 1) := by decide +kernel
theorem dX5_allOf_1 : decode cX5_allOf 1 = .ok (.istore_n 2, 1) := by decide +kernel
theorem dX5_allOf_2 : decode cX5_allOf 2 = .ok (.iconst 0, 1) := by decide +kernel
theorem dX5_allOf_3 : decode cX5_allOf 3 = .ok (.istore_n 3, 1) := by decide +kernel
theorem dX5_allOf_4 : decode cX5_allOf 4 = .ok (.iload_n 3, 1) := by decide +kernel
theorem dX5_allOf_5 : decode cX5_allOf 5 = .ok (.aload_n 0, 1) := by decide +kernel
theorem dX5_allOf_6 : decode cX5_allOf 6 = .ok (.getfield 7, 3) := by decide +kernel
theorem dX5_allOf_9 : decode cX5_allOf 9 = .ok (.bipush 24, 2) := by decide +kernel
theorem dX5_allOf_11 : decode cX5_allOf 11 = .ok (.iaload, 1) := by decide +kernel
theorem dX5_allOf_12 : decode cX5_allOf 12 = .ok (.if_icmp .ge 23, 3) := by decide +kernel
theorem dX5_allOf_15 : decode cX5_allOf 15 = .ok (.iload_n 2, 1) := by decide +kernel
theorem dX5_allOf_16 : decode cX5_allOf 16 = .ok (.aload_n 0, 1) := by decide +kernel
theorem dX5_allOf_17 : decode cX5_allOf 17 = .ok (.getfield 7, 3) := by decide +kernel
theorem dX5_allOf_20 : decode cX5_allOf 20 = .ok (.iload_n 1, 1) := by decide +kernel
theorem dX5_allOf_21 : decode cX5_allOf 21 = .ok (.iload_n 3, 1) := by decide +kernel
theorem dX5_allOf_22 : decode cX5_allOf 22 = .ok (.iadd, 1) := by decide +kernel
theorem dX5_allOf_23 : decode cX5_allOf 23 = .ok (.iaload, 1) := by decide +kernel
theorem dX5_allOf_24 : decode cX5_allOf 24 = .ok (.invokestatic 100, 3) := by decide +kernel
theorem dX5_allOf_27 : decode cX5_allOf 27 = .ok (.iadd, 1) := by decide +kernel
theorem dX5_allOf_28 : decode cX5_allOf 28 = .ok (.istore_n 2, 1) := by decide +kernel
theorem dX5_allOf_29 : decode cX5_allOf 29 = .ok (.iinc 3 1, 3) := by decide +kernel
theorem dX5_allOf_32 : decode cX5_allOf 32 = .ok (.goto (-28), 3) := by decide +kernel
theorem dX5_allOf_35 : decode cX5_allOf 35 = .ok (.iload_n 2, 1) := by decide +kernel
theorem dX5_allOf_36 : decode cX5_allOf 36 = .ok (.ireturn, 1) := by decide +kernel
theorem dX5_falseOnes_0 : decode cX5_falseOnes 0 = .ok (.iconst 0, 1) := by decide +kernel
theorem dX5_falseOnes_1 : decode cX5_falseOnes 1 = .ok (.istore_n 1, 1) := by decide +kernel
theorem dX5_falseOnes_2 : decode cX5_falseOnes 2 = .ok (.iconst 0, 1) := by decide +kernel
theorem dX5_falseOnes_3 : decode cX5_falseOnes 3 = .ok (.istore_n 2, 1) := by decide +kernel
theorem dX5_falseOnes_4 : decode cX5_falseOnes 4 = .ok (.iload_n 2, 1) := by decide +kernel
theorem dX5_falseOnes_5 : decode cX5_falseOnes 5 = .ok (.aload_n 0, 1) := by decide +kernel
theorem dX5_falseOnes_6 : decode cX5_falseOnes 6 = .ok (.getfield 7, 3) := by decide +kernel
theorem dX5_falseOnes_9 : decode cX5_falseOnes 9 = .ok (.bipush 24, 2) := by decide +kernel
theorem dX5_falseOnes_11 : decode cX5_falseOnes 11 = .ok (.iaload, 1) := by decide +kernel
theorem dX5_falseOnes_12 : decode cX5_falseOnes 12 = .ok (.if_icmp .ge 25, 3) := by decide +kernel
theorem dX5_falseOnes_15 : decode cX5_falseOnes 15 = .ok (.iload_n 1, 1) := by decide +kernel
theorem dX5_falseOnes_16 : decode cX5_falseOnes 16 = .ok (.aload_n 0, 1) := by decide +kernel
theorem dX5_falseOnes_17 : decode cX5_falseOnes 17 = .ok (.iload_n 2, 1) := by decide +kernel
theorem dX5_falseOnes_18 : decode cX5_falseOnes 18 = .ok (.invokevirtual 106, 3) := by decide +kernel
theorem dX5_falseOnes_21 : decode cX5_falseOnes 21 = .ok (.ifCond .eq 7, 3) := by decide +kernel
theorem dX5_falseOnes_24 : decode cX5_falseOnes 24 = .ok (.iconst 1, 1) := by decide +kernel
theorem dX5_falseOnes_25 : decode cX5_falseOnes 25 = .ok (.goto 4, 3) := by decide +kernel
theorem dX5_falseOnes_28 : decode cX5_falseOnes 28 = .ok (.iconst 0, 1) := by decide +kernel
theorem dX5_falseOnes_29 : decode cX5_falseOnes 29 = .ok (.iadd, 1) := by decide +kernel
theorem dX5_falseOnes_30 : decode cX5_falseOnes 30 = .ok (.istore_n 1, 1) := by decide +kernel
theorem dX5_falseOnes_31 : decode cX5_falseOnes 31 = .ok (.iinc 2 1, 3) := by decide +kernel
theorem dX5_falseOnes_34 : decode cX5_falseOnes 34 = .ok (.goto (-30), 3) := by decide +kernel
theorem dX5_falseOnes_37 : decode cX5_falseOnes 37 = .ok (.iload_n 1, 1) := by decide +kernel
theorem dX5_falseOnes_38 : decode cX5_falseOnes 38 = .ok (.ireturn, 1) := by decide +kernel
theorem dX5_count_0 : decode cX5_count 0 = .ok (.iload_n 1, 1) := by decide +kernel
theorem dX5_count_1 : decode cX5_count 1 = .ok (.tableswitch 139 0 10 #[59, 67, 78, 83, 90, 97, 105, 113, 121, 129, 134], 59) := by decide +kernel
theorem dX5_count_60 : decode cX5_count 60 = .ok (.aload_n 0, 1) := by decide +kernel
theorem dX5_count_61 : decode cX5_count 61 = .ok (.getfield 7, 3) := by decide +kernel
theorem dX5_count_64 : decode cX5_count 64 = .ok (.bipush 24, 2) := by decide +kernel
theorem dX5_count_66 : decode cX5_count 66 = .ok (.iaload, 1) := by decide +kernel
theorem dX5_count_67 : decode cX5_count 67 = .ok (.ireturn, 1) := by decide +kernel
theorem dX5_count_68 : decode cX5_count 68 = .ok (.aload_n 0, 1) := by decide +kernel
theorem dX5_count_69 : decode cX5_count 69 = .ok (.getfield 7, 3) := by decide +kernel
theorem dX5_count_72 : decode cX5_count 72 = .ok (.bipush 49, 2) := by decide +kernel
theorem dX5_count_74 : decode cX5_count 74 = .ok (.iaload, 1) := by decide +kernel
theorem dX5_count_75 : decode cX5_count 75 = .ok (.invokestatic 100, 3) := by decide +kernel
theorem dX5_count_78 : decode cX5_count 78 = .ok (.ireturn, 1) := by decide +kernel
theorem dX5_count_79 : decode cX5_count 79 = .ok (.aload_n 0, 1) := by decide +kernel
theorem dX5_count_80 : decode cX5_count 80 = .ok (.invokevirtual 158, 3) := by decide +kernel
theorem dX5_count_83 : decode cX5_count 83 = .ok (.ireturn, 1) := by decide +kernel
theorem dX5_count_84 : decode cX5_count 84 = .ok (.aload_n 0, 1) := by decide +kernel
theorem dX5_count_85 : decode cX5_count 85 = .ok (.bipush 25, 2) := by decide +kernel
theorem dX5_count_87 : decode cX5_count 87 = .ok (.invokevirtual 161, 3) := by decide +kernel
theorem dX5_count_90 : decode cX5_count 90 = .ok (.ireturn, 1) := by decide +kernel
theorem dX5_count_91 : decode cX5_count 91 = .ok (.aload_n 0, 1) := by decide +kernel
theorem dX5_count_92 : decode cX5_count 92 = .ok (.bipush 37, 2) := by decide +kernel
theorem dX5_count_94 : decode cX5_count 94 = .ok (.invokevirtual 161, 3) := by decide +kernel
theorem dX5_count_97 : decode cX5_count 97 = .ok (.ireturn, 1) := by decide +kernel
theorem dX5_count_98 : decode cX5_count 98 = .ok (.aload_n 0, 1) := by decide +kernel
theorem dX5_count_99 : decode cX5_count 99 = .ok (.invokevirtual 155, 3) := by decide +kernel
theorem dX5_count_102 : decode cX5_count 102 = .ok (.invokestatic 100, 3) := by decide +kernel
theorem dX5_count_105 : decode cX5_count 105 = .ok (.ireturn, 1) := by decide +kernel
theorem dX5_count_106 : decode cX5_count 106 = .ok (.aload_n 0, 1) := by decide +kernel
theorem dX5_count_107 : decode cX5_count 107 = .ok (.getfield 7, 3) := by decide +kernel
theorem dX5_count_110 : decode cX5_count 110 = .ok (.bipush 62, 2) := by decide +kernel
theorem dX5_count_112 : decode cX5_count 112 = .ok (.iaload, 1) := by decide +kernel
theorem dX5_count_113 : decode cX5_count 113 = .ok (.ireturn, 1) := by decide +kernel
theorem dX5_count_114 : decode cX5_count 114 = .ok (.aload_n 0, 1) := by decide +kernel
theorem dX5_count_115 : decode cX5_count 115 = .ok (.getfield 7, 3) := by decide +kernel
theorem dX5_count_118 : decode cX5_count 118 = .ok (.bipush 63, 2) := by decide +kernel
theorem dX5_count_120 : decode cX5_count 120 = .ok (.iaload, 1) := by decide +kernel
theorem dX5_count_121 : decode cX5_count 121 = .ok (.ireturn, 1) := by decide +kernel
theorem dX5_count_122 : decode cX5_count 122 = .ok (.aload_n 0, 1) := by decide +kernel
theorem dX5_count_123 : decode cX5_count 123 = .ok (.getfield 7, 3) := by decide +kernel
theorem dX5_count_126 : decode cX5_count 126 = .ok (.bipush 64, 2) := by decide +kernel
theorem dX5_count_128 : decode cX5_count 128 = .ok (.iaload, 1) := by decide +kernel
theorem dX5_count_129 : decode cX5_count 129 = .ok (.ireturn, 1) := by decide +kernel
theorem dX5_count_130 : decode cX5_count 130 = .ok (.aload_n 0, 1) := by decide +kernel
theorem dX5_count_131 : decode cX5_count 131 = .ok (.getfield 30, 3) := by decide +kernel
theorem dX5_count_134 : decode cX5_count 134 = .ok (.ireturn, 1) := by decide +kernel
theorem dX5_count_135 : decode cX5_count 135 = .ok (.aload_n 0, 1) := by decide +kernel
theorem dX5_count_136 : decode cX5_count 136 = .ok (.getfield 58, 3) := by decide +kernel
theorem dX5_count_139 : decode cX5_count 139 = .ok (.ireturn, 1) := by decide +kernel
theorem dX5_count_140 : decode cX5_count 140 = .ok (.bipush (-2), 2) := by decide +kernel
theorem dX5_count_142 : decode cX5_count 142 = .ok (.ireturn, 1) := by decide +kernel
theorem dJ6_bitCount_0f7a4_0 : decode cJ6_bitCount_0f7a4 0 = .ok (.iload_n 0, 1) := by decide +kernel
theorem dJ6_bitCount_0f7a4_1 : decode cJ6_bitCount_0f7a4 1 = .ok (.iload_n 0, 1) := by decide +kernel
theorem dJ6_bitCount_0f7a4_2 : decode cJ6_bitCount_0f7a4 2 = .ok (.iconst 1, 1) := by decide +kernel
theorem dJ6_bitCount_0f7a4_3 : decode cJ6_bitCount_0f7a4 3 = .ok (.iushr, 1) := by decide +kernel
theorem dJ6_bitCount_0f7a4_4 : decode cJ6_bitCount_0f7a4 4 = .ok (.ldc_w 265, 3) := by decide +kernel
theorem dJ6_bitCount_0f7a4_7 : decode cJ6_bitCount_0f7a4 7 = .ok (.iand, 1) := by decide +kernel
theorem dJ6_bitCount_0f7a4_8 : decode cJ6_bitCount_0f7a4 8 = .ok (.isub, 1) := by decide +kernel
theorem dJ6_bitCount_0f7a4_9 : decode cJ6_bitCount_0f7a4 9 = .ok (.istore_n 0, 1) := by decide +kernel
theorem dJ6_bitCount_0f7a4_10 : decode cJ6_bitCount_0f7a4 10 = .ok (.iload_n 0, 1) := by decide +kernel
theorem dJ6_bitCount_0f7a4_11 : decode cJ6_bitCount_0f7a4 11 = .ok (.ldc_w 266, 3) := by decide +kernel
theorem dJ6_bitCount_0f7a4_14 : decode cJ6_bitCount_0f7a4 14 = .ok (.iand, 1) := by decide +kernel
theorem dJ6_bitCount_0f7a4_15 : decode cJ6_bitCount_0f7a4 15 = .ok (.iload_n 0, 1) := by decide +kernel
theorem dJ6_bitCount_0f7a4_16 : decode cJ6_bitCount_0f7a4 16 = .ok (.iconst 2, 1) := by decide +kernel
theorem dJ6_bitCount_0f7a4_17 : decode cJ6_bitCount_0f7a4 17 = .ok (.iushr, 1) := by decide +kernel
theorem dJ6_bitCount_0f7a4_18 : decode cJ6_bitCount_0f7a4 18 = .ok (.ldc_w 266, 3) := by decide +kernel
theorem dJ6_bitCount_0f7a4_21 : decode cJ6_bitCount_0f7a4 21 = .ok (.iand, 1) := by decide +kernel
theorem dJ6_bitCount_0f7a4_22 : decode cJ6_bitCount_0f7a4 22 = .ok (.iadd, 1) := by decide +kernel
theorem dJ6_bitCount_0f7a4_23 : decode cJ6_bitCount_0f7a4 23 = .ok (.istore_n 0, 1) := by decide +kernel
theorem dJ6_bitCount_0f7a4_24 : decode cJ6_bitCount_0f7a4 24 = .ok (.iload_n 0, 1) := by decide +kernel
theorem dJ6_bitCount_0f7a4_25 : decode cJ6_bitCount_0f7a4 25 = .ok (.iload_n 0, 1) := by decide +kernel
theorem dJ6_bitCount_0f7a4_26 : decode cJ6_bitCount_0f7a4 26 = .ok (.iconst 4, 1) := by decide +kernel
theorem dJ6_bitCount_0f7a4_27 : decode cJ6_bitCount_0f7a4 27 = .ok (.iushr, 1) := by decide +kernel
theorem dJ6_bitCount_0f7a4_28 : decode cJ6_bitCount_0f7a4 28 = .ok (.iadd, 1) := by decide +kernel
theorem dJ6_bitCount_0f7a4_29 : decode cJ6_bitCount_0f7a4 29 = .ok (.ldc_w 267, 3) := by decide +kernel
theorem dJ6_bitCount_0f7a4_32 : decode cJ6_bitCount_0f7a4 32 = .ok (.iand, 1) := by decide +kernel
theorem dJ6_bitCount_0f7a4_33 : decode cJ6_bitCount_0f7a4 33 = .ok (.istore_n 0, 1) := by decide +kernel
theorem dJ6_bitCount_0f7a4_34 : decode cJ6_bitCount_0f7a4 34 = .ok (.iload_n 0, 1) := by decide +kernel
theorem dJ6_bitCount_0f7a4_35 : decode cJ6_bitCount_0f7a4 35 = .ok (.iload_n 0, 1) := by decide +kernel
theorem dJ6_bitCount_0f7a4_36 : decode cJ6_bitCount_0f7a4 36 = .ok (.bipush 8, 2) := by decide +kernel
theorem dJ6_bitCount_0f7a4_38 : decode cJ6_bitCount_0f7a4 38 = .ok (.iushr, 1) := by decide +kernel
theorem dJ6_bitCount_0f7a4_39 : decode cJ6_bitCount_0f7a4 39 = .ok (.iadd, 1) := by decide +kernel
theorem dJ6_bitCount_0f7a4_40 : decode cJ6_bitCount_0f7a4 40 = .ok (.istore_n 0, 1) := by decide +kernel
theorem dJ6_bitCount_0f7a4_41 : decode cJ6_bitCount_0f7a4 41 = .ok (.iload_n 0, 1) := by decide +kernel
theorem dJ6_bitCount_0f7a4_42 : decode cJ6_bitCount_0f7a4 42 = .ok (.iload_n 0, 1) := by decide +kernel
theorem dJ6_bitCount_0f7a4_43 : decode cJ6_bitCount_0f7a4 43 = .ok (.bipush 16, 2) := by decide +kernel
theorem dJ6_bitCount_0f7a4_45 : decode cJ6_bitCount_0f7a4 45 = .ok (.iushr, 1) := by decide +kernel
theorem dJ6_bitCount_0f7a4_46 : decode cJ6_bitCount_0f7a4 46 = .ok (.iadd, 1) := by decide +kernel
theorem dJ6_bitCount_0f7a4_47 : decode cJ6_bitCount_0f7a4 47 = .ok (.istore_n 0, 1) := by decide +kernel
theorem dJ6_bitCount_0f7a4_48 : decode cJ6_bitCount_0f7a4 48 = .ok (.iload_n 0, 1) := by decide +kernel
theorem dJ6_bitCount_0f7a4_49 : decode cJ6_bitCount_0f7a4 49 = .ok (.bipush 63, 2) := by decide +kernel
theorem dJ6_bitCount_0f7a4_51 : decode cJ6_bitCount_0f7a4 51 = .ok (.iand, 1) := by decide +kernel
theorem dJ6_bitCount_0f7a4_52 : decode cJ6_bitCount_0f7a4 52 = .ok (.ireturn, 1) := by decide +kernel
theorem dJ9_floorMod_7cf53_0 : decode cJ9_floorMod_7cf53 0 = .ok (.iload_n 0, 1) := by decide +kernel
theorem dJ9_floorMod_7cf53_1 : decode cJ9_floorMod_7cf53 1 = .ok (.iload_n 1, 1) := by decide +kernel
theorem dJ9_floorMod_7cf53_2 : decode cJ9_floorMod_7cf53 2 = .ok (.irem, 1) := by decide +kernel
theorem dJ9_floorMod_7cf53_3 : decode cJ9_floorMod_7cf53 3 = .ok (.istore_n 2, 1) := by decide +kernel
theorem dJ9_floorMod_7cf53_4 : decode cJ9_floorMod_7cf53 4 = .ok (.iload_n 0, 1) := by decide +kernel
theorem dJ9_floorMod_7cf53_5 : decode cJ9_floorMod_7cf53 5 = .ok (.iload_n 1, 1) := by decide +kernel
theorem dJ9_floorMod_7cf53_6 : decode cJ9_floorMod_7cf53 6 = .ok (.ixor, 1) := by decide +kernel
theorem dJ9_floorMod_7cf53_7 : decode cJ9_floorMod_7cf53 7 = .ok (.ifCond .ge 11, 3) := by decide +kernel
theorem dJ9_floorMod_7cf53_10 : decode cJ9_floorMod_7cf53 10 = .ok (.iload_n 2, 1) := by decide +kernel
theorem dJ9_floorMod_7cf53_11 : decode cJ9_floorMod_7cf53 11 = .ok (.ifCond .eq 7, 3) := by decide +kernel
theorem dJ9_floorMod_7cf53_14 : decode cJ9_floorMod_7cf53 14 = .ok (.iload_n 2, 1) := by decide +kernel
theorem dJ9_floorMod_7cf53_15 : decode cJ9_floorMod_7cf53 15 = .ok (.iload_n 1, 1) := by decide +kernel
theorem dJ9_floorMod_7cf53_16 : decode cJ9_floorMod_7cf53 16 = .ok (.iadd, 1) := by decide +kernel
theorem dJ9_floorMod_7cf53_17 : decode cJ9_floorMod_7cf53 17 = .ok (.ireturn, 1) := by decide +kernel
theorem dJ9_floorMod_7cf53_18 : decode cJ9_floorMod_7cf53 18 = .ok (.iload_n 2, 1) := by decide +kernel
theorem dJ9_floorMod_7cf53_19 : decode cJ9_floorMod_7cf53 19 = .ok (.ireturn, 1) := by decide +kernel
theorem dJ9_max_7cf53_0 : decode cJ9_max_7cf53 0 = .ok (.iload_n 0, 1) := by decide +kernel
theorem dJ9_max_7cf53_1 : decode cJ9_max_7cf53 1 = .ok (.iload_n 1, 1) := by decide +kernel
theorem dJ9_max_7cf53_2 : decode cJ9_max_7cf53 2 = .ok (.if_icmp .lt 7, 3) := by decide +kernel
theorem dJ9_max_7cf53_5 : decode cJ9_max_7cf53 5 = .ok (.iload_n 0, 1) := by decide +kernel
theorem dJ9_max_7cf53_6 : decode cJ9_max_7cf53 6 = .ok (.goto 4, 3) := by decide +kernel
theorem dJ9_max_7cf53_9 : decode cJ9_max_7cf53 9 = .ok (.iload_n 1, 1) := by decide +kernel
theorem dJ9_max_7cf53_10 : decode cJ9_max_7cf53 10 = .ok (.ireturn, 1) := by decide +kernel
theorem dJ9_min_7cf53_0 : decode cJ9_min_7cf53 0 = .ok (.iload_n 0, 1) := by decide +kernel
theorem dJ9_min_7cf53_1 : decode cJ9_min_7cf53 1 = .ok (.iload_n 1, 1) := by decide +kernel
theorem dJ9_min_7cf53_2 : decode cJ9_min_7cf53 2 = .ok (.if_icmp .gt 7, 3) := by decide +kernel
theorem dJ9_min_7cf53_5 : decode cJ9_min_7cf53 5 = .ok (.iload_n 0, 1) := by decide +kernel
theorem dJ9_min_7cf53_6 : decode cJ9_min_7cf53 6 = .ok (.goto 4, 3) := by decide +kernel
theorem dJ9_min_7cf53_9 : decode cJ9_min_7cf53 9 = .ok (.iload_n 1, 1) := by decide +kernel
theorem dJ9_min_7cf53_10 : decode cJ9_min_7cf53 10 = .ok (.ireturn, 1) := by decide +kernel
theorem dL_law_0 : decode cL_law 0 = .ok (.new 7, 3) := by decide +kernel
theorem dL_law_3 : decode cL_law 3 = .ok (.dup, 1) := by decide +kernel
theorem dL_law_4 : decode cL_law 4 = .ok (.invokespecial 9, 3) := by decide +kernel
theorem dL_law_7 : decode cL_law 7 = .ok (.astore_n 1, 1) := by decide +kernel
theorem dL_law_8 : decode cL_law 8 = .ok (.new 10, 3) := by decide +kernel
theorem dL_law_11 : decode cL_law 11 = .ok (.dup, 1) := by decide +kernel
theorem dL_law_12 : decode cL_law 12 = .ok (.invokespecial 12, 3) := by decide +kernel
theorem dL_law_15 : decode cL_law 15 = .ok (.astore_n 2, 1) := by decide +kernel
theorem dL_law_16 : decode cL_law 16 = .ok (.iconst 0, 1) := by decide +kernel
theorem dL_law_17 : decode cL_law 17 = .ok (.istore_n 3, 1) := by decide +kernel
theorem dL_law_18 : decode cL_law 18 = .ok (.iload_n 3, 1) := by decide +kernel
theorem dL_law_19 : decode cL_law 19 = .ok (.aload_n 0, 1) := by decide +kernel
theorem dL_law_20 : decode cL_law 20 = .ok (.arraylength, 1) := by decide +kernel
theorem dL_law_21 : decode cL_law 21 = .ok (.iconst 4, 1) := by decide +kernel
theorem dL_law_22 : decode cL_law 22 = .ok (.isub, 1) := by decide +kernel
theorem dL_law_23 : decode cL_law 23 = .ok (.if_icmp .gt 854, 3) := by decide +kernel
theorem dL_law_26 : decode cL_law 26 = .ok (.aload_n 0, 1) := by decide +kernel
theorem dL_law_27 : decode cL_law 27 = .ok (.iload_n 3, 1) := by decide +kernel
theorem dL_law_28 : decode cL_law 28 = .ok (.iaload, 1) := by decide +kernel
theorem dL_law_29 : decode cL_law 29 = .ok (.bipush 31, 2) := by decide +kernel
theorem dL_law_31 : decode cL_law 31 = .ok (.iand, 1) := by decide +kernel
theorem dL_law_32 : decode cL_law 32 = .ok (.tableswitch 839 0 26 #[124, 157, 170, 183, 206, 239, 298, 321, 354, 403, 426, 451, 464, 487, 500, 513, 526, 559, 582, 615, 648, 681, 714, 747, 770, 783, 816], 124) := by decide +kernel
theorem dL_law_156 : decode cL_law 156 = .ok (.aload_n 1, 1) := by decide +kernel
theorem dL_law_157 : decode cL_law 157 = .ok (.aload_n 0, 1) := by decide +kernel
theorem dL_law_158 : decode cL_law 158 = .ok (.iload_n 3, 1) := by decide +kernel
theorem dL_law_159 : decode cL_law 159 = .ok (.iconst 1, 1) := by decide +kernel
theorem dL_law_160 : decode cL_law 160 = .ok (.iadd, 1) := by decide +kernel
theorem dL_law_161 : decode cL_law 161 = .ok (.iaload, 1) := by decide +kernel
theorem dL_law_162 : decode cL_law 162 = .ok (.aload_n 0, 1) := by decide +kernel
theorem dL_law_163 : decode cL_law 163 = .ok (.iload_n 3, 1) := by decide +kernel
theorem dL_law_164 : decode cL_law 164 = .ok (.iconst 2, 1) := by decide +kernel
theorem dL_law_165 : decode cL_law 165 = .ok (.iadd, 1) := by decide +kernel
theorem dL_law_166 : decode cL_law 166 = .ok (.iaload, 1) := by decide +kernel
theorem dL_law_167 : decode cL_law 167 = .ok (.invokevirtual 13, 3) := by decide +kernel
theorem dL_law_170 : decode cL_law 170 = .ok (.aload_n 2, 1) := by decide +kernel
theorem dL_law_171 : decode cL_law 171 = .ok (.aload_n 0, 1) := by decide +kernel
theorem dL_law_172 : decode cL_law 172 = .ok (.iload_n 3, 1) := by decide +kernel
theorem dL_law_173 : decode cL_law 173 = .ok (.iconst 1, 1) := by decide +kernel
theorem dL_law_174 : decode cL_law 174 = .ok (.iadd, 1) := by decide +kernel
theorem dL_law_175 : decode cL_law 175 = .ok (.iaload, 1) := by decide +kernel
theorem dL_law_176 : decode cL_law 176 = .ok (.aload_n 0, 1) := by decide +kernel
theorem dL_law_177 : decode cL_law 177 = .ok (.iload_n 3, 1) := by decide +kernel
theorem dL_law_178 : decode cL_law 178 = .ok (.iconst 2, 1) := by decide +kernel
theorem dL_law_179 : decode cL_law 179 = .ok (.iadd, 1) := by decide +kernel
theorem dL_law_180 : decode cL_law 180 = .ok (.iaload, 1) := by decide +kernel
theorem dL_law_181 : decode cL_law 181 = .ok (.invokevirtual 17, 3) := by decide +kernel
theorem dL_law_184 : decode cL_law 184 = .ok (.if_icmp .eq 687, 3) := by decide +kernel
theorem dL_law_187 : decode cL_law 187 = .ok (.iconst 0, 1) := by decide +kernel
theorem dL_law_188 : decode cL_law 188 = .ok (.ireturn, 1) := by decide +kernel
theorem dL_law_189 : decode cL_law 189 = .ok (.aload_n 1, 1) := by decide +kernel
theorem dL_law_190 : decode cL_law 190 = .ok (.invokevirtual 18, 3) := by decide +kernel
theorem dL_law_193 : decode cL_law 193 = .ok (.aload_n 2, 1) := by decide +kernel
theorem dL_law_194 : decode cL_law 194 = .ok (.invokevirtual 22, 3) := by decide +kernel
theorem dL_law_197 : decode cL_law 197 = .ok (.if_icmp .eq 674, 3) := by decide +kernel
theorem dL_law_200 : decode cL_law 200 = .ok (.iconst 0, 1) := by decide +kernel
theorem dL_law_201 : decode cL_law 201 = .ok (.ireturn, 1) := by decide +kernel
theorem dL_law_202 : decode cL_law 202 = .ok (.aload_n 1, 1) := by decide +kernel
theorem dL_law_203 : decode cL_law 203 = .ok (.invokevirtual 23, 3) := by decide +kernel
theorem dL_law_206 : decode cL_law 206 = .ok (.aload_n 2, 1) := by decide +kernel
theorem dL_law_207 : decode cL_law 207 = .ok (.invokevirtual 26, 3) := by decide +kernel
theorem dL_law_210 : decode cL_law 210 = .ok (.if_icmp .eq 661, 3) := by decide +kernel
theorem dL_law_213 : decode cL_law 213 = .ok (.iconst 0, 1) := by decide +kernel
theorem dL_law_214 : decode cL_law 214 = .ok (.ireturn, 1) := by decide +kernel
theorem dL_law_215 : decode cL_law 215 = .ok (.aload_n 1, 1) := by decide +kernel
theorem dL_law_216 : decode cL_law 216 = .ok (.aload_n 0, 1) := by decide +kernel
theorem dL_law_217 : decode cL_law 217 = .ok (.iload_n 3, 1) := by decide +kernel
theorem dL_law_218 : decode cL_law 218 = .ok (.iconst 1, 1) := by decide +kernel
theorem dL_law_219 : decode cL_law 219 = .ok (.iadd, 1) := by decide +kernel
theorem dL_law_220 : decode cL_law 220 = .ok (.iaload, 1) := by decide +kernel
theorem dL_law_221 : decode cL_law 221 = .ok (.invokevirtual 27, 3) := by decide +kernel
theorem dL_law_224 : decode cL_law 224 = .ok (.aload_n 2, 1) := by decide +kernel
theorem dL_law_225 : decode cL_law 225 = .ok (.aload_n 0, 1) := by decide +kernel
theorem dL_law_226 : decode cL_law 226 = .ok (.iload_n 3, 1) := by decide +kernel
theorem dL_law_227 : decode cL_law 227 = .ok (.iconst 1, 1) := by decide +kernel
theorem dL_law_228 : decode cL_law 228 = .ok (.iadd, 1) := by decide +kernel
theorem dL_law_229 : decode cL_law 229 = .ok (.iaload, 1) := by decide +kernel
theorem dL_law_230 : decode cL_law 230 = .ok (.invokevirtual 31, 3) := by decide +kernel
theorem dL_law_233 : decode cL_law 233 = .ok (.if_icmp .eq 638, 3) := by decide +kernel
theorem dL_law_236 : decode cL_law 236 = .ok (.iconst 0, 1) := by decide +kernel
theorem dL_law_237 : decode cL_law 237 = .ok (.ireturn, 1) := by decide +kernel
theorem dL_law_238 : decode cL_law 238 = .ok (.aload_n 1, 1) := by decide +kernel
theorem dL_law_239 : decode cL_law 239 = .ok (.aload_n 0, 1) := by decide +kernel
theorem dL_law_240 : decode cL_law 240 = .ok (.iload_n 3, 1) := by decide +kernel
theorem dL_law_241 : decode cL_law 241 = .ok (.iconst 1, 1) := by decide +kernel
theorem dL_law_242 : decode cL_law 242 = .ok (.iadd, 1) := by decide +kernel
theorem dL_law_243 : decode cL_law 243 = .ok (.iaload, 1) := by decide +kernel
theorem dL_law_244 : decode cL_law 244 = .ok (.aload_n 0, 1) := by decide +kernel
theorem dL_law_245 : decode cL_law 245 = .ok (.iload_n 3, 1) := by decide +kernel
theorem dL_law_246 : decode cL_law 246 = .ok (.iconst 2, 1) := by decide +kernel
theorem dL_law_247 : decode cL_law 247 = .ok (.iadd, 1) := by decide +kernel
theorem dL_law_248 : decode cL_law 248 = .ok (.iaload, 1) := by decide +kernel
theorem dL_law_249 : decode cL_law 249 = .ok (.invokevirtual 32, 3) := by decide +kernel
theorem dL_law_252 : decode cL_law 252 = .ok (.aload_n 2, 1) := by decide +kernel
theorem dL_law_253 : decode cL_law 253 = .ok (.aload_n 0, 1) := by decide +kernel
theorem dL_law_254 : decode cL_law 254 = .ok (.iload_n 3, 1) := by decide +kernel
theorem dL_law_255 : decode cL_law 255 = .ok (.iconst 1, 1) := by decide +kernel
theorem dL_law_256 : decode cL_law 256 = .ok (.iadd, 1) := by decide +kernel
theorem dL_law_257 : decode cL_law 257 = .ok (.iaload, 1) := by decide +kernel
theorem dL_law_258 : decode cL_law 258 = .ok (.aload_n 0, 1) := by decide +kernel
theorem dL_law_259 : decode cL_law 259 = .ok (.iload_n 3, 1) := by decide +kernel
theorem dL_law_260 : decode cL_law 260 = .ok (.iconst 2, 1) := by decide +kernel
theorem dL_law_261 : decode cL_law 261 = .ok (.iadd, 1) := by decide +kernel
theorem dL_law_262 : decode cL_law 262 = .ok (.iaload, 1) := by decide +kernel
theorem dL_law_263 : decode cL_law 263 = .ok (.invokevirtual 35, 3) := by decide +kernel
theorem dL_law_266 : decode cL_law 266 = .ok (.if_icmp .eq 605, 3) := by decide +kernel
theorem dL_law_269 : decode cL_law 269 = .ok (.iconst 0, 1) := by decide +kernel
theorem dL_law_270 : decode cL_law 270 = .ok (.ireturn, 1) := by decide +kernel
theorem dL_law_271 : decode cL_law 271 = .ok (.aload_n 1, 1) := by decide +kernel
theorem dL_law_272 : decode cL_law 272 = .ok (.aload_n 0, 1) := by decide +kernel
theorem dL_law_273 : decode cL_law 273 = .ok (.iload_n 3, 1) := by decide +kernel
theorem dL_law_274 : decode cL_law 274 = .ok (.iconst 1, 1) := by decide +kernel
theorem dL_law_275 : decode cL_law 275 = .ok (.iadd, 1) := by decide +kernel
theorem dL_law_276 : decode cL_law 276 = .ok (.iaload, 1) := by decide +kernel
theorem dL_law_277 : decode cL_law 277 = .ok (.aload_n 0, 1) := by decide +kernel
theorem dL_law_278 : decode cL_law 278 = .ok (.iload_n 3, 1) := by decide +kernel
theorem dL_law_279 : decode cL_law 279 = .ok (.iconst 2, 1) := by decide +kernel
theorem dL_law_280 : decode cL_law 280 = .ok (.iadd, 1) := by decide +kernel
theorem dL_law_281 : decode cL_law 281 = .ok (.iaload, 1) := by decide +kernel
theorem dL_law_282 : decode cL_law 282 = .ok (.aload_n 0, 1) := by decide +kernel
theorem dL_law_283 : decode cL_law 283 = .ok (.iload_n 3, 1) := by decide +kernel
theorem dL_law_284 : decode cL_law 284 = .ok (.iconst 3, 1) := by decide +kernel
theorem dL_law_285 : decode cL_law 285 = .ok (.iadd, 1) := by decide +kernel
theorem dL_law_286 : decode cL_law 286 = .ok (.iaload, 1) := by decide +kernel
theorem dL_law_287 : decode cL_law 287 = .ok (.ifCond .eq 7, 3) := by decide +kernel
theorem dL_law_290 : decode cL_law 290 = .ok (.iconst 1, 1) := by decide +kernel
theorem dL_law_291 : decode cL_law 291 = .ok (.goto 4, 3) := by decide +kernel
theorem dL_law_294 : decode cL_law 294 = .ok (.iconst 0, 1) := by decide +kernel
theorem dL_law_295 : decode cL_law 295 = .ok (.invokevirtual 36, 3) := by decide +kernel
theorem dL_law_298 : decode cL_law 298 = .ok (.aload_n 2, 1) := by decide +kernel
theorem dL_law_299 : decode cL_law 299 = .ok (.aload_n 0, 1) := by decide +kernel
theorem dL_law_300 : decode cL_law 300 = .ok (.iload_n 3, 1) := by decide +kernel
theorem dL_law_301 : decode cL_law 301 = .ok (.iconst 1, 1) := by decide +kernel
theorem dL_law_302 : decode cL_law 302 = .ok (.iadd, 1) := by decide +kernel
theorem dL_law_303 : decode cL_law 303 = .ok (.iaload, 1) := by decide +kernel
theorem dL_law_304 : decode cL_law 304 = .ok (.aload_n 0, 1) := by decide +kernel
theorem dL_law_305 : decode cL_law 305 = .ok (.iload_n 3, 1) := by decide +kernel
theorem dL_law_306 : decode cL_law 306 = .ok (.iconst 2, 1) := by decide +kernel
theorem dL_law_307 : decode cL_law 307 = .ok (.iadd, 1) := by decide +kernel
theorem dL_law_308 : decode cL_law 308 = .ok (.iaload, 1) := by decide +kernel
theorem dL_law_309 : decode cL_law 309 = .ok (.aload_n 0, 1) := by decide +kernel
theorem dL_law_310 : decode cL_law 310 = .ok (.iload_n 3, 1) := by decide +kernel
theorem dL_law_311 : decode cL_law 311 = .ok (.iconst 3, 1) := by decide +kernel
theorem dL_law_312 : decode cL_law 312 = .ok (.iadd, 1) := by decide +kernel
theorem dL_law_313 : decode cL_law 313 = .ok (.iaload, 1) := by decide +kernel
theorem dL_law_314 : decode cL_law 314 = .ok (.ifCond .eq 7, 3) := by decide +kernel
theorem dL_law_317 : decode cL_law 317 = .ok (.iconst 1, 1) := by decide +kernel
theorem dL_law_318 : decode cL_law 318 = .ok (.goto 4, 3) := by decide +kernel
theorem dL_law_321 : decode cL_law 321 = .ok (.iconst 0, 1) := by decide +kernel
theorem dL_law_322 : decode cL_law 322 = .ok (.invokevirtual 40, 3) := by decide +kernel
theorem dL_law_325 : decode cL_law 325 = .ok (.if_icmp .eq 546, 3) := by decide +kernel
theorem dL_law_328 : decode cL_law 328 = .ok (.iconst 0, 1) := by decide +kernel
theorem dL_law_329 : decode cL_law 329 = .ok (.ireturn, 1) := by decide +kernel
theorem dL_law_330 : decode cL_law 330 = .ok (.aload_n 1, 1) := by decide +kernel
theorem dL_law_331 : decode cL_law 331 = .ok (.aload_n 0, 1) := by decide +kernel
theorem dL_law_332 : decode cL_law 332 = .ok (.iload_n 3, 1) := by decide +kernel
theorem dL_law_333 : decode cL_law 333 = .ok (.iconst 1, 1) := by decide +kernel
theorem dL_law_334 : decode cL_law 334 = .ok (.iadd, 1) := by decide +kernel
theorem dL_law_335 : decode cL_law 335 = .ok (.iaload, 1) := by decide +kernel
theorem dL_law_336 : decode cL_law 336 = .ok (.invokevirtual 41, 3) := by decide +kernel
theorem dL_law_339 : decode cL_law 339 = .ok (.aload_n 2, 1) := by decide +kernel
theorem dL_law_340 : decode cL_law 340 = .ok (.aload_n 0, 1) := by decide +kernel
theorem dL_law_341 : decode cL_law 341 = .ok (.iload_n 3, 1) := by decide +kernel
theorem dL_law_342 : decode cL_law 342 = .ok (.iconst 1, 1) := by decide +kernel
theorem dL_law_343 : decode cL_law 343 = .ok (.iadd, 1) := by decide +kernel
theorem dL_law_344 : decode cL_law 344 = .ok (.iaload, 1) := by decide +kernel
theorem dL_law_345 : decode cL_law 345 = .ok (.invokevirtual 44, 3) := by decide +kernel
theorem dL_law_348 : decode cL_law 348 = .ok (.if_icmp .eq 523, 3) := by decide +kernel
theorem dL_law_351 : decode cL_law 351 = .ok (.iconst 0, 1) := by decide +kernel
theorem dL_law_352 : decode cL_law 352 = .ok (.ireturn, 1) := by decide +kernel
theorem dL_law_353 : decode cL_law 353 = .ok (.aload_n 1, 1) := by decide +kernel
theorem dL_law_354 : decode cL_law 354 = .ok (.aload_n 0, 1) := by decide +kernel
theorem dL_law_355 : decode cL_law 355 = .ok (.iload_n 3, 1) := by decide +kernel
theorem dL_law_356 : decode cL_law 356 = .ok (.iconst 1, 1) := by decide +kernel
theorem dL_law_357 : decode cL_law 357 = .ok (.iadd, 1) := by decide +kernel
theorem dL_law_358 : decode cL_law 358 = .ok (.iaload, 1) := by decide +kernel
theorem dL_law_359 : decode cL_law 359 = .ok (.aload_n 0, 1) := by decide +kernel
theorem dL_law_360 : decode cL_law 360 = .ok (.iload_n 3, 1) := by decide +kernel
theorem dL_law_361 : decode cL_law 361 = .ok (.iconst 2, 1) := by decide +kernel
theorem dL_law_362 : decode cL_law 362 = .ok (.iadd, 1) := by decide +kernel
theorem dL_law_363 : decode cL_law 363 = .ok (.iaload, 1) := by decide +kernel
theorem dL_law_364 : decode cL_law 364 = .ok (.invokevirtual 45, 3) := by decide +kernel
theorem dL_law_367 : decode cL_law 367 = .ok (.aload_n 2, 1) := by decide +kernel
theorem dL_law_368 : decode cL_law 368 = .ok (.aload_n 0, 1) := by decide +kernel
theorem dL_law_369 : decode cL_law 369 = .ok (.iload_n 3, 1) := by decide +kernel
theorem dL_law_370 : decode cL_law 370 = .ok (.iconst 1, 1) := by decide +kernel
theorem dL_law_371 : decode cL_law 371 = .ok (.iadd, 1) := by decide +kernel
theorem dL_law_372 : decode cL_law 372 = .ok (.iaload, 1) := by decide +kernel
theorem dL_law_373 : decode cL_law 373 = .ok (.aload_n 0, 1) := by decide +kernel
theorem dL_law_374 : decode cL_law 374 = .ok (.iload_n 3, 1) := by decide +kernel
theorem dL_law_375 : decode cL_law 375 = .ok (.iconst 2, 1) := by decide +kernel
theorem dL_law_376 : decode cL_law 376 = .ok (.iadd, 1) := by decide +kernel
theorem dL_law_377 : decode cL_law 377 = .ok (.iaload, 1) := by decide +kernel
theorem dL_law_378 : decode cL_law 378 = .ok (.invokevirtual 48, 3) := by decide +kernel
theorem dL_law_381 : decode cL_law 381 = .ok (.if_icmp .eq 490, 3) := by decide +kernel
theorem dL_law_384 : decode cL_law 384 = .ok (.iconst 0, 1) := by decide +kernel
theorem dL_law_385 : decode cL_law 385 = .ok (.ireturn, 1) := by decide +kernel
theorem dL_law_386 : decode cL_law 386 = .ok (.aload_n 1, 1) := by decide +kernel
theorem dL_law_387 : decode cL_law 387 = .ok (.aload_n 0, 1) := by decide +kernel
theorem dL_law_388 : decode cL_law 388 = .ok (.iload_n 3, 1) := by decide +kernel
theorem dL_law_389 : decode cL_law 389 = .ok (.iconst 1, 1) := by decide +kernel
theorem dL_law_390 : decode cL_law 390 = .ok (.iadd, 1) := by decide +kernel
theorem dL_law_391 : decode cL_law 391 = .ok (.iaload, 1) := by decide +kernel
theorem dL_law_392 : decode cL_law 392 = .ok (.aload_n 0, 1) := by decide +kernel
theorem dL_law_393 : decode cL_law 393 = .ok (.iload_n 3, 1) := by decide +kernel
theorem dL_law_394 : decode cL_law 394 = .ok (.iconst 2, 1) := by decide +kernel
theorem dL_law_395 : decode cL_law 395 = .ok (.iadd, 1) := by decide +kernel
theorem dL_law_396 : decode cL_law 396 = .ok (.iaload, 1) := by decide +kernel
theorem dL_law_397 : decode cL_law 397 = .ok (.ifCond .eq 7, 3) := by decide +kernel
theorem dL_law_400 : decode cL_law 400 = .ok (.iconst 1, 1) := by decide +kernel
theorem dL_law_401 : decode cL_law 401 = .ok (.goto 4, 3) := by decide +kernel
theorem dL_law_404 : decode cL_law 404 = .ok (.iconst 0, 1) := by decide +kernel
theorem dL_law_405 : decode cL_law 405 = .ok (.invokevirtual 49, 3) := by decide +kernel
theorem dL_law_408 : decode cL_law 408 = .ok (.aload_n 2, 1) := by decide +kernel
theorem dL_law_409 : decode cL_law 409 = .ok (.aload_n 0, 1) := by decide +kernel
theorem dL_law_410 : decode cL_law 410 = .ok (.iload_n 3, 1) := by decide +kernel
theorem dL_law_411 : decode cL_law 411 = .ok (.iconst 1, 1) := by decide +kernel
theorem dL_law_412 : decode cL_law 412 = .ok (.iadd, 1) := by decide +kernel
theorem dL_law_413 : decode cL_law 413 = .ok (.iaload, 1) := by decide +kernel
theorem dL_law_414 : decode cL_law 414 = .ok (.aload_n 0, 1) := by decide +kernel
theorem dL_law_415 : decode cL_law 415 = .ok (.iload_n 3, 1) := by decide +kernel
theorem dL_law_416 : decode cL_law 416 = .ok (.iconst 2, 1) := by decide +kernel
theorem dL_law_417 : decode cL_law 417 = .ok (.iadd, 1) := by decide +kernel
theorem dL_law_418 : decode cL_law 418 = .ok (.iaload, 1) := by decide +kernel
theorem dL_law_419 : decode cL_law 419 = .ok (.ifCond .eq 7, 3) := by decide +kernel
theorem dL_law_422 : decode cL_law 422 = .ok (.iconst 1, 1) := by decide +kernel
theorem dL_law_423 : decode cL_law 423 = .ok (.goto 4, 3) := by decide +kernel
theorem dL_law_426 : decode cL_law 426 = .ok (.iconst 0, 1) := by decide +kernel
theorem dL_law_427 : decode cL_law 427 = .ok (.invokevirtual 53, 3) := by decide +kernel
theorem dL_law_430 : decode cL_law 430 = .ok (.if_icmp .eq 441, 3) := by decide +kernel
theorem dL_law_433 : decode cL_law 433 = .ok (.iconst 0, 1) := by decide +kernel
theorem dL_law_434 : decode cL_law 434 = .ok (.ireturn, 1) := by decide +kernel
theorem dL_law_435 : decode cL_law 435 = .ok (.aload_n 1, 1) := by decide +kernel
theorem dL_law_436 : decode cL_law 436 = .ok (.aload_n 0, 1) := by decide +kernel
theorem dL_law_437 : decode cL_law 437 = .ok (.iload_n 3, 1) := by decide +kernel
theorem dL_law_438 : decode cL_law 438 = .ok (.iconst 1, 1) := by decide +kernel
theorem dL_law_439 : decode cL_law 439 = .ok (.iadd, 1) := by decide +kernel
theorem dL_law_440 : decode cL_law 440 = .ok (.iaload, 1) := by decide +kernel
theorem dL_law_441 : decode cL_law 441 = .ok (.invokevirtual 54, 3) := by decide +kernel
theorem dL_law_444 : decode cL_law 444 = .ok (.aload_n 2, 1) := by decide +kernel
theorem dL_law_445 : decode cL_law 445 = .ok (.aload_n 0, 1) := by decide +kernel
theorem dL_law_446 : decode cL_law 446 = .ok (.iload_n 3, 1) := by decide +kernel
theorem dL_law_447 : decode cL_law 447 = .ok (.iconst 1, 1) := by decide +kernel
theorem dL_law_448 : decode cL_law 448 = .ok (.iadd, 1) := by decide +kernel
theorem dL_law_449 : decode cL_law 449 = .ok (.iaload, 1) := by decide +kernel
theorem dL_law_450 : decode cL_law 450 = .ok (.invokevirtual 57, 3) := by decide +kernel
theorem dL_law_453 : decode cL_law 453 = .ok (.if_icmp .eq 418, 3) := by decide +kernel
theorem dL_law_456 : decode cL_law 456 = .ok (.iconst 0, 1) := by decide +kernel
theorem dL_law_457 : decode cL_law 457 = .ok (.ireturn, 1) := by decide +kernel
theorem dL_law_458 : decode cL_law 458 = .ok (.aload_n 1, 1) := by decide +kernel
theorem dL_law_459 : decode cL_law 459 = .ok (.aload_n 0, 1) := by decide +kernel
theorem dL_law_460 : decode cL_law 460 = .ok (.iload_n 3, 1) := by decide +kernel
theorem dL_law_461 : decode cL_law 461 = .ok (.iconst 1, 1) := by decide +kernel
theorem dL_law_462 : decode cL_law 462 = .ok (.iadd, 1) := by decide +kernel
theorem dL_law_463 : decode cL_law 463 = .ok (.iaload, 1) := by decide +kernel
theorem dL_law_464 : decode cL_law 464 = .ok (.i2c, 1) := by decide +kernel
theorem dL_law_465 : decode cL_law 465 = .ok (.invokevirtual 58, 3) := by decide +kernel
theorem dL_law_468 : decode cL_law 468 = .ok (.aload_n 2, 1) := by decide +kernel
theorem dL_law_469 : decode cL_law 469 = .ok (.aload_n 0, 1) := by decide +kernel
theorem dL_law_470 : decode cL_law 470 = .ok (.iload_n 3, 1) := by decide +kernel
theorem dL_law_471 : decode cL_law 471 = .ok (.iconst 1, 1) := by decide +kernel
theorem dL_law_472 : decode cL_law 472 = .ok (.iadd, 1) := by decide +kernel
theorem dL_law_473 : decode cL_law 473 = .ok (.iaload, 1) := by decide +kernel
theorem dL_law_474 : decode cL_law 474 = .ok (.i2c, 1) := by decide +kernel
theorem dL_law_475 : decode cL_law 475 = .ok (.invokevirtual 62, 3) := by decide +kernel
theorem dL_law_478 : decode cL_law 478 = .ok (.if_icmp .eq 393, 3) := by decide +kernel
theorem dL_law_481 : decode cL_law 481 = .ok (.iconst 0, 1) := by decide +kernel
theorem dL_law_482 : decode cL_law 482 = .ok (.ireturn, 1) := by decide +kernel
theorem dL_law_483 : decode cL_law 483 = .ok (.aload_n 1, 1) := by decide +kernel
theorem dL_law_484 : decode cL_law 484 = .ok (.invokevirtual 63, 3) := by decide +kernel
theorem dL_law_487 : decode cL_law 487 = .ok (.aload_n 2, 1) := by decide +kernel
theorem dL_law_488 : decode cL_law 488 = .ok (.invokevirtual 66, 3) := by decide +kernel
theorem dL_law_491 : decode cL_law 491 = .ok (.if_icmp .eq 380, 3) := by decide +kernel
theorem dL_law_494 : decode cL_law 494 = .ok (.iconst 0, 1) := by decide +kernel
theorem dL_law_495 : decode cL_law 495 = .ok (.ireturn, 1) := by decide +kernel
theorem dL_law_496 : decode cL_law 496 = .ok (.aload_n 1, 1) := by decide +kernel
theorem dL_law_497 : decode cL_law 497 = .ok (.aload_n 0, 1) := by decide +kernel
theorem dL_law_498 : decode cL_law 498 = .ok (.iload_n 3, 1) := by decide +kernel
theorem dL_law_499 : decode cL_law 499 = .ok (.iconst 1, 1) := by decide +kernel
theorem dL_law_500 : decode cL_law 500 = .ok (.iadd, 1) := by decide +kernel
theorem dL_law_501 : decode cL_law 501 = .ok (.iaload, 1) := by decide +kernel
theorem dL_law_502 : decode cL_law 502 = .ok (.invokevirtual 67, 3) := by decide +kernel
theorem dL_law_505 : decode cL_law 505 = .ok (.aload_n 2, 1) := by decide +kernel
theorem dL_law_506 : decode cL_law 506 = .ok (.aload_n 0, 1) := by decide +kernel
theorem dL_law_507 : decode cL_law 507 = .ok (.iload_n 3, 1) := by decide +kernel
theorem dL_law_508 : decode cL_law 508 = .ok (.iconst 1, 1) := by decide +kernel
theorem dL_law_509 : decode cL_law 509 = .ok (.iadd, 1) := by decide +kernel
theorem dL_law_510 : decode cL_law 510 = .ok (.iaload, 1) := by decide +kernel
theorem dL_law_511 : decode cL_law 511 = .ok (.invokevirtual 70, 3) := by decide +kernel
theorem dL_law_514 : decode cL_law 514 = .ok (.if_icmp .eq 357, 3) := by decide +kernel
theorem dL_law_517 : decode cL_law 517 = .ok (.iconst 0, 1) := by decide +kernel
theorem dL_law_518 : decode cL_law 518 = .ok (.ireturn, 1) := by decide +kernel
theorem dL_law_519 : decode cL_law 519 = .ok (.aload_n 1, 1) := by decide +kernel
theorem dL_law_520 : decode cL_law 520 = .ok (.invokevirtual 71, 3) := by decide +kernel
theorem dL_law_523 : decode cL_law 523 = .ok (.aload_n 2, 1) := by decide +kernel
theorem dL_law_524 : decode cL_law 524 = .ok (.invokevirtual 74, 3) := by decide +kernel
theorem dL_law_527 : decode cL_law 527 = .ok (.if_icmp .eq 344, 3) := by decide +kernel
theorem dL_law_530 : decode cL_law 530 = .ok (.iconst 0, 1) := by decide +kernel
theorem dL_law_531 : decode cL_law 531 = .ok (.ireturn, 1) := by decide +kernel
theorem dL_law_532 : decode cL_law 532 = .ok (.aload_n 1, 1) := by decide +kernel
theorem dL_law_533 : decode cL_law 533 = .ok (.invokevirtual 75, 3) := by decide +kernel
theorem dL_law_536 : decode cL_law 536 = .ok (.aload_n 2, 1) := by decide +kernel
theorem dL_law_537 : decode cL_law 537 = .ok (.invokevirtual 78, 3) := by decide +kernel
theorem dL_law_540 : decode cL_law 540 = .ok (.if_icmp .eq 331, 3) := by decide +kernel
theorem dL_law_543 : decode cL_law 543 = .ok (.iconst 0, 1) := by decide +kernel
theorem dL_law_544 : decode cL_law 544 = .ok (.ireturn, 1) := by decide +kernel
theorem dL_law_545 : decode cL_law 545 = .ok (.aload_n 1, 1) := by decide +kernel
theorem dL_law_546 : decode cL_law 546 = .ok (.invokevirtual 79, 3) := by decide +kernel
theorem dL_law_549 : decode cL_law 549 = .ok (.aload_n 2, 1) := by decide +kernel
theorem dL_law_550 : decode cL_law 550 = .ok (.invokevirtual 82, 3) := by decide +kernel
theorem dL_law_553 : decode cL_law 553 = .ok (.if_icmp .eq 318, 3) := by decide +kernel
theorem dL_law_556 : decode cL_law 556 = .ok (.iconst 0, 1) := by decide +kernel
theorem dL_law_557 : decode cL_law 557 = .ok (.ireturn, 1) := by decide +kernel
theorem dL_law_558 : decode cL_law 558 = .ok (.aload_n 1, 1) := by decide +kernel
theorem dL_law_559 : decode cL_law 559 = .ok (.aload_n 0, 1) := by decide +kernel
theorem dL_law_560 : decode cL_law 560 = .ok (.iload_n 3, 1) := by decide +kernel
theorem dL_law_561 : decode cL_law 561 = .ok (.iconst 1, 1) := by decide +kernel
theorem dL_law_562 : decode cL_law 562 = .ok (.iadd, 1) := by decide +kernel
theorem dL_law_563 : decode cL_law 563 = .ok (.iaload, 1) := by decide +kernel
theorem dL_law_564 : decode cL_law 564 = .ok (.aload_n 0, 1) := by decide +kernel
theorem dL_law_565 : decode cL_law 565 = .ok (.iload_n 3, 1) := by decide +kernel
theorem dL_law_566 : decode cL_law 566 = .ok (.iconst 2, 1) := by decide +kernel
theorem dL_law_567 : decode cL_law 567 = .ok (.iadd, 1) := by decide +kernel
theorem dL_law_568 : decode cL_law 568 = .ok (.iaload, 1) := by decide +kernel
theorem dL_law_569 : decode cL_law 569 = .ok (.invokevirtual 83, 3) := by decide +kernel
theorem dL_law_572 : decode cL_law 572 = .ok (.aload_n 2, 1) := by decide +kernel
theorem dL_law_573 : decode cL_law 573 = .ok (.aload_n 0, 1) := by decide +kernel
theorem dL_law_574 : decode cL_law 574 = .ok (.iload_n 3, 1) := by decide +kernel
theorem dL_law_575 : decode cL_law 575 = .ok (.iconst 1, 1) := by decide +kernel
theorem dL_law_576 : decode cL_law 576 = .ok (.iadd, 1) := by decide +kernel
theorem dL_law_577 : decode cL_law 577 = .ok (.iaload, 1) := by decide +kernel
theorem dL_law_578 : decode cL_law 578 = .ok (.aload_n 0, 1) := by decide +kernel
theorem dL_law_579 : decode cL_law 579 = .ok (.iload_n 3, 1) := by decide +kernel
theorem dL_law_580 : decode cL_law 580 = .ok (.iconst 2, 1) := by decide +kernel
theorem dL_law_581 : decode cL_law 581 = .ok (.iadd, 1) := by decide +kernel
theorem dL_law_582 : decode cL_law 582 = .ok (.iaload, 1) := by decide +kernel
theorem dL_law_583 : decode cL_law 583 = .ok (.invokevirtual 86, 3) := by decide +kernel
theorem dL_law_586 : decode cL_law 586 = .ok (.if_icmp .eq 285, 3) := by decide +kernel
theorem dL_law_589 : decode cL_law 589 = .ok (.iconst 0, 1) := by decide +kernel
theorem dL_law_590 : decode cL_law 590 = .ok (.ireturn, 1) := by decide +kernel
theorem dL_law_591 : decode cL_law 591 = .ok (.aload_n 1, 1) := by decide +kernel
theorem dL_law_592 : decode cL_law 592 = .ok (.aload_n 0, 1) := by decide +kernel
theorem dL_law_593 : decode cL_law 593 = .ok (.iload_n 3, 1) := by decide +kernel
theorem dL_law_594 : decode cL_law 594 = .ok (.iconst 1, 1) := by decide +kernel
theorem dL_law_595 : decode cL_law 595 = .ok (.iadd, 1) := by decide +kernel
theorem dL_law_596 : decode cL_law 596 = .ok (.iaload, 1) := by decide +kernel
theorem dL_law_597 : decode cL_law 597 = .ok (.invokevirtual 87, 3) := by decide +kernel
theorem dL_law_600 : decode cL_law 600 = .ok (.aload_n 2, 1) := by decide +kernel
theorem dL_law_601 : decode cL_law 601 = .ok (.aload_n 0, 1) := by decide +kernel
theorem dL_law_602 : decode cL_law 602 = .ok (.iload_n 3, 1) := by decide +kernel
theorem dL_law_603 : decode cL_law 603 = .ok (.iconst 1, 1) := by decide +kernel
theorem dL_law_604 : decode cL_law 604 = .ok (.iadd, 1) := by decide +kernel
theorem dL_law_605 : decode cL_law 605 = .ok (.iaload, 1) := by decide +kernel
theorem dL_law_606 : decode cL_law 606 = .ok (.invokevirtual 90, 3) := by decide +kernel
theorem dL_law_609 : decode cL_law 609 = .ok (.if_icmp .eq 262, 3) := by decide +kernel
theorem dL_law_612 : decode cL_law 612 = .ok (.iconst 0, 1) := by decide +kernel
theorem dL_law_613 : decode cL_law 613 = .ok (.ireturn, 1) := by decide +kernel
theorem dL_law_614 : decode cL_law 614 = .ok (.aload_n 1, 1) := by decide +kernel
theorem dL_law_615 : decode cL_law 615 = .ok (.aload_n 0, 1) := by decide +kernel
theorem dL_law_616 : decode cL_law 616 = .ok (.iload_n 3, 1) := by decide +kernel
theorem dL_law_617 : decode cL_law 617 = .ok (.iconst 1, 1) := by decide +kernel
theorem dL_law_618 : decode cL_law 618 = .ok (.iadd, 1) := by decide +kernel
theorem dL_law_619 : decode cL_law 619 = .ok (.iaload, 1) := by decide +kernel
theorem dL_law_620 : decode cL_law 620 = .ok (.aload_n 0, 1) := by decide +kernel
theorem dL_law_621 : decode cL_law 621 = .ok (.iload_n 3, 1) := by decide +kernel
theorem dL_law_622 : decode cL_law 622 = .ok (.iconst 2, 1) := by decide +kernel
theorem dL_law_623 : decode cL_law 623 = .ok (.iadd, 1) := by decide +kernel
theorem dL_law_624 : decode cL_law 624 = .ok (.iaload, 1) := by decide +kernel
theorem dL_law_625 : decode cL_law 625 = .ok (.invokevirtual 91, 3) := by decide +kernel
theorem dL_law_628 : decode cL_law 628 = .ok (.aload_n 2, 1) := by decide +kernel
theorem dL_law_629 : decode cL_law 629 = .ok (.aload_n 0, 1) := by decide +kernel
theorem dL_law_630 : decode cL_law 630 = .ok (.iload_n 3, 1) := by decide +kernel
theorem dL_law_631 : decode cL_law 631 = .ok (.iconst 1, 1) := by decide +kernel
theorem dL_law_632 : decode cL_law 632 = .ok (.iadd, 1) := by decide +kernel
theorem dL_law_633 : decode cL_law 633 = .ok (.iaload, 1) := by decide +kernel
theorem dL_law_634 : decode cL_law 634 = .ok (.aload_n 0, 1) := by decide +kernel
theorem dL_law_635 : decode cL_law 635 = .ok (.iload_n 3, 1) := by decide +kernel
theorem dL_law_636 : decode cL_law 636 = .ok (.iconst 2, 1) := by decide +kernel
theorem dL_law_637 : decode cL_law 637 = .ok (.iadd, 1) := by decide +kernel
theorem dL_law_638 : decode cL_law 638 = .ok (.iaload, 1) := by decide +kernel
theorem dL_law_639 : decode cL_law 639 = .ok (.invokevirtual 94, 3) := by decide +kernel
theorem dL_law_642 : decode cL_law 642 = .ok (.if_icmp .eq 229, 3) := by decide +kernel
theorem dL_law_645 : decode cL_law 645 = .ok (.iconst 0, 1) := by decide +kernel
theorem dL_law_646 : decode cL_law 646 = .ok (.ireturn, 1) := by decide +kernel
theorem dL_law_647 : decode cL_law 647 = .ok (.aload_n 1, 1) := by decide +kernel
theorem dL_law_648 : decode cL_law 648 = .ok (.aload_n 0, 1) := by decide +kernel
theorem dL_law_649 : decode cL_law 649 = .ok (.iload_n 3, 1) := by decide +kernel
theorem dL_law_650 : decode cL_law 650 = .ok (.iconst 1, 1) := by decide +kernel
theorem dL_law_651 : decode cL_law 651 = .ok (.iadd, 1) := by decide +kernel
theorem dL_law_652 : decode cL_law 652 = .ok (.iaload, 1) := by decide +kernel
theorem dL_law_653 : decode cL_law 653 = .ok (.aload_n 0, 1) := by decide +kernel
theorem dL_law_654 : decode cL_law 654 = .ok (.iload_n 3, 1) := by decide +kernel
theorem dL_law_655 : decode cL_law 655 = .ok (.iconst 2, 1) := by decide +kernel
theorem dL_law_656 : decode cL_law 656 = .ok (.iadd, 1) := by decide +kernel
theorem dL_law_657 : decode cL_law 657 = .ok (.iaload, 1) := by decide +kernel
theorem dL_law_658 : decode cL_law 658 = .ok (.invokevirtual 95, 3) := by decide +kernel
theorem dL_law_661 : decode cL_law 661 = .ok (.aload_n 2, 1) := by decide +kernel
theorem dL_law_662 : decode cL_law 662 = .ok (.aload_n 0, 1) := by decide +kernel
theorem dL_law_663 : decode cL_law 663 = .ok (.iload_n 3, 1) := by decide +kernel
theorem dL_law_664 : decode cL_law 664 = .ok (.iconst 1, 1) := by decide +kernel
theorem dL_law_665 : decode cL_law 665 = .ok (.iadd, 1) := by decide +kernel
theorem dL_law_666 : decode cL_law 666 = .ok (.iaload, 1) := by decide +kernel
theorem dL_law_667 : decode cL_law 667 = .ok (.aload_n 0, 1) := by decide +kernel
theorem dL_law_668 : decode cL_law 668 = .ok (.iload_n 3, 1) := by decide +kernel
theorem dL_law_669 : decode cL_law 669 = .ok (.iconst 2, 1) := by decide +kernel
theorem dL_law_670 : decode cL_law 670 = .ok (.iadd, 1) := by decide +kernel
theorem dL_law_671 : decode cL_law 671 = .ok (.iaload, 1) := by decide +kernel
theorem dL_law_672 : decode cL_law 672 = .ok (.invokevirtual 98, 3) := by decide +kernel
theorem dL_law_675 : decode cL_law 675 = .ok (.if_icmp .eq 196, 3) := by decide +kernel
theorem dL_law_678 : decode cL_law 678 = .ok (.iconst 0, 1) := by decide +kernel
theorem dL_law_679 : decode cL_law 679 = .ok (.ireturn, 1) := by decide +kernel
theorem dL_law_680 : decode cL_law 680 = .ok (.aload_n 1, 1) := by decide +kernel
theorem dL_law_681 : decode cL_law 681 = .ok (.aload_n 0, 1) := by decide +kernel
theorem dL_law_682 : decode cL_law 682 = .ok (.iload_n 3, 1) := by decide +kernel
theorem dL_law_683 : decode cL_law 683 = .ok (.iconst 1, 1) := by decide +kernel
theorem dL_law_684 : decode cL_law 684 = .ok (.iadd, 1) := by decide +kernel
theorem dL_law_685 : decode cL_law 685 = .ok (.iaload, 1) := by decide +kernel
theorem dL_law_686 : decode cL_law 686 = .ok (.aload_n 0, 1) := by decide +kernel
theorem dL_law_687 : decode cL_law 687 = .ok (.iload_n 3, 1) := by decide +kernel
theorem dL_law_688 : decode cL_law 688 = .ok (.iconst 2, 1) := by decide +kernel
theorem dL_law_689 : decode cL_law 689 = .ok (.iadd, 1) := by decide +kernel
theorem dL_law_690 : decode cL_law 690 = .ok (.iaload, 1) := by decide +kernel
theorem dL_law_691 : decode cL_law 691 = .ok (.invokevirtual 99, 3) := by decide +kernel
theorem dL_law_694 : decode cL_law 694 = .ok (.aload_n 2, 1) := by decide +kernel
theorem dL_law_695 : decode cL_law 695 = .ok (.aload_n 0, 1) := by decide +kernel
theorem dL_law_696 : decode cL_law 696 = .ok (.iload_n 3, 1) := by decide +kernel
theorem dL_law_697 : decode cL_law 697 = .ok (.iconst 1, 1) := by decide +kernel
theorem dL_law_698 : decode cL_law 698 = .ok (.iadd, 1) := by decide +kernel
theorem dL_law_699 : decode cL_law 699 = .ok (.iaload, 1) := by decide +kernel
theorem dL_law_700 : decode cL_law 700 = .ok (.aload_n 0, 1) := by decide +kernel
theorem dL_law_701 : decode cL_law 701 = .ok (.iload_n 3, 1) := by decide +kernel
theorem dL_law_702 : decode cL_law 702 = .ok (.iconst 2, 1) := by decide +kernel
theorem dL_law_703 : decode cL_law 703 = .ok (.iadd, 1) := by decide +kernel
theorem dL_law_704 : decode cL_law 704 = .ok (.iaload, 1) := by decide +kernel
theorem dL_law_705 : decode cL_law 705 = .ok (.invokevirtual 102, 3) := by decide +kernel
theorem dL_law_708 : decode cL_law 708 = .ok (.if_icmp .eq 163, 3) := by decide +kernel
theorem dL_law_711 : decode cL_law 711 = .ok (.iconst 0, 1) := by decide +kernel
theorem dL_law_712 : decode cL_law 712 = .ok (.ireturn, 1) := by decide +kernel
theorem dL_law_713 : decode cL_law 713 = .ok (.aload_n 1, 1) := by decide +kernel
theorem dL_law_714 : decode cL_law 714 = .ok (.aload_n 0, 1) := by decide +kernel
theorem dL_law_715 : decode cL_law 715 = .ok (.iload_n 3, 1) := by decide +kernel
theorem dL_law_716 : decode cL_law 716 = .ok (.iconst 1, 1) := by decide +kernel
theorem dL_law_717 : decode cL_law 717 = .ok (.iadd, 1) := by decide +kernel
theorem dL_law_718 : decode cL_law 718 = .ok (.iaload, 1) := by decide +kernel
theorem dL_law_719 : decode cL_law 719 = .ok (.aload_n 0, 1) := by decide +kernel
theorem dL_law_720 : decode cL_law 720 = .ok (.iload_n 3, 1) := by decide +kernel
theorem dL_law_721 : decode cL_law 721 = .ok (.iconst 2, 1) := by decide +kernel
theorem dL_law_722 : decode cL_law 722 = .ok (.iadd, 1) := by decide +kernel
theorem dL_law_723 : decode cL_law 723 = .ok (.iaload, 1) := by decide +kernel
theorem dL_law_724 : decode cL_law 724 = .ok (.invokevirtual 103, 3) := by decide +kernel
theorem dL_law_727 : decode cL_law 727 = .ok (.aload_n 2, 1) := by decide +kernel
theorem dL_law_728 : decode cL_law 728 = .ok (.aload_n 0, 1) := by decide +kernel
theorem dL_law_729 : decode cL_law 729 = .ok (.iload_n 3, 1) := by decide +kernel
theorem dL_law_730 : decode cL_law 730 = .ok (.iconst 1, 1) := by decide +kernel
theorem dL_law_731 : decode cL_law 731 = .ok (.iadd, 1) := by decide +kernel
theorem dL_law_732 : decode cL_law 732 = .ok (.iaload, 1) := by decide +kernel
theorem dL_law_733 : decode cL_law 733 = .ok (.aload_n 0, 1) := by decide +kernel
theorem dL_law_734 : decode cL_law 734 = .ok (.iload_n 3, 1) := by decide +kernel
theorem dL_law_735 : decode cL_law 735 = .ok (.iconst 2, 1) := by decide +kernel
theorem dL_law_736 : decode cL_law 736 = .ok (.iadd, 1) := by decide +kernel
theorem dL_law_737 : decode cL_law 737 = .ok (.iaload, 1) := by decide +kernel
theorem dL_law_738 : decode cL_law 738 = .ok (.invokevirtual 106, 3) := by decide +kernel
theorem dL_law_741 : decode cL_law 741 = .ok (.if_icmp .eq 130, 3) := by decide +kernel
theorem dL_law_744 : decode cL_law 744 = .ok (.iconst 0, 1) := by decide +kernel
theorem dL_law_745 : decode cL_law 745 = .ok (.ireturn, 1) := by decide +kernel
theorem dL_law_746 : decode cL_law 746 = .ok (.aload_n 1, 1) := by decide +kernel
theorem dL_law_747 : decode cL_law 747 = .ok (.aload_n 0, 1) := by decide +kernel
theorem dL_law_748 : decode cL_law 748 = .ok (.iload_n 3, 1) := by decide +kernel
theorem dL_law_749 : decode cL_law 749 = .ok (.iconst 1, 1) := by decide +kernel
theorem dL_law_750 : decode cL_law 750 = .ok (.iadd, 1) := by decide +kernel
theorem dL_law_751 : decode cL_law 751 = .ok (.iaload, 1) := by decide +kernel
theorem dL_law_752 : decode cL_law 752 = .ok (.aload_n 0, 1) := by decide +kernel
theorem dL_law_753 : decode cL_law 753 = .ok (.iload_n 3, 1) := by decide +kernel
theorem dL_law_754 : decode cL_law 754 = .ok (.iconst 2, 1) := by decide +kernel
theorem dL_law_755 : decode cL_law 755 = .ok (.iadd, 1) := by decide +kernel
theorem dL_law_756 : decode cL_law 756 = .ok (.iaload, 1) := by decide +kernel
theorem dL_law_757 : decode cL_law 757 = .ok (.invokevirtual 107, 3) := by decide +kernel
theorem dL_law_760 : decode cL_law 760 = .ok (.aload_n 2, 1) := by decide +kernel
theorem dL_law_761 : decode cL_law 761 = .ok (.aload_n 0, 1) := by decide +kernel
theorem dL_law_762 : decode cL_law 762 = .ok (.iload_n 3, 1) := by decide +kernel
theorem dL_law_763 : decode cL_law 763 = .ok (.iconst 1, 1) := by decide +kernel
theorem dL_law_764 : decode cL_law 764 = .ok (.iadd, 1) := by decide +kernel
theorem dL_law_765 : decode cL_law 765 = .ok (.iaload, 1) := by decide +kernel
theorem dL_law_766 : decode cL_law 766 = .ok (.aload_n 0, 1) := by decide +kernel
theorem dL_law_767 : decode cL_law 767 = .ok (.iload_n 3, 1) := by decide +kernel
theorem dL_law_768 : decode cL_law 768 = .ok (.iconst 2, 1) := by decide +kernel
theorem dL_law_769 : decode cL_law 769 = .ok (.iadd, 1) := by decide +kernel
theorem dL_law_770 : decode cL_law 770 = .ok (.iaload, 1) := by decide +kernel
theorem dL_law_771 : decode cL_law 771 = .ok (.invokevirtual 110, 3) := by decide +kernel
theorem dL_law_774 : decode cL_law 774 = .ok (.if_icmp .eq 97, 3) := by decide +kernel
theorem dL_law_777 : decode cL_law 777 = .ok (.iconst 0, 1) := by decide +kernel
theorem dL_law_778 : decode cL_law 778 = .ok (.ireturn, 1) := by decide +kernel
theorem dL_law_779 : decode cL_law 779 = .ok (.aload_n 1, 1) := by decide +kernel
theorem dL_law_780 : decode cL_law 780 = .ok (.aload_n 0, 1) := by decide +kernel
theorem dL_law_781 : decode cL_law 781 = .ok (.iload_n 3, 1) := by decide +kernel
theorem dL_law_782 : decode cL_law 782 = .ok (.iconst 1, 1) := by decide +kernel
theorem dL_law_783 : decode cL_law 783 = .ok (.iadd, 1) := by decide +kernel
theorem dL_law_784 : decode cL_law 784 = .ok (.iaload, 1) := by decide +kernel
theorem dL_law_785 : decode cL_law 785 = .ok (.invokevirtual 111, 3) := by decide +kernel
theorem dL_law_788 : decode cL_law 788 = .ok (.aload_n 2, 1) := by decide +kernel
theorem dL_law_789 : decode cL_law 789 = .ok (.aload_n 0, 1) := by decide +kernel
theorem dL_law_790 : decode cL_law 790 = .ok (.iload_n 3, 1) := by decide +kernel
theorem dL_law_791 : decode cL_law 791 = .ok (.iconst 1, 1) := by decide +kernel
theorem dL_law_792 : decode cL_law 792 = .ok (.iadd, 1) := by decide +kernel
theorem dL_law_793 : decode cL_law 793 = .ok (.iaload, 1) := by decide +kernel
theorem dL_law_794 : decode cL_law 794 = .ok (.invokevirtual 114, 3) := by decide +kernel
theorem dL_law_797 : decode cL_law 797 = .ok (.if_icmp .eq 74, 3) := by decide +kernel
theorem dL_law_800 : decode cL_law 800 = .ok (.iconst 0, 1) := by decide +kernel
theorem dL_law_801 : decode cL_law 801 = .ok (.ireturn, 1) := by decide +kernel
theorem dL_law_802 : decode cL_law 802 = .ok (.aload_n 1, 1) := by decide +kernel
theorem dL_law_803 : decode cL_law 803 = .ok (.invokevirtual 115, 3) := by decide +kernel
theorem dL_law_806 : decode cL_law 806 = .ok (.aload_n 2, 1) := by decide +kernel
theorem dL_law_807 : decode cL_law 807 = .ok (.invokevirtual 118, 3) := by decide +kernel
theorem dL_law_810 : decode cL_law 810 = .ok (.if_icmp .eq 61, 3) := by decide +kernel
theorem dL_law_813 : decode cL_law 813 = .ok (.iconst 0, 1) := by decide +kernel
theorem dL_law_814 : decode cL_law 814 = .ok (.ireturn, 1) := by decide +kernel
theorem dL_law_815 : decode cL_law 815 = .ok (.aload_n 1, 1) := by decide +kernel
theorem dL_law_816 : decode cL_law 816 = .ok (.aload_n 0, 1) := by decide +kernel
theorem dL_law_817 : decode cL_law 817 = .ok (.iload_n 3, 1) := by decide +kernel
theorem dL_law_818 : decode cL_law 818 = .ok (.iconst 1, 1) := by decide +kernel
theorem dL_law_819 : decode cL_law 819 = .ok (.iadd, 1) := by decide +kernel
theorem dL_law_820 : decode cL_law 820 = .ok (.iaload, 1) := by decide +kernel
theorem dL_law_821 : decode cL_law 821 = .ok (.aload_n 0, 1) := by decide +kernel
theorem dL_law_822 : decode cL_law 822 = .ok (.iload_n 3, 1) := by decide +kernel
theorem dL_law_823 : decode cL_law 823 = .ok (.iconst 2, 1) := by decide +kernel
theorem dL_law_824 : decode cL_law 824 = .ok (.iadd, 1) := by decide +kernel
theorem dL_law_825 : decode cL_law 825 = .ok (.iaload, 1) := by decide +kernel
theorem dL_law_826 : decode cL_law 826 = .ok (.invokevirtual 119, 3) := by decide +kernel
theorem dL_law_829 : decode cL_law 829 = .ok (.aload_n 2, 1) := by decide +kernel
theorem dL_law_830 : decode cL_law 830 = .ok (.aload_n 0, 1) := by decide +kernel
theorem dL_law_831 : decode cL_law 831 = .ok (.iload_n 3, 1) := by decide +kernel
theorem dL_law_832 : decode cL_law 832 = .ok (.iconst 1, 1) := by decide +kernel
theorem dL_law_833 : decode cL_law 833 = .ok (.iadd, 1) := by decide +kernel
theorem dL_law_834 : decode cL_law 834 = .ok (.iaload, 1) := by decide +kernel
theorem dL_law_835 : decode cL_law 835 = .ok (.aload_n 0, 1) := by decide +kernel
theorem dL_law_836 : decode cL_law 836 = .ok (.iload_n 3, 1) := by decide +kernel
theorem dL_law_837 : decode cL_law 837 = .ok (.iconst 2, 1) := by decide +kernel
theorem dL_law_838 : decode cL_law 838 = .ok (.iadd, 1) := by decide +kernel
theorem dL_law_839 : decode cL_law 839 = .ok (.iaload, 1) := by decide +kernel
theorem dL_law_840 : decode cL_law 840 = .ok (.invokevirtual 122, 3) := by decide +kernel
theorem dL_law_843 : decode cL_law 843 = .ok (.if_icmp .eq 28, 3) := by decide +kernel
theorem dL_law_846 : decode cL_law 846 = .ok (.iconst 0, 1) := by decide +kernel
theorem dL_law_847 : decode cL_law 847 = .ok (.ireturn, 1) := by decide +kernel
theorem dL_law_848 : decode cL_law 848 = .ok (.aload_n 1, 1) := by decide +kernel
theorem dL_law_849 : decode cL_law 849 = .ok (.aload_n 0, 1) := by decide +kernel
