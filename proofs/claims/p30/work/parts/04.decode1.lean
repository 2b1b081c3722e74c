theorem dX0_init_0 : decode cX0_init 0 = .ok (.aload_n 0, 1) := by decide +kernel
theorem dX0_init_1 : decode cX0_init 1 = .ok (.invokespecial 3, 3) := by decide +kernel
theorem dX0_init_4 : decode cX0_init 4 = .ok (.aload_n 0, 1) := by decide +kernel
theorem dX0_init_5 : decode cX0_init 5 = .ok (.iconst 4, 1) := by decide +kernel
theorem dX0_init_6 : decode cX0_init 6 = .ok (.anewarray 9, 3) := by decide +kernel
theorem dX0_init_9 : decode cX0_init 9 = .ok (.putfield 11, 3) := by decide +kernel
theorem dX0_init_12 : decode cX0_init 12 = .ok (.iconst 0, 1) := by decide +kernel
theorem dX0_init_13 : decode cX0_init 13 = .ok (.istore_n 1, 1) := by decide +kernel
theorem dX0_init_14 : decode cX0_init 14 = .ok (.iload_n 1, 1) := by decide +kernel
theorem dX0_init_15 : decode cX0_init 15 = .ok (.iconst 4, 1) := by decide +kernel
theorem dX0_init_16 : decode cX0_init 16 = .ok (.if_icmp .ge 22, 3) := by decide +kernel
theorem dX0_init_19 : decode cX0_init 19 = .ok (.aload_n 0, 1) := by decide +kernel
theorem dX0_init_20 : decode cX0_init 20 = .ok (.getfield 11, 3) := by decide +kernel
theorem dX0_init_23 : decode cX0_init 23 = .ok (.iload_n 1, 1) := by decide +kernel
theorem dX0_init_24 : decode cX0_init 24 = .ok (.new 9, 3) := by decide +kernel
theorem dX0_init_27 : decode cX0_init 27 = .ok (.dup, 1) := by decide +kernel
theorem dX0_init_28 : decode cX0_init 28 = .ok (.invokespecial 17, 3) := by decide +kernel
theorem dX0_init_31 : decode cX0_init 31 = .ok (.aastore, 1) := by decide +kernel
theorem dX0_init_32 : decode cX0_init 32 = .ok (.iinc 1 1, 3) := by decide +kernel
theorem dX0_init_35 : decode cX0_init 35 = .ok (.goto (-21), 3) := by decide +kernel
theorem dX0_init_38 : decode cX0_init 38 = .ok (.return_, 1) := by decide +kernel
theorem dX0_size_0 : decode cX0_size 0 = .ok (.aload_n 0, 1) := by decide +kernel
theorem dX0_size_1 : decode cX0_size 1 = .ok (.getfield 18, 3) := by decide +kernel
theorem dX0_size_4 : decode cX0_size 4 = .ok (.ireturn, 1) := by decide +kernel
theorem dX0_record_0 : decode cX0_record 0 = .ok (.aload_n 0, 1) := by decide +kernel
theorem dX0_record_1 : decode cX0_record 1 = .ok (.aload_n 0, 1) := by decide +kernel
theorem dX0_record_2 : decode cX0_record 2 = .ok (.getfield 22, 3) := by decide +kernel
theorem dX0_record_5 : decode cX0_record 5 = .ok (.invokevirtual 25, 3) := by decide +kernel
theorem dX0_record_8 : decode cX0_record 8 = .ok (.astore_n 2, 1) := by decide +kernel
theorem dX0_record_9 : decode cX0_record 9 = .ok (.aload_n 2, 1) := by decide +kernel
theorem dX0_record_10 : decode cX0_record 10 = .ok (.ifnull 46, 3) := by decide +kernel
theorem dX0_record_13 : decode cX0_record 13 = .ok (.aload_n 2, 1) := by decide +kernel
theorem dX0_record_14 : decode cX0_record 14 = .ok (.aload_n 1, 1) := by decide +kernel
theorem dX0_record_15 : decode cX0_record 15 = .ok (.invokevirtual 29, 3) := by decide +kernel
theorem dX0_record_18 : decode cX0_record 18 = .ok (.aload_n 0, 1) := by decide +kernel
theorem dX0_record_19 : decode cX0_record 19 = .ok (.aload_n 0, 1) := by decide +kernel
theorem dX0_record_20 : decode cX0_record 20 = .ok (.getfield 22, 3) := by decide +kernel
theorem dX0_record_23 : decode cX0_record 23 = .ok (.iconst 1, 1) := by decide +kernel
theorem dX0_record_24 : decode cX0_record 24 = .ok (.iadd, 1) := by decide +kernel
theorem dX0_record_25 : decode cX0_record 25 = .ok (.iconst 4, 1) := by decide +kernel
theorem dX0_record_26 : decode cX0_record 26 = .ok (.if_icmp .ge 12, 3) := by decide +kernel
theorem dX0_record_29 : decode cX0_record 29 = .ok (.aload_n 0, 1) := by decide +kernel
theorem dX0_record_30 : decode cX0_record 30 = .ok (.getfield 22, 3) := by decide +kernel
theorem dX0_record_33 : decode cX0_record 33 = .ok (.iconst 1, 1) := by decide +kernel
theorem dX0_record_34 : decode cX0_record 34 = .ok (.iadd, 1) := by decide +kernel
theorem dX0_record_35 : decode cX0_record 35 = .ok (.goto 4, 3) := by decide +kernel
theorem dX0_record_38 : decode cX0_record 38 = .ok (.iconst 0, 1) := by decide +kernel
theorem dX0_record_39 : decode cX0_record 39 = .ok (.putfield 22, 3) := by decide +kernel
theorem dX0_record_42 : decode cX0_record 42 = .ok (.aload_n 0, 1) := by decide +kernel
theorem dX0_record_43 : decode cX0_record 43 = .ok (.aload_n 0, 1) := by decide +kernel
theorem dX0_record_44 : decode cX0_record 44 = .ok (.getfield 18, 3) := by decide +kernel
theorem dX0_record_47 : decode cX0_record 47 = .ok (.iconst 1, 1) := by decide +kernel
theorem dX0_record_48 : decode cX0_record 48 = .ok (.iadd, 1) := by decide +kernel
theorem dX0_record_49 : decode cX0_record 49 = .ok (.iconst 4, 1) := by decide +kernel
theorem dX0_record_50 : decode cX0_record 50 = .ok (.invokestatic 33, 3) := by decide +kernel
theorem dX0_record_53 : decode cX0_record 53 = .ok (.putfield 18, 3) := by decide +kernel
theorem dX0_record_56 : decode cX0_record 56 = .ok (.return_, 1) := by decide +kernel
theorem dX0_takeLatest_0 : decode cX0_takeLatest 0 = .ok (.aload_n 0, 1) := by decide +kernel
theorem dX0_takeLatest_1 : decode cX0_takeLatest 1 = .ok (.getfield 22, 3) := by decide +kernel
theorem dX0_takeLatest_4 : decode cX0_takeLatest 4 = .ok (.ifCond .le 12, 3) := by decide +kernel
theorem dX0_takeLatest_7 : decode cX0_takeLatest 7 = .ok (.aload_n 0, 1) := by decide +kernel
theorem dX0_takeLatest_8 : decode cX0_takeLatest 8 = .ok (.getfield 22, 3) := by decide +kernel
theorem dX0_takeLatest_11 : decode cX0_takeLatest 11 = .ok (.iconst 1, 1) := by decide +kernel
theorem dX0_takeLatest_12 : decode cX0_takeLatest 12 = .ok (.isub, 1) := by decide +kernel
theorem dX0_takeLatest_13 : decode cX0_takeLatest 13 = .ok (.goto 4, 3) := by decide +kernel
theorem dX0_takeLatest_16 : decode cX0_takeLatest 16 = .ok (.iconst 3, 1) := by decide +kernel
theorem dX0_takeLatest_17 : decode cX0_takeLatest 17 = .ok (.istore_n 2, 1) := by decide +kernel
theorem dX0_takeLatest_18 : decode cX0_takeLatest 18 = .ok (.aload_n 0, 1) := by decide +kernel
theorem dX0_takeLatest_19 : decode cX0_takeLatest 19 = .ok (.iload_n 2, 1) := by decide +kernel
theorem dX0_takeLatest_20 : decode cX0_takeLatest 20 = .ok (.invokevirtual 25, 3) := by decide +kernel
theorem dX0_takeLatest_23 : decode cX0_takeLatest 23 = .ok (.astore_n 3, 1) := by decide +kernel
theorem dX0_takeLatest_24 : decode cX0_takeLatest 24 = .ok (.aload_n 3, 1) := by decide +kernel
theorem dX0_takeLatest_25 : decode cX0_takeLatest 25 = .ok (.ifnull 30, 3) := by decide +kernel
theorem dX0_takeLatest_28 : decode cX0_takeLatest 28 = .ok (.aload_n 0, 1) := by decide +kernel
theorem dX0_takeLatest_29 : decode cX0_takeLatest 29 = .ok (.getfield 18, 3) := by decide +kernel
theorem dX0_takeLatest_32 : decode cX0_takeLatest 32 = .ok (.ifCond .le 23, 3) := by decide +kernel
theorem dX0_takeLatest_35 : decode cX0_takeLatest 35 = .ok (.aload_n 1, 1) := by decide +kernel
theorem dX0_takeLatest_36 : decode cX0_takeLatest 36 = .ok (.aload_n 3, 1) := by decide +kernel
theorem dX0_takeLatest_37 : decode cX0_takeLatest 37 = .ok (.invokevirtual 29, 3) := by decide +kernel
theorem dX0_takeLatest_40 : decode cX0_takeLatest 40 = .ok (.aload_n 0, 1) := by decide +kernel
theorem dX0_takeLatest_41 : decode cX0_takeLatest 41 = .ok (.iload_n 2, 1) := by decide +kernel
theorem dX0_takeLatest_42 : decode cX0_takeLatest 42 = .ok (.putfield 22, 3) := by decide +kernel
theorem dX0_takeLatest_45 : decode cX0_takeLatest 45 = .ok (.aload_n 0, 1) := by decide +kernel
theorem dX0_takeLatest_46 : decode cX0_takeLatest 46 = .ok (.dup, 1) := by decide +kernel
theorem dX0_takeLatest_47 : decode cX0_takeLatest 47 = .ok (.getfield 18, 3) := by decide +kernel
theorem dX0_takeLatest_50 : decode cX0_takeLatest 50 = .ok (.iconst 1, 1) := by decide +kernel
theorem dX0_takeLatest_51 : decode cX0_takeLatest 51 = .ok (.isub, 1) := by decide +kernel
theorem dX0_takeLatest_52 : decode cX0_takeLatest 52 = .ok (.putfield 18, 3) := by decide +kernel
theorem dX0_takeLatest_55 : decode cX0_takeLatest 55 = .ok (.return_, 1) := by decide +kernel
theorem dX0_row_0 : decode cX0_row 0 = .ok (.iload_n 1, 1) := by decide +kernel
theorem dX0_row_1 : decode cX0_row 1 = .ok (.ifCond .lt 17, 3) := by decide +kernel
theorem dX0_row_4 : decode cX0_row 4 = .ok (.iload_n 1, 1) := by decide +kernel
theorem dX0_row_5 : decode cX0_row 5 = .ok (.iconst 4, 1) := by decide +kernel
theorem dX0_row_6 : decode cX0_row 6 = .ok (.if_icmp .ge 12, 3) := by decide +kernel
theorem dX0_row_9 : decode cX0_row 9 = .ok (.aload_n 0, 1) := by decide +kernel
theorem dX0_row_10 : decode cX0_row 10 = .ok (.getfield 11, 3) := by decide +kernel
theorem dX0_row_13 : decode cX0_row 13 = .ok (.iload_n 1, 1) := by decide +kernel
theorem dX0_row_14 : decode cX0_row 14 = .ok (.aaload, 1) := by decide +kernel
theorem dX0_row_15 : decode cX0_row 15 = .ok (.goto 4, 3) := by decide +kernel
theorem dX0_row_18 : decode cX0_row 18 = .ok (.aconst_null, 1) := by decide +kernel
theorem dX0_row_19 : decode cX0_row 19 = .ok (.areturn, 1) := by decide +kernel
theorem dX1_init_0 : decode cX1_init 0 = .ok (.aload_n 0, 1) := by decide +kernel
theorem dX1_init_1 : decode cX1_init 1 = .ok (.invokespecial 3, 3) := by decide +kernel
theorem dX1_init_4 : decode cX1_init 4 = .ok (.aload_n 0, 1) := by decide +kernel
theorem dX1_init_5 : decode cX1_init 5 = .ok (.bipush 24, 2) := by decide +kernel
theorem dX1_init_7 : decode cX1_init 7 = .ok (.newarray .int, 2) := by decide +kernel
theorem dX1_init_9 : decode cX1_init 9 = .ok (.putfield 9, 3) := by decide +kernel
theorem dX1_init_12 : decode cX1_init 12 = .ok (.aload_n 0, 1) := by decide +kernel
theorem dX1_init_13 : decode cX1_init 13 = .ok (.bipush 24, 2) := by decide +kernel
theorem dX1_init_15 : decode cX1_init 15 = .ok (.newarray .int, 2) := by decide +kernel
theorem dX1_init_17 : decode cX1_init 17 = .ok (.putfield 15, 3) := by decide +kernel
theorem dX1_init_20 : decode cX1_init 20 = .ok (.iconst 0, 1) := by decide +kernel
theorem dX1_init_21 : decode cX1_init 21 = .ok (.istore_n 1, 1) := by decide +kernel
theorem dX1_init_22 : decode cX1_init 22 = .ok (.iload_n 1, 1) := by decide +kernel
theorem dX1_init_23 : decode cX1_init 23 = .ok (.bipush 24, 2) := by decide +kernel
theorem dX1_init_25 : decode cX1_init 25 = .ok (.if_icmp .ge 39, 3) := by decide +kernel
theorem dX1_init_28 : decode cX1_init 28 = .ok (.iload_n 1, 1) := by decide +kernel
theorem dX1_init_29 : decode cX1_init 29 = .ok (.iconst 1, 1) := by decide +kernel
theorem dX1_init_30 : decode cX1_init 30 = .ok (.iadd, 1) := by decide +kernel
theorem dX1_init_31 : decode cX1_init 31 = .ok (.bipush 24, 2) := by decide +kernel
theorem dX1_init_33 : decode cX1_init 33 = .ok (.if_icmp .ge 9, 3) := by decide +kernel
theorem dX1_init_36 : decode cX1_init 36 = .ok (.iload_n 1, 1) := by decide +kernel
theorem dX1_init_37 : decode cX1_init 37 = .ok (.iconst 1, 1) := by decide +kernel
theorem dX1_init_38 : decode cX1_init 38 = .ok (.iadd, 1) := by decide +kernel
theorem dX1_init_39 : decode cX1_init 39 = .ok (.goto 4, 3) := by decide +kernel
theorem dX1_init_42 : decode cX1_init 42 = .ok (.iconst 0, 1) := by decide +kernel
theorem dX1_init_43 : decode cX1_init 43 = .ok (.istore_n 2, 1) := by decide +kernel
theorem dX1_init_44 : decode cX1_init 44 = .ok (.aload_n 0, 1) := by decide +kernel
theorem dX1_init_45 : decode cX1_init 45 = .ok (.getfield 9, 3) := by decide +kernel
theorem dX1_init_48 : decode cX1_init 48 = .ok (.iload_n 1, 1) := by decide +kernel
theorem dX1_init_49 : decode cX1_init 49 = .ok (.iload_n 2, 1) := by decide +kernel
theorem dX1_init_50 : decode cX1_init 50 = .ok (.iastore, 1) := by decide +kernel
theorem dX1_init_51 : decode cX1_init 51 = .ok (.aload_n 0, 1) := by decide +kernel
theorem dX1_init_52 : decode cX1_init 52 = .ok (.getfield 15, 3) := by decide +kernel
theorem dX1_init_55 : decode cX1_init 55 = .ok (.iload_n 2, 1) := by decide +kernel
theorem dX1_init_56 : decode cX1_init 56 = .ok (.iload_n 1, 1) := by decide +kernel
theorem dX1_init_57 : decode cX1_init 57 = .ok (.iastore, 1) := by decide +kernel
theorem dX1_init_58 : decode cX1_init 58 = .ok (.iinc 1 1, 3) := by decide +kernel
theorem dX1_init_61 : decode cX1_init 61 = .ok (.goto (-39), 3) := by decide +kernel
theorem dX1_init_64 : decode cX1_init 64 = .ok (.return_, 1) := by decide +kernel
theorem dX1_copy_0 : decode cX1_copy 0 = .ok (.aload_n 1, 1) := by decide +kernel
theorem dX1_copy_1 : decode cX1_copy 1 = .ok (.getfield 9, 3) := by decide +kernel
theorem dX1_copy_4 : decode cX1_copy 4 = .ok (.iconst 0, 1) := by decide +kernel
theorem dX1_copy_5 : decode cX1_copy 5 = .ok (.aload_n 0, 1) := by decide +kernel
theorem dX1_copy_6 : decode cX1_copy 6 = .ok (.getfield 9, 3) := by decide +kernel
theorem dX1_copy_9 : decode cX1_copy 9 = .ok (.iconst 0, 1) := by decide +kernel
theorem dX1_copy_10 : decode cX1_copy 10 = .ok (.bipush 24, 2) := by decide +kernel
theorem dX1_copy_12 : decode cX1_copy 12 = .ok (.invokestatic 18, 3) := by decide +kernel
theorem dX1_copy_15 : decode cX1_copy 15 = .ok (.aload_n 1, 1) := by decide +kernel
theorem dX1_copy_16 : decode cX1_copy 16 = .ok (.getfield 15, 3) := by decide +kernel
theorem dX1_copy_19 : decode cX1_copy 19 = .ok (.iconst 0, 1) := by decide +kernel
theorem dX1_copy_20 : decode cX1_copy 20 = .ok (.aload_n 0, 1) := by decide +kernel
theorem dX1_copy_21 : decode cX1_copy 21 = .ok (.getfield 15, 3) := by decide +kernel
theorem dX1_copy_24 : decode cX1_copy 24 = .ok (.iconst 0, 1) := by decide +kernel
theorem dX1_copy_25 : decode cX1_copy 25 = .ok (.bipush 24, 2) := by decide +kernel
theorem dX1_copy_27 : decode cX1_copy 27 = .ok (.invokestatic 18, 3) := by decide +kernel
theorem dX1_copy_30 : decode cX1_copy 30 = .ok (.return_, 1) := by decide +kernel
theorem dX1_take_0 : decode cX1_take 0 = .ok (.iconst 0, 1) := by decide +kernel
theorem dX1_take_1 : decode cX1_take 1 = .ok (.istore_n 2, 1) := by decide +kernel
theorem dX1_take_2 : decode cX1_take 2 = .ok (.iload_n 2, 1) := by decide +kernel
theorem dX1_take_3 : decode cX1_take 3 = .ok (.bipush 24, 2) := by decide +kernel
theorem dX1_take_5 : decode cX1_take 5 = .ok (.if_icmp .ge 19, 3) := by decide +kernel
theorem dX1_take_8 : decode cX1_take 8 = .ok (.aload_n 0, 1) := by decide +kernel
theorem dX1_take_9 : decode cX1_take 9 = .ok (.iload_n 2, 1) := by decide +kernel
theorem dX1_take_10 : decode cX1_take 10 = .ok (.aload_n 1, 1) := by decide +kernel
theorem dX1_take_11 : decode cX1_take 11 = .ok (.iload_n 2, 1) := by decide +kernel
theorem dX1_take_12 : decode cX1_take 12 = .ok (.invokevirtual 24, 3) := by decide +kernel
theorem dX1_take_15 : decode cX1_take 15 = .ok (.invokevirtual 30, 3) := by decide +kernel
theorem dX1_take_18 : decode cX1_take 18 = .ok (.iinc 2 1, 3) := by decide +kernel
theorem dX1_take_21 : decode cX1_take 21 = .ok (.goto (-19), 3) := by decide +kernel
theorem dX1_take_24 : decode cX1_take 24 = .ok (.return_, 1) := by decide +kernel
theorem dX1_swapTargets_0 : decode cX1_swapTargets 0 = .ok (.aload_n 0, 1) := by decide +kernel
theorem dX1_swapTargets_1 : decode cX1_swapTargets 1 = .ok (.iload_n 1, 1) := by decide +kernel
theorem dX1_swapTargets_2 : decode cX1_swapTargets 2 = .ok (.invokevirtual 34, 3) := by decide +kernel
theorem dX1_swapTargets_5 : decode cX1_swapTargets 5 = .ok (.istore_n 3, 1) := by decide +kernel
theorem dX1_swapTargets_6 : decode cX1_swapTargets 6 = .ok (.aload_n 0, 1) := by decide +kernel
theorem dX1_swapTargets_7 : decode cX1_swapTargets 7 = .ok (.iload_n 1, 1) := by decide +kernel
theorem dX1_swapTargets_8 : decode cX1_swapTargets 8 = .ok (.aload_n 0, 1) := by decide +kernel
theorem dX1_swapTargets_9 : decode cX1_swapTargets 9 = .ok (.iload_n 2, 1) := by decide +kernel
theorem dX1_swapTargets_10 : decode cX1_swapTargets 10 = .ok (.invokevirtual 34, 3) := by decide +kernel
theorem dX1_swapTargets_13 : decode cX1_swapTargets 13 = .ok (.invokevirtual 30, 3) := by decide +kernel
theorem dX1_swapTargets_16 : decode cX1_swapTargets 16 = .ok (.aload_n 0, 1) := by decide +kernel
theorem dX1_swapTargets_17 : decode cX1_swapTargets 17 = .ok (.iload_n 2, 1) := by decide +kernel
theorem dX1_swapTargets_18 : decode cX1_swapTargets 18 = .ok (.iload_n 3, 1) := by decide +kernel
theorem dX1_swapTargets_19 : decode cX1_swapTargets 19 = .ok (.invokevirtual 30, 3) := by decide +kernel
theorem dX1_swapTargets_22 : decode cX1_swapTargets 22 = .ok (.return_, 1) := by decide +kernel
theorem dX1_turnBack_0 : decode cX1_turnBack 0 = .ok (.aload_n 0, 1) := by decide +kernel
theorem dX1_turnBack_1 : decode cX1_turnBack 1 = .ok (.getfield 9, 3) := by decide +kernel
theorem dX1_turnBack_4 : decode cX1_turnBack 4 = .ok (.astore_n 1, 1) := by decide +kernel
theorem dX1_turnBack_5 : decode cX1_turnBack 5 = .ok (.aload_n 0, 1) := by decide +kernel
theorem dX1_turnBack_6 : decode cX1_turnBack 6 = .ok (.aload_n 0, 1) := by decide +kernel
theorem dX1_turnBack_7 : decode cX1_turnBack 7 = .ok (.getfield 15, 3) := by decide +kernel
theorem dX1_turnBack_10 : decode cX1_turnBack 10 = .ok (.putfield 9, 3) := by decide +kernel
theorem dX1_turnBack_13 : decode cX1_turnBack 13 = .ok (.aload_n 0, 1) := by decide +kernel
theorem dX1_turnBack_14 : decode cX1_turnBack 14 = .ok (.aload_n 1, 1) := by decide +kernel
theorem dX1_turnBack_15 : decode cX1_turnBack 15 = .ok (.putfield 15, 3) := by decide +kernel
theorem dX1_turnBack_18 : decode cX1_turnBack 18 = .ok (.return_, 1) := by decide +kernel
theorem dX1_send_0 : decode cX1_send 0 = .ok (.iload_n 1, 1) := by decide +kernel
theorem dX1_send_1 : decode cX1_send 1 = .ok (.invokestatic 35, 3) := by decide +kernel
theorem dX1_send_4 : decode cX1_send 4 = .ok (.ifCond .eq 24, 3) := by decide +kernel
theorem dX1_send_7 : decode cX1_send 7 = .ok (.iload_n 2, 1) := by decide +kernel
theorem dX1_send_8 : decode cX1_send 8 = .ok (.invokestatic 35, 3) := by decide +kernel
theorem dX1_send_11 : decode cX1_send 11 = .ok (.ifCond .eq 17, 3) := by decide +kernel
theorem dX1_send_14 : decode cX1_send 14 = .ok (.aload_n 0, 1) := by decide +kernel
theorem dX1_send_15 : decode cX1_send 15 = .ok (.getfield 9, 3) := by decide +kernel
theorem dX1_send_18 : decode cX1_send 18 = .ok (.iload_n 1, 1) := by decide +kernel
theorem dX1_send_19 : decode cX1_send 19 = .ok (.iload_n 2, 1) := by decide +kernel
theorem dX1_send_20 : decode cX1_send 20 = .ok (.iastore, 1) := by decide +kernel
theorem dX1_send_21 : decode cX1_send 21 = .ok (.aload_n 0, 1) := by decide +kernel
theorem dX1_send_22 : decode cX1_send 22 = .ok (.getfield 15, 3) := by decide +kernel
theorem dX1_send_25 : decode cX1_send 25 = .ok (.iload_n 2, 1) := by decide +kernel
theorem dX1_send_26 : decode cX1_send 26 = .ok (.iload_n 1, 1) := by decide +kernel
theorem dX1_send_27 : decode cX1_send 27 = .ok (.iastore, 1) := by decide +kernel
theorem dX1_send_28 : decode cX1_send 28 = .ok (.return_, 1) := by decide +kernel
theorem dX1_target_0 : decode cX1_target 0 = .ok (.iload_n 1, 1) := by decide +kernel
theorem dX1_target_1 : decode cX1_target 1 = .ok (.invokestatic 35, 3) := by decide +kernel
theorem dX1_target_4 : decode cX1_target 4 = .ok (.ifCond .eq 12, 3) := by decide +kernel
theorem dX1_target_7 : decode cX1_target 7 = .ok (.aload_n 0, 1) := by decide +kernel
theorem dX1_target_8 : decode cX1_target 8 = .ok (.getfield 9, 3) := by decide +kernel
theorem dX1_target_11 : decode cX1_target 11 = .ok (.iload_n 1, 1) := by decide +kernel
theorem dX1_target_12 : decode cX1_target 12 = .ok (.iaload, 1) := by decide +kernel
theorem dX1_target_13 : decode cX1_target 13 = .ok (.goto 4, 3) := by decide +kernel
theorem dX1_target_16 : decode cX1_target 16 = .ok (.iconst (-1), 1) := by decide +kernel
theorem dX1_target_17 : decode cX1_target 17 = .ok (.ireturn, 1) := by decide +kernel
theorem dX1_source_0 : decode cX1_source 0 = .ok (.iload_n 1, 1) := by decide +kernel
theorem dX1_source_1 : decode cX1_source 1 = .ok (.invokestatic 35, 3) := by decide +kernel
theorem dX1_source_4 : decode cX1_source 4 = .ok (.ifCond .eq 12, 3) := by decide +kernel
theorem dX1_source_7 : decode cX1_source 7 = .ok (.aload_n 0, 1) := by decide +kernel
theorem dX1_source_8 : decode cX1_source 8 = .ok (.getfield 15, 3) := by decide +kernel
theorem dX1_source_11 : decode cX1_source 11 = .ok (.iload_n 1, 1) := by decide +kernel
theorem dX1_source_12 : decode cX1_source 12 = .ok (.iaload, 1) := by decide +kernel
theorem dX1_source_13 : decode cX1_source 13 = .ok (.goto 4, 3) := by decide +kernel
theorem dX1_source_16 : decode cX1_source 16 = .ok (.iconst (-1), 1) := by decide +kernel
theorem dX1_source_17 : decode cX1_source 17 = .ok (.ireturn, 1) := by decide +kernel
theorem dX1_round_0 : decode cX1_round 0 = .ok (.iconst 0, 1) := by decide +kernel
theorem dX1_round_1 : decode cX1_round 1 = .ok (.istore_n 2, 1) := by decide +kernel
theorem dX1_round_2 : decode cX1_round 2 = .ok (.iload_n 1, 1) := by decide +kernel
theorem dX1_round_3 : decode cX1_round 3 = .ok (.istore_n 3, 1) := by decide +kernel
theorem dX1_round_4 : decode cX1_round 4 = .ok (.iconst 0, 1) := by decide +kernel
theorem dX1_round_5 : decode cX1_round 5 = .ok (.istore 4, 2) := by decide +kernel
theorem dX1_round_7 : decode cX1_round 7 = .ok (.iload 4, 2) := by decide +kernel
theorem dX1_round_9 : decode cX1_round 9 = .ok (.bipush 24, 2) := by decide +kernel
theorem dX1_round_11 : decode cX1_round 11 = .ok (.if_icmp .ge 38, 3) := by decide +kernel
theorem dX1_round_14 : decode cX1_round 14 = .ok (.iload_n 3, 1) := by decide +kernel
theorem dX1_round_15 : decode cX1_round 15 = .ok (.invokestatic 35, 3) := by decide +kernel
theorem dX1_round_18 : decode cX1_round 18 = .ok (.ifCond .eq 31, 3) := by decide +kernel
theorem dX1_round_21 : decode cX1_round 21 = .ok (.iload_n 2, 1) := by decide +kernel
theorem dX1_round_22 : decode cX1_round 22 = .ok (.iload_n 3, 1) := by decide +kernel
theorem dX1_round_23 : decode cX1_round 23 = .ok (.invokestatic 39, 3) := by decide +kernel
theorem dX1_round_26 : decode cX1_round 26 = .ok (.ifCond .ne 23, 3) := by decide +kernel
theorem dX1_round_29 : decode cX1_round 29 = .ok (.iload_n 2, 1) := by decide +kernel
theorem dX1_round_30 : decode cX1_round 30 = .ok (.iload_n 3, 1) := by decide +kernel
theorem dX1_round_31 : decode cX1_round 31 = .ok (.invokestatic 43, 3) := by decide +kernel
theorem dX1_round_34 : decode cX1_round 34 = .ok (.ior, 1) := by decide +kernel
theorem dX1_round_35 : decode cX1_round 35 = .ok (.istore_n 2, 1) := by decide +kernel
theorem dX1_round_36 : decode cX1_round 36 = .ok (.aload_n 0, 1) := by decide +kernel
theorem dX1_round_37 : decode cX1_round 37 = .ok (.getfield 9, 3) := by decide +kernel
theorem dX1_round_40 : decode cX1_round 40 = .ok (.iload_n 3, 1) := by decide +kernel
theorem dX1_round_41 : decode cX1_round 41 = .ok (.iaload, 1) := by decide +kernel
theorem dX1_round_42 : decode cX1_round 42 = .ok (.istore_n 3, 1) := by decide +kernel
theorem dX1_round_43 : decode cX1_round 43 = .ok (.iinc 4 1, 3) := by decide +kernel
theorem dX1_round_46 : decode cX1_round 46 = .ok (.goto (-39), 3) := by decide +kernel
theorem dX1_round_49 : decode cX1_round 49 = .ok (.iload_n 2, 1) := by decide +kernel
theorem dX1_round_50 : decode cX1_round 50 = .ok (.ireturn, 1) := by decide +kernel
theorem dX1_order_0 : decode cX1_order 0 = .ok (.iconst 1, 1) := by decide +kernel
theorem dX1_order_1 : decode cX1_order 1 = .ok (.istore_n 1, 1) := by decide +kernel
theorem dX1_order_2 : decode cX1_order 2 = .ok (.iconst 0, 1) := by decide +kernel
theorem dX1_order_3 : decode cX1_order 3 = .ok (.istore_n 2, 1) := by decide +kernel
theorem dX1_order_4 : decode cX1_order 4 = .ok (.iconst 0, 1) := by decide +kernel
theorem dX1_order_5 : decode cX1_order 5 = .ok (.istore_n 3, 1) := by decide +kernel
theorem dX1_order_6 : decode cX1_order 6 = .ok (.iload_n 3, 1) := by decide +kernel
theorem dX1_order_7 : decode cX1_order 7 = .ok (.bipush 24, 2) := by decide +kernel
theorem dX1_order_9 : decode cX1_order 9 = .ok (.if_icmp .ge 39, 3) := by decide +kernel
theorem dX1_order_12 : decode cX1_order 12 = .ok (.iload_n 2, 1) := by decide +kernel
theorem dX1_order_13 : decode cX1_order 13 = .ok (.iload_n 3, 1) := by decide +kernel
theorem dX1_order_14 : decode cX1_order 14 = .ok (.invokestatic 39, 3) := by decide +kernel
theorem dX1_order_17 : decode cX1_order 17 = .ok (.ifCond .ne 25, 3) := by decide +kernel
theorem dX1_order_20 : decode cX1_order 20 = .ok (.aload_n 0, 1) := by decide +kernel
theorem dX1_order_21 : decode cX1_order 21 = .ok (.iload_n 3, 1) := by decide +kernel
theorem dX1_order_22 : decode cX1_order 22 = .ok (.invokevirtual 46, 3) := by decide +kernel
theorem dX1_order_25 : decode cX1_order 25 = .ok (.istore 4, 2) := by decide +kernel
theorem dX1_order_27 : decode cX1_order 27 = .ok (.iload_n 2, 1) := by decide +kernel
theorem dX1_order_28 : decode cX1_order 28 = .ok (.iload 4, 2) := by decide +kernel
theorem dX1_order_30 : decode cX1_order 30 = .ok (.ior, 1) := by decide +kernel
theorem dX1_order_31 : decode cX1_order 31 = .ok (.istore_n 2, 1) := by decide +kernel
theorem dX1_order_32 : decode cX1_order 32 = .ok (.iload_n 1, 1) := by decide +kernel
theorem dX1_order_33 : decode cX1_order 33 = .ok (.iload 4, 2) := by decide +kernel
theorem dX1_order_35 : decode cX1_order 35 = .ok (.invokestatic 49, 3) := by decide +kernel
theorem dX1_order_38 : decode cX1_order 38 = .ok (.invokestatic 54, 3) := by decide +kernel
theorem dX1_order_41 : decode cX1_order 41 = .ok (.istore_n 1, 1) := by decide +kernel
theorem dX1_order_42 : decode cX1_order 42 = .ok (.iinc 3 1, 3) := by decide +kernel
theorem dX1_order_45 : decode cX1_order 45 = .ok (.goto (-39), 3) := by decide +kernel
theorem dX1_order_48 : decode cX1_order 48 = .ok (.iload_n 1, 1) := by decide +kernel
theorem dX1_order_49 : decode cX1_order 49 = .ok (.ireturn, 1) := by decide +kernel
theorem dX1_rounds_0 : decode cX1_rounds 0 = .ok (.iconst 0, 1) := by decide +kernel
theorem dX1_rounds_1 : decode cX1_rounds 1 = .ok (.istore_n 1, 1) := by decide +kernel
theorem dX1_rounds_2 : decode cX1_rounds 2 = .ok (.iconst 0, 1) := by decide +kernel
theorem dX1_rounds_3 : decode cX1_rounds 3 = .ok (.istore_n 2, 1) := by decide +kernel
theorem dX1_rounds_4 : decode cX1_rounds 4 = .ok (.iconst 0, 1) := by decide +kernel
theorem dX1_rounds_5 : decode cX1_rounds 5 = .ok (.istore_n 3, 1) := by decide +kernel
theorem dX1_rounds_6 : decode cX1_rounds 6 = .ok (.iload_n 3, 1) := by decide +kernel
theorem dX1_rounds_7 : decode cX1_rounds 7 = .ok (.bipush 24, 2) := by decide +kernel
theorem dX1_rounds_9 : decode cX1_rounds 9 = .ok (.if_icmp .ge 28, 3) := by decide +kernel
theorem dX1_rounds_12 : decode cX1_rounds 12 = .ok (.iload_n 2, 1) := by decide +kernel
theorem dX1_rounds_13 : decode cX1_rounds 13 = .ok (.iload_n 3, 1) := by decide +kernel
theorem dX1_rounds_14 : decode cX1_rounds 14 = .ok (.invokestatic 39, 3) := by decide +kernel
theorem dX1_rounds_17 : decode cX1_rounds 17 = .ok (.ifCond .ne 14, 3) := by decide +kernel
theorem dX1_rounds_20 : decode cX1_rounds 20 = .ok (.iload_n 2, 1) := by decide +kernel
theorem dX1_rounds_21 : decode cX1_rounds 21 = .ok (.aload_n 0, 1) := by decide +kernel
theorem dX1_rounds_22 : decode cX1_rounds 22 = .ok (.iload_n 3, 1) := by decide +kernel
theorem dX1_rounds_23 : decode cX1_rounds 23 = .ok (.invokevirtual 46, 3) := by decide +kernel
theorem dX1_rounds_26 : decode cX1_rounds 26 = .ok (.ior, 1) := by decide +kernel
theorem dX1_rounds_27 : decode cX1_rounds 27 = .ok (.istore_n 2, 1) := by decide +kernel
theorem dX1_rounds_28 : decode cX1_rounds 28 = .ok (.iinc 1 1, 3) := by decide +kernel
theorem dX1_rounds_31 : decode cX1_rounds 31 = .ok (.iinc 3 1, 3) := by decide +kernel
theorem dX1_rounds_34 : decode cX1_rounds 34 = .ok (.goto (-28), 3) := by decide +kernel
theorem dX1_rounds_37 : decode cX1_rounds 37 = .ok (.iload_n 1, 1) := by decide +kernel
theorem dX1_rounds_38 : decode cX1_rounds 38 = .ok (.ireturn, 1) := by decide +kernel
theorem dX1_fixedPlaces_0 : decode cX1_fixedPlaces 0 = .ok (.iconst 0, 1) := by decide +kernel
theorem dX1_fixedPlaces_1 : decode cX1_fixedPlaces 1 = .ok (.istore_n 1, 1) := by decide +kernel
theorem dX1_fixedPlaces_2 : decode cX1_fixedPlaces 2 = .ok (.iconst 0, 1) := by decide +kernel
theorem dX1_fixedPlaces_3 : decode cX1_fixedPlaces 3 = .ok (.istore_n 2, 1) := by decide +kernel
theorem dX1_fixedPlaces_4 : decode cX1_fixedPlaces 4 = .ok (.iload_n 2, 1) := by decide +kernel
theorem dX1_fixedPlaces_5 : decode cX1_fixedPlaces 5 = .ok (.bipush 24, 2) := by decide +kernel
theorem dX1_fixedPlaces_7 : decode cX1_fixedPlaces 7 = .ok (.if_icmp .ge 22, 3) := by decide +kernel
theorem dX1_fixedPlaces_10 : decode cX1_fixedPlaces 10 = .ok (.aload_n 0, 1) := by decide +kernel
theorem dX1_fixedPlaces_11 : decode cX1_fixedPlaces 11 = .ok (.getfield 9, 3) := by decide +kernel
theorem dX1_fixedPlaces_14 : decode cX1_fixedPlaces 14 = .ok (.iload_n 2, 1) := by decide +kernel
theorem dX1_fixedPlaces_15 : decode cX1_fixedPlaces 15 = .ok (.iaload, 1) := by decide +kernel
theorem dX1_fixedPlaces_16 : decode cX1_fixedPlaces 16 = .ok (.iload_n 2, 1) := by decide +kernel
theorem dX1_fixedPlaces_17 : decode cX1_fixedPlaces 17 = .ok (.if_icmp .ne 6, 3) := by decide +kernel
theorem dX1_fixedPlaces_20 : decode cX1_fixedPlaces 20 = .ok (.iinc 1 1, 3) := by decide +kernel
theorem dX1_fixedPlaces_23 : decode cX1_fixedPlaces 23 = .ok (.iinc 2 1, 3) := by decide +kernel
theorem dX1_fixedPlaces_26 : decode cX1_fixedPlaces 26 = .ok (.goto (-22), 3) := by decide +kernel
theorem dX1_fixedPlaces_29 : decode cX1_fixedPlaces 29 = .ok (.iload_n 1, 1) := by decide +kernel
theorem dX1_fixedPlaces_30 : decode cX1_fixedPlaces 30 = .ok (.ireturn, 1) := by decide +kernel
theorem dX1_longestRound_0 : decode cX1_longestRound 0 = .ok (.iconst 0, 1) := by decide +kernel
theorem dX1_longestRound_1 : decode cX1_longestRound 1 = .ok (.istore_n 1, 1) := by decide +kernel
theorem dX1_longestRound_2 : decode cX1_longestRound 2 = .ok (.iconst 0, 1) := by decide +kernel
theorem dX1_longestRound_3 : decode cX1_longestRound 3 = .ok (.istore_n 2, 1) := by decide +kernel
theorem dX1_longestRound_4 : decode cX1_longestRound 4 = .ok (.iload_n 2, 1) := by decide +kernel
theorem dX1_longestRound_5 : decode cX1_longestRound 5 = .ok (.bipush 24, 2) := by decide +kernel
theorem dX1_longestRound_7 : decode cX1_longestRound 7 = .ok (.if_icmp .ge 22, 3) := by decide +kernel
theorem dX1_longestRound_10 : decode cX1_longestRound 10 = .ok (.iload_n 1, 1) := by decide +kernel
theorem dX1_longestRound_11 : decode cX1_longestRound 11 = .ok (.aload_n 0, 1) := by decide +kernel
theorem dX1_longestRound_12 : decode cX1_longestRound 12 = .ok (.iload_n 2, 1) := by decide +kernel
theorem dX1_longestRound_13 : decode cX1_longestRound 13 = .ok (.invokevirtual 46, 3) := by decide +kernel
theorem dX1_longestRound_16 : decode cX1_longestRound 16 = .ok (.invokestatic 49, 3) := by decide +kernel
theorem dX1_longestRound_19 : decode cX1_longestRound 19 = .ok (.invokestatic 58, 3) := by decide +kernel
theorem dX1_longestRound_22 : decode cX1_longestRound 22 = .ok (.istore_n 1, 1) := by decide +kernel
theorem dX1_longestRound_23 : decode cX1_longestRound 23 = .ok (.iinc 2 1, 3) := by decide +kernel
theorem dX1_longestRound_26 : decode cX1_longestRound 26 = .ok (.goto (-22), 3) := by decide +kernel
theorem dX1_longestRound_29 : decode cX1_longestRound 29 = .ok (.iload_n 1, 1) := by decide +kernel
theorem dX1_longestRound_30 : decode cX1_longestRound 30 = .ok (.ireturn, 1) := by decide +kernel
theorem dX1_isEven_0 : decode cX1_isEven 0 = .ok (.bipush 24, 2) := by decide +kernel
theorem dX1_isEven_2 : decode cX1_isEven 2 = .ok (.aload_n 0, 1) := by decide +kernel
theorem dX1_isEven_3 : decode cX1_isEven 3 = .ok (.invokevirtual 63, 3) := by decide +kernel
theorem dX1_isEven_6 : decode cX1_isEven 6 = .ok (.isub, 1) := by decide +kernel
theorem dX1_isEven_7 : decode cX1_isEven 7 = .ok (.iconst 2, 1) := by decide +kernel
theorem dX1_isEven_8 : decode cX1_isEven 8 = .ok (.irem, 1) := by decide +kernel
theorem dX1_isEven_9 : decode cX1_isEven 9 = .ok (.ifCond .ne 7, 3) := by decide +kernel
theorem dX1_isEven_12 : decode cX1_isEven 12 = .ok (.iconst 1, 1) := by decide +kernel
theorem dX1_isEven_13 : decode cX1_isEven 13 = .ok (.goto 4, 3) := by decide +kernel
theorem dX1_isEven_16 : decode cX1_isEven 16 = .ok (.iconst 0, 1) := by decide +kernel
theorem dX1_isEven_17 : decode cX1_isEven 17 = .ok (.ireturn, 1) := by decide +kernel
theorem dX1_leavesAll_0 : decode cX1_leavesAll 0 = .ok (.aload_n 0, 1) := by decide +kernel
theorem dX1_leavesAll_1 : decode cX1_leavesAll 1 = .ok (.invokevirtual 67, 3) := by decide +kernel
theorem dX1_leavesAll_4 : decode cX1_leavesAll 4 = .ok (.istore_n 2, 1) := by decide +kernel
theorem dX1_leavesAll_5 : decode cX1_leavesAll 5 = .ok (.iload_n 2, 1) := by decide +kernel
theorem dX1_leavesAll_6 : decode cX1_leavesAll 6 = .ok (.ifCond .le 13, 3) := by decide +kernel
theorem dX1_leavesAll_9 : decode cX1_leavesAll 9 = .ok (.iload_n 1, 1) := by decide +kernel
theorem dX1_leavesAll_10 : decode cX1_leavesAll 10 = .ok (.iload_n 2, 1) := by decide +kernel
theorem dX1_leavesAll_11 : decode cX1_leavesAll 11 = .ok (.irem, 1) := by decide +kernel
theorem dX1_leavesAll_12 : decode cX1_leavesAll 12 = .ok (.ifCond .ne 7, 3) := by decide +kernel
theorem dX1_leavesAll_15 : decode cX1_leavesAll 15 = .ok (.iconst 1, 1) := by decide +kernel
theorem dX1_leavesAll_16 : decode cX1_leavesAll 16 = .ok (.goto 4, 3) := by decide +kernel
theorem dX1_leavesAll_19 : decode cX1_leavesAll 19 = .ok (.iconst 0, 1) := by decide +kernel
theorem dX1_leavesAll_20 : decode cX1_leavesAll 20 = .ok (.ireturn, 1) := by decide +kernel
theorem dX1_targetBehind_0 : decode cX1_targetBehind 0 = .ok (.aload_n 0, 1) := by decide +kernel
theorem dX1_targetBehind_1 : decode cX1_targetBehind 1 = .ok (.iload_n 1, 1) := by decide +kernel
theorem dX1_targetBehind_2 : decode cX1_targetBehind 2 = .ok (.invokevirtual 46, 3) := by decide +kernel
theorem dX1_targetBehind_5 : decode cX1_targetBehind 5 = .ok (.invokestatic 49, 3) := by decide +kernel
theorem dX1_targetBehind_8 : decode cX1_targetBehind 8 = .ok (.istore_n 3, 1) := by decide +kernel
theorem dX1_targetBehind_9 : decode cX1_targetBehind 9 = .ok (.iload_n 3, 1) := by decide +kernel
theorem dX1_targetBehind_10 : decode cX1_targetBehind 10 = .ok (.iconst 1, 1) := by decide +kernel
theorem dX1_targetBehind_11 : decode cX1_targetBehind 11 = .ok (.if_icmp .ge 5, 3) := by decide +kernel
theorem dX1_targetBehind_14 : decode cX1_targetBehind 14 = .ok (.iload_n 1, 1) := by decide +kernel
theorem dX1_targetBehind_15 : decode cX1_targetBehind 15 = .ok (.ireturn, 1) := by decide +kernel
theorem dX1_targetBehind_16 : decode cX1_targetBehind 16 = .ok (.iload_n 2, 1) := by decide +kernel
theorem dX1_targetBehind_17 : decode cX1_targetBehind 17 = .ok (.iload_n 3, 1) := by decide +kernel
theorem dX1_targetBehind_18 : decode cX1_targetBehind 18 = .ok (.invokestatic 70, 3) := by decide +kernel
theorem dX1_targetBehind_21 : decode cX1_targetBehind 21 = .ok (.istore 4, 2) := by decide +kernel
theorem dX1_targetBehind_23 : decode cX1_targetBehind 23 = .ok (.iload_n 1, 1) := by decide +kernel
theorem dX1_targetBehind_24 : decode cX1_targetBehind 24 = .ok (.istore 5, 2) := by decide +kernel
theorem dX1_targetBehind_26 : decode cX1_targetBehind 26 = .ok (.iconst 0, 1) := by decide +kernel
theorem dX1_targetBehind_27 : decode cX1_targetBehind 27 = .ok (.istore 6, 2) := by decide +kernel
theorem dX1_targetBehind_29 : decode cX1_targetBehind 29 = .ok (.iload 6, 2) := by decide +kernel
theorem dX1_targetBehind_31 : decode cX1_targetBehind 31 = .ok (.iload 4, 2) := by decide +kernel
theorem dX1_targetBehind_33 : decode cX1_targetBehind 33 = .ok (.if_icmp .ge 26, 3) := by decide +kernel
theorem dX1_targetBehind_36 : decode cX1_targetBehind 36 = .ok (.iload 5, 2) := by decide +kernel
theorem dX1_targetBehind_38 : decode cX1_targetBehind 38 = .ok (.invokestatic 35, 3) := by decide +kernel
theorem dX1_targetBehind_41 : decode cX1_targetBehind 41 = .ok (.ifCond .eq 18, 3) := by decide +kernel
theorem dX1_targetBehind_44 : decode cX1_targetBehind 44 = .ok (.aload_n 0, 1) := by decide +kernel
theorem dX1_targetBehind_45 : decode cX1_targetBehind 45 = .ok (.getfield 9, 3) := by decide +kernel
theorem dX1_targetBehind_48 : decode cX1_targetBehind 48 = .ok (.iload 5, 2) := by decide +kernel
theorem dX1_targetBehind_50 : decode cX1_targetBehind 50 = .ok (.iaload, 1) := by decide +kernel
theorem dX1_targetBehind_51 : decode cX1_targetBehind 51 = .ok (.istore 5, 2) := by decide +kernel
theorem dX1_targetBehind_53 : decode cX1_targetBehind 53 = .ok (.iinc 6 1, 3) := by decide +kernel
theorem dX1_targetBehind_56 : decode cX1_targetBehind 56 = .ok (.goto (-27), 3) := by decide +kernel
theorem dX1_targetBehind_59 : decode cX1_targetBehind 59 = .ok (.iload 5, 2) := by decide +kernel
theorem dX1_targetBehind_61 : decode cX1_targetBehind 61 = .ok (.ireturn, 1) := by decide +kernel
theorem dX1_moved_0 : decode cX1_moved 0 = .ok (.iconst 0, 1) := by decide +kernel
theorem dX1_moved_1 : decode cX1_moved 1 = .ok (.istore_n 2, 1) := by decide +kernel
theorem dX1_moved_2 : decode cX1_moved 2 = .ok (.iconst 0, 1) := by decide +kernel
theorem dX1_moved_3 : decode cX1_moved 3 = .ok (.istore_n 3, 1) := by decide +kernel
theorem dX1_moved_4 : decode cX1_moved 4 = .ok (.iload_n 3, 1) := by decide +kernel
theorem dX1_moved_5 : decode cX1_moved 5 = .ok (.bipush 24, 2) := by decide +kernel
theorem dX1_moved_7 : decode cX1_moved 7 = .ok (.if_icmp .ge 29, 3) := by decide +kernel
theorem dX1_moved_10 : decode cX1_moved 10 = .ok (.iload_n 1, 1) := by decide +kernel
theorem dX1_moved_11 : decode cX1_moved 11 = .ok (.iload_n 3, 1) := by decide +kernel
theorem dX1_moved_12 : decode cX1_moved 12 = .ok (.invokestatic 39, 3) := by decide +kernel
theorem dX1_moved_15 : decode cX1_moved 15 = .ok (.ifCond .eq 15, 3) := by decide +kernel
theorem dX1_moved_18 : decode cX1_moved 18 = .ok (.iload_n 2, 1) := by decide +kernel
theorem dX1_moved_19 : decode cX1_moved 19 = .ok (.aload_n 0, 1) := by decide +kernel
theorem dX1_moved_20 : decode cX1_moved 20 = .ok (.getfield 9, 3) := by decide +kernel
theorem dX1_moved_23 : decode cX1_moved 23 = .ok (.iload_n 3, 1) := by decide +kernel
theorem dX1_moved_24 : decode cX1_moved 24 = .ok (.iaload, 1) := by decide +kernel
theorem dX1_moved_25 : decode cX1_moved 25 = .ok (.invokestatic 43, 3) := by decide +kernel
theorem dX1_moved_28 : decode cX1_moved 28 = .ok (.ior, 1) := by decide +kernel
theorem dX1_moved_29 : decode cX1_moved 29 = .ok (.istore_n 2, 1) := by decide +kernel
theorem dX1_moved_30 : decode cX1_moved 30 = .ok (.iinc 3 1, 3) := by decide +kernel
theorem dX1_moved_33 : decode cX1_moved 33 = .ok (.goto (-29), 3) := by decide +kernel
theorem dX1_moved_36 : decode cX1_moved 36 = .ok (.iload_n 2, 1) := by decide +kernel
theorem dX1_moved_37 : decode cX1_moved 37 = .ok (.ireturn, 1) := by decide +kernel
theorem dX1_movedBy_0 : decode cX1_movedBy 0 = .ok (.iconst 0, 1) := by decide +kernel
theorem dX1_movedBy_1 : decode cX1_movedBy 1 = .ok (.istore_n 3, 1) := by decide +kernel
theorem dX1_movedBy_2 : decode cX1_movedBy 2 = .ok (.iconst 0, 1) := by decide +kernel
theorem dX1_movedBy_3 : decode cX1_movedBy 3 = .ok (.istore 4, 2) := by decide +kernel
theorem dX1_movedBy_5 : decode cX1_movedBy 5 = .ok (.iload 4, 2) := by decide +kernel
theorem dX1_movedBy_7 : decode cX1_movedBy 7 = .ok (.bipush 24, 2) := by decide +kernel
theorem dX1_movedBy_9 : decode cX1_movedBy 9 = .ok (.if_icmp .ge 31, 3) := by decide +kernel
theorem dX1_movedBy_12 : decode cX1_movedBy 12 = .ok (.iload_n 1, 1) := by decide +kernel
theorem dX1_movedBy_13 : decode cX1_movedBy 13 = .ok (.iload 4, 2) := by decide +kernel
theorem dX1_movedBy_15 : decode cX1_movedBy 15 = .ok (.invokestatic 39, 3) := by decide +kernel
theorem dX1_movedBy_18 : decode cX1_movedBy 18 = .ok (.ifCond .eq 16, 3) := by decide +kernel
theorem dX1_movedBy_21 : decode cX1_movedBy 21 = .ok (.iload_n 3, 1) := by decide +kernel
theorem dX1_movedBy_22 : decode cX1_movedBy 22 = .ok (.aload_n 0, 1) := by decide +kernel
theorem dX1_movedBy_23 : decode cX1_movedBy 23 = .ok (.iload 4, 2) := by decide +kernel
theorem dX1_movedBy_25 : decode cX1_movedBy 25 = .ok (.iload_n 2, 1) := by decide +kernel
theorem dX1_movedBy_26 : decode cX1_movedBy 26 = .ok (.invokevirtual 73, 3) := by decide +kernel
theorem dX1_movedBy_29 : decode cX1_movedBy 29 = .ok (.invokestatic 43, 3) := by decide +kernel
theorem dX1_movedBy_32 : decode cX1_movedBy 32 = .ok (.ior, 1) := by decide +kernel
theorem dX1_movedBy_33 : decode cX1_movedBy 33 = .ok (.istore_n 3, 1) := by decide +kernel
theorem dX1_movedBy_34 : decode cX1_movedBy 34 = .ok (.iinc 4 1, 3) := by decide +kernel
theorem dX1_movedBy_37 : decode cX1_movedBy 37 = .ok (.goto (-32), 3) := by decide +kernel
theorem dX1_movedBy_40 : decode cX1_movedBy 40 = .ok (.iload_n 3, 1) := by decide +kernel
theorem dX1_movedBy_41 : decode cX1_movedBy 41 = .ok (.ireturn, 1) := by decide +kernel
theorem dX1_movesUntilSame_0 : decode cX1_movesUntilSame 0 = .ok (.aload_n 0, 1) := by decide +kernel
theorem dX1_movesUntilSame_1 : decode cX1_movesUntilSame 1 = .ok (.aload_n 0, 1) := by decide +kernel
theorem dX1_movesUntilSame_2 : decode cX1_movesUntilSame 2 = .ok (.iload_n 1, 1) := by decide +kernel
theorem dX1_movesUntilSame_3 : decode cX1_movesUntilSame 3 = .ok (.invokevirtual 76, 3) := by decide +kernel
theorem dX1_movesUntilSame_6 : decode cX1_movesUntilSame 6 = .ok (.iload_n 1, 1) := by decide +kernel
theorem dX1_movesUntilSame_7 : decode cX1_movesUntilSame 7 = .ok (.invokevirtual 79, 3) := by decide +kernel
theorem dX1_movesUntilSame_10 : decode cX1_movesUntilSame 10 = .ok (.iconst 1, 1) := by decide +kernel
theorem dX1_movesUntilSame_11 : decode cX1_movesUntilSame 11 = .ok (.iadd, 1) := by decide +kernel
theorem dX1_movesUntilSame_12 : decode cX1_movesUntilSame 12 = .ok (.ireturn, 1) := by decide +kernel
theorem dX1_movesUntilAlike_0 : decode cX1_movesUntilAlike 0 = .ok (.aload_n 0, 1) := by decide +kernel
theorem dX1_movesUntilAlike_1 : decode cX1_movesUntilAlike 1 = .ok (.invokevirtual 67, 3) := by decide +kernel
theorem dX1_movesUntilAlike_4 : decode cX1_movesUntilAlike 4 = .ok (.istore_n 3, 1) := by decide +kernel
theorem dX1_movesUntilAlike_5 : decode cX1_movesUntilAlike 5 = .ok (.iload_n 1, 1) := by decide +kernel
theorem dX1_movesUntilAlike_6 : decode cX1_movesUntilAlike 6 = .ok (.istore 4, 2) := by decide +kernel
theorem dX1_movesUntilAlike_8 : decode cX1_movesUntilAlike 8 = .ok (.iconst 0, 1) := by decide +kernel
theorem dX1_movesUntilAlike_9 : decode cX1_movesUntilAlike 9 = .ok (.istore 5, 2) := by decide +kernel
theorem dX1_movesUntilAlike_11 : decode cX1_movesUntilAlike 11 = .ok (.iload 5, 2) := by decide +kernel
theorem dX1_movesUntilAlike_13 : decode cX1_movesUntilAlike 13 = .ok (.iload_n 3, 1) := by decide +kernel
theorem dX1_movesUntilAlike_14 : decode cX1_movesUntilAlike 14 = .ok (.if_icmp .ge 26, 3) := by decide +kernel
theorem dX1_movesUntilAlike_17 : decode cX1_movesUntilAlike 17 = .ok (.iload 4, 2) := by decide +kernel
theorem dX1_movesUntilAlike_19 : decode cX1_movesUntilAlike 19 = .ok (.iload_n 2, 1) := by decide +kernel
theorem dX1_movesUntilAlike_20 : decode cX1_movesUntilAlike 20 = .ok (.if_icmp .ne 6, 3) := by decide +kernel
theorem dX1_movesUntilAlike_23 : decode cX1_movesUntilAlike 23 = .ok (.iload 5, 2) := by decide +kernel
theorem dX1_movesUntilAlike_25 : decode cX1_movesUntilAlike 25 = .ok (.ireturn, 1) := by decide +kernel
theorem dX1_movesUntilAlike_26 : decode cX1_movesUntilAlike 26 = .ok (.aload_n 0, 1) := by decide +kernel
theorem dX1_movesUntilAlike_27 : decode cX1_movesUntilAlike 27 = .ok (.iload 4, 2) := by decide +kernel
theorem dX1_movesUntilAlike_29 : decode cX1_movesUntilAlike 29 = .ok (.invokevirtual 76, 3) := by decide +kernel
theorem dX1_movesUntilAlike_32 : decode cX1_movesUntilAlike 32 = .ok (.istore 4, 2) := by decide +kernel
theorem dX1_movesUntilAlike_34 : decode cX1_movesUntilAlike 34 = .ok (.iinc 5 1, 3) := by decide +kernel
theorem dX1_movesUntilAlike_37 : decode cX1_movesUntilAlike 37 = .ok (.goto (-26), 3) := by decide +kernel
theorem dX1_movesUntilAlike_40 : decode cX1_movesUntilAlike 40 = .ok (.bipush (-5), 2) := by decide +kernel
theorem dX1_movesUntilAlike_42 : decode cX1_movesUntilAlike 42 = .ok (.ireturn, 1) := by decide +kernel
theorem dX1_movesUntilMeeting_0 : decode cX1_movesUntilMeeting 0 = .ok (.iload_n 1, 1) := by decide +kernel
theorem dX1_movesUntilMeeting_1 : decode cX1_movesUntilMeeting 1 = .ok (.istore_n 3, 1) := by decide +kernel
theorem dX1_movesUntilMeeting_2 : decode cX1_movesUntilMeeting 2 = .ok (.iconst 0, 1) := by decide +kernel
theorem dX1_movesUntilMeeting_3 : decode cX1_movesUntilMeeting 3 = .ok (.istore 4, 2) := by decide +kernel
theorem dX1_movesUntilMeeting_5 : decode cX1_movesUntilMeeting 5 = .ok (.iload 4, 2) := by decide +kernel
theorem dX1_movesUntilMeeting_7 : decode cX1_movesUntilMeeting 7 = .ok (.bipush 24, 2) := by decide +kernel
theorem dX1_movesUntilMeeting_9 : decode cX1_movesUntilMeeting 9 = .ok (.if_icmp .ge 24, 3) := by decide +kernel
theorem dX1_movesUntilMeeting_12 : decode cX1_movesUntilMeeting 12 = .ok (.iload_n 3, 1) := by decide +kernel
theorem dX1_movesUntilMeeting_13 : decode cX1_movesUntilMeeting 13 = .ok (.iload_n 2, 1) := by decide +kernel
theorem dX1_movesUntilMeeting_14 : decode cX1_movesUntilMeeting 14 = .ok (.iand, 1) := by decide +kernel
theorem dX1_movesUntilMeeting_15 : decode cX1_movesUntilMeeting 15 = .ok (.ifCond .eq 6, 3) := by decide +kernel
theorem dX1_movesUntilMeeting_18 : decode cX1_movesUntilMeeting 18 = .ok (.iload 4, 2) := by decide +kernel
theorem dX1_movesUntilMeeting_20 : decode cX1_movesUntilMeeting 20 = .ok (.ireturn, 1) := by decide +kernel
theorem dX1_movesUntilMeeting_21 : decode cX1_movesUntilMeeting 21 = .ok (.aload_n 0, 1) := by decide +kernel
theorem dX1_movesUntilMeeting_22 : decode cX1_movesUntilMeeting 22 = .ok (.iload_n 3, 1) := by decide +kernel
theorem dX1_movesUntilMeeting_23 : decode cX1_movesUntilMeeting 23 = .ok (.invokevirtual 76, 3) := by decide +kernel
theorem dX1_movesUntilMeeting_26 : decode cX1_movesUntilMeeting 26 = .ok (.istore_n 3, 1) := by decide +kernel
theorem dX1_movesUntilMeeting_27 : decode cX1_movesUntilMeeting 27 = .ok (.iinc 4 1, 3) := by decide +kernel
theorem dX1_movesUntilMeeting_30 : decode cX1_movesUntilMeeting 30 = .ok (.goto (-25), 3) := by decide +kernel
theorem dX1_movesUntilMeeting_33 : decode cX1_movesUntilMeeting 33 = .ok (.bipush (-5), 2) := by decide +kernel
theorem dX1_movesUntilMeeting_35 : decode cX1_movesUntilMeeting 35 = .ok (.ireturn, 1) := by decide +kernel
theorem dX1_hasLikeNumbersInRounds_0 : decode cX1_hasLikeNumbersInRounds 0 = .ok (.iconst 0, 1) := by decide +kernel
theorem dX1_hasLikeNumbersInRounds_1 : decode cX1_hasLikeNumbersInRounds 1 = .ok (.istore_n 3, 1) := by decide +kernel
theorem dX1_hasLikeNumbersInRounds_2 : decode cX1_hasLikeNumbersInRounds 2 = .ok (.iload_n 3, 1) := by decide +kernel
theorem dX1_hasLikeNumbersInRounds_3 : decode cX1_hasLikeNumbersInRounds 3 = .ok (.bipush 24, 2) := by decide +kernel
theorem dX1_hasLikeNumbersInRounds_5 : decode cX1_hasLikeNumbersInRounds 5 = .ok (.if_icmp .ge 35, 3) := by decide +kernel
theorem dX1_hasLikeNumbersInRounds_8 : decode cX1_hasLikeNumbersInRounds 8 = .ok (.aload_n 0, 1) := by decide +kernel
theorem dX1_hasLikeNumbersInRounds_9 : decode cX1_hasLikeNumbersInRounds 9 = .ok (.iload_n 3, 1) := by decide +kernel
theorem dX1_hasLikeNumbersInRounds_10 : decode cX1_hasLikeNumbersInRounds 10 = .ok (.invokevirtual 46, 3) := by decide +kernel
theorem dX1_hasLikeNumbersInRounds_13 : decode cX1_hasLikeNumbersInRounds 13 = .ok (.istore 4, 2) := by decide +kernel
theorem dX1_hasLikeNumbersInRounds_15 : decode cX1_hasLikeNumbersInRounds 15 = .ok (.iload_n 1, 1) := by decide +kernel
theorem dX1_hasLikeNumbersInRounds_16 : decode cX1_hasLikeNumbersInRounds 16 = .ok (.iload 4, 2) := by decide +kernel
theorem dX1_hasLikeNumbersInRounds_18 : decode cX1_hasLikeNumbersInRounds 18 = .ok (.iand, 1) := by decide +kernel
theorem dX1_hasLikeNumbersInRounds_19 : decode cX1_hasLikeNumbersInRounds 19 = .ok (.invokestatic 49, 3) := by decide +kernel
theorem dX1_hasLikeNumbersInRounds_22 : decode cX1_hasLikeNumbersInRounds 22 = .ok (.iload_n 2, 1) := by decide +kernel
theorem dX1_hasLikeNumbersInRounds_23 : decode cX1_hasLikeNumbersInRounds 23 = .ok (.iload 4, 2) := by decide +kernel
theorem dX1_hasLikeNumbersInRounds_25 : decode cX1_hasLikeNumbersInRounds 25 = .ok (.iand, 1) := by decide +kernel
theorem dX1_hasLikeNumbersInRounds_26 : decode cX1_hasLikeNumbersInRounds 26 = .ok (.invokestatic 49, 3) := by decide +kernel
theorem dX1_hasLikeNumbersInRounds_29 : decode cX1_hasLikeNumbersInRounds 29 = .ok (.if_icmp .eq 5, 3) := by decide +kernel
theorem dX1_hasLikeNumbersInRounds_32 : decode cX1_hasLikeNumbersInRounds 32 = .ok (.iconst 0, 1) := by decide +kernel
theorem dX1_hasLikeNumbersInRounds_33 : decode cX1_hasLikeNumbersInRounds 33 = .ok (.ireturn, 1) := by decide +kernel
theorem dX1_hasLikeNumbersInRounds_34 : decode cX1_hasLikeNumbersInRounds 34 = .ok (.iinc 3 1, 3) := by decide +kernel
theorem dX1_hasLikeNumbersInRounds_37 : decode cX1_hasLikeNumbersInRounds 37 = .ok (.goto (-35), 3) := by decide +kernel
theorem dX1_hasLikeNumbersInRounds_40 : decode cX1_hasLikeNumbersInRounds 40 = .ok (.iconst 1, 1) := by decide +kernel
theorem dX1_hasLikeNumbersInRounds_41 : decode cX1_hasLikeNumbersInRounds 41 = .ok (.ireturn, 1) := by decide +kernel
theorem dX2_init_0 : decode cX2_init 0 = .ok (.aload_n 0, 1) := by decide +kernel
theorem dX2_init_1 : decode cX2_init 1 = .ok (.invokespecial 3, 3) := by decide +kernel
theorem dX2_init_4 : decode cX2_init 4 = .ok (.aload_n 0, 1) := by decide +kernel
theorem dX2_init_5 : decode cX2_init 5 = .ok (.bipush 80, 2) := by decide +kernel
theorem dX2_init_7 : decode cX2_init 7 = .ok (.newarray .char, 2) := by decide +kernel
theorem dX2_init_9 : decode cX2_init 9 = .ok (.putfield 9, 3) := by decide +kernel
theorem dX2_init_12 : decode cX2_init 12 = .ok (.aload_n 0, 1) := by decide +kernel
theorem dX2_init_13 : decode cX2_init 13 = .ok (.bipush 24, 2) := by decide +kernel
theorem dX2_init_15 : decode cX2_init 15 = .ok (.newarray .int, 2) := by decide +kernel
theorem dX2_init_17 : decode cX2_init 17 = .ok (.putfield 15, 3) := by decide +kernel
theorem dX2_init_20 : decode cX2_init 20 = .ok (.return_, 1) := by decide +kernel
theorem dX2_length_0 : decode cX2_length 0 = .ok (.aload_n 0, 1) := by decide +kernel
theorem dX2_length_1 : decode cX2_length 1 = .ok (.getfield 19, 3) := by decide +kernel
theorem dX2_length_4 : decode cX2_length 4 = .ok (.ireturn, 1) := by decide +kernel
theorem dX2_faultIndex_0 : decode cX2_faultIndex 0 = .ok (.aload_n 0, 1) := by decide +kernel
theorem dX2_faultIndex_1 : decode cX2_faultIndex 1 = .ok (.getfield 23, 3) := by decide +kernel
theorem dX2_faultIndex_4 : decode cX2_faultIndex 4 = .ok (.ireturn, 1) := by decide +kernel
theorem dX2_faultKind_0 : decode cX2_faultKind 0 = .ok (.aload_n 0, 1) := by decide +kernel
theorem dX2_faultKind_1 : decode cX2_faultKind 1 = .ok (.getfield 26, 3) := by decide +kernel
theorem dX2_faultKind_4 : decode cX2_faultKind 4 = .ok (.ireturn, 1) := by decide +kernel
theorem dX2_target_0 : decode cX2_target 0 = .ok (.iload_n 1, 1) := by decide +kernel
theorem dX2_target_1 : decode cX2_target 1 = .ok (.invokestatic 29, 3) := by decide +kernel
theorem dX2_target_4 : decode cX2_target 4 = .ok (.ifCond .eq 12, 3) := by decide +kernel
theorem dX2_target_7 : decode cX2_target 7 = .ok (.aload_n 0, 1) := by decide +kernel
theorem dX2_target_8 : decode cX2_target 8 = .ok (.getfield 15, 3) := by decide +kernel
theorem dX2_target_11 : decode cX2_target 11 = .ok (.iload_n 1, 1) := by decide +kernel
theorem dX2_target_12 : decode cX2_target 12 = .ok (.iaload, 1) := by decide +kernel
theorem dX2_target_13 : decode cX2_target 13 = .ok (.goto 4, 3) := by decide +kernel
theorem dX2_target_16 : decode cX2_target 16 = .ok (.iconst (-1), 1) := by decide +kernel
theorem dX2_target_17 : decode cX2_target 17 = .ok (.ireturn, 1) := by decide +kernel
theorem dX2_append_0 : decode cX2_append 0 = .ok (.aload_n 0, 1) := by decide +kernel
theorem dX2_append_1 : decode cX2_append 1 = .ok (.getfield 19, 3) := by decide +kernel
theorem dX2_append_4 : decode cX2_append 4 = .ok (.ifCond .lt 32, 3) := by decide +kernel
theorem dX2_append_7 : decode cX2_append 7 = .ok (.aload_n 0, 1) := by decide +kernel
theorem dX2_append_8 : decode cX2_append 8 = .ok (.getfield 19, 3) := by decide +kernel
theorem dX2_append_11 : decode cX2_append 11 = .ok (.bipush 80, 2) := by decide +kernel
theorem dX2_append_13 : decode cX2_append 13 = .ok (.if_icmp .ge 23, 3) := by decide +kernel
theorem dX2_append_16 : decode cX2_append 16 = .ok (.aload_n 0, 1) := by decide +kernel
theorem dX2_append_17 : decode cX2_append 17 = .ok (.getfield 9, 3) := by decide +kernel
theorem dX2_append_20 : decode cX2_append 20 = .ok (.aload_n 0, 1) := by decide +kernel
theorem dX2_append_21 : decode cX2_append 21 = .ok (.getfield 19, 3) := by decide +kernel
theorem dX2_append_24 : decode cX2_append 24 = .ok (.iload_n 1, 1) := by decide +kernel
theorem dX2_append_25 : decode cX2_append 25 = .ok (.castore, 1) := by decide +kernel
theorem dX2_append_26 : decode cX2_append 26 = .ok (.aload_n 0, 1) := by decide +kernel
theorem dX2_append_27 : decode cX2_append 27 = .ok (.dup, 1) := by decide +kernel
theorem dX2_append_28 : decode cX2_append 28 = .ok (.getfield 19, 3) := by decide +kernel
theorem dX2_append_31 : decode cX2_append 31 = .ok (.iconst 1, 1) := by decide +kernel
theorem dX2_append_32 : decode cX2_append 32 = .ok (.iadd, 1) := by decide +kernel
theorem dX2_append_33 : decode cX2_append 33 = .ok (.putfield 19, 3) := by decide +kernel
theorem dX2_append_36 : decode cX2_append 36 = .ok (.return_, 1) := by decide +kernel
theorem dX2_empty_0 : decode cX2_empty 0 = .ok (.aload_n 0, 1) := by decide +kernel
theorem dX2_empty_1 : decode cX2_empty 1 = .ok (.iconst 0, 1) := by decide +kernel
theorem dX2_empty_2 : decode cX2_empty 2 = .ok (.putfield 19, 3) := by decide +kernel
theorem dX2_empty_5 : decode cX2_empty 5 = .ok (.return_, 1) := by decide +kernel
theorem dX2_read_0 : decode cX2_read 0 = .ok (.aload_n 0, 1) := by decide +kernel
theorem dX2_read_1 : decode cX2_read 1 = .ok (.invokevirtual 33, 3) := by decide +kernel
theorem dX2_read_4 : decode cX2_read 4 = .ok (.iconst 0, 1) := by decide +kernel
theorem dX2_read_5 : decode cX2_read 5 = .ok (.istore_n 1, 1) := by decide +kernel
theorem dX2_read_6 : decode cX2_read 6 = .ok (.iload_n 1, 1) := by decide +kernel
theorem dX2_read_7 : decode cX2_read 7 = .ok (.bipush 80, 2) := by decide +kernel
theorem dX2_read_9 : decode cX2_read 9 = .ok (.if_icmp .ge 43, 3) := by decide +kernel
theorem dX2_read_12 : decode cX2_read 12 = .ok (.iload_n 1, 1) := by decide +kernel
theorem dX2_read_13 : decode cX2_read 13 = .ok (.aload_n 0, 1) := by decide +kernel
theorem dX2_read_14 : decode cX2_read 14 = .ok (.getfield 19, 3) := by decide +kernel
theorem dX2_read_17 : decode cX2_read 17 = .ok (.if_icmp .ge 35, 3) := by decide +kernel
theorem dX2_read_20 : decode cX2_read 20 = .ok (.aload_n 0, 1) := by decide +kernel
theorem dX2_read_21 : decode cX2_read 21 = .ok (.getfield 26, 3) := by decide +kernel
theorem dX2_read_24 : decode cX2_read 24 = .ok (.ifCond .ne 28, 3) := by decide +kernel
theorem dX2_read_27 : decode cX2_read 27 = .ok (.aload_n 0, 1) := by decide +kernel
theorem dX2_read_28 : decode cX2_read 28 = .ok (.aload_n 0, 1) := by decide +kernel
theorem dX2_read_29 : decode cX2_read 29 = .ok (.aload_n 0, 1) := by decide +kernel
theorem dX2_read_30 : decode cX2_read 30 = .ok (.getfield 9, 3) := by decide +kernel
theorem dX2_read_33 : decode cX2_read 33 = .ok (.iload_n 1, 1) := by decide +kernel
theorem dX2_read_34 : decode cX2_read 34 = .ok (.caload, 1) := by decide +kernel
theorem dX2_read_35 : decode cX2_read 35 = .ok (.invokevirtual 36, 3) := by decide +kernel
theorem dX2_read_38 : decode cX2_read 38 = .ok (.putfield 26, 3) := by decide +kernel
theorem dX2_read_41 : decode cX2_read 41 = .ok (.aload_n 0, 1) := by decide +kernel
theorem dX2_read_42 : decode cX2_read 42 = .ok (.iload_n 1, 1) := by decide +kernel
theorem dX2_read_43 : decode cX2_read 43 = .ok (.putfield 23, 3) := by decide +kernel
theorem dX2_read_46 : decode cX2_read 46 = .ok (.iinc 1 1, 3) := by decide +kernel
theorem dX2_read_49 : decode cX2_read 49 = .ok (.goto (-43), 3) := by decide +kernel
theorem dX2_read_52 : decode cX2_read 52 = .ok (.aload_n 0, 1) := by decide +kernel
theorem dX2_read_53 : decode cX2_read 53 = .ok (.getfield 26, 3) := by decide +kernel
theorem dX2_read_56 : decode cX2_read 56 = .ok (.ifCond .ne 19, 3) := by decide +kernel
theorem dX2_read_59 : decode cX2_read 59 = .ok (.aload_n 0, 1) := by decide +kernel
theorem dX2_read_60 : decode cX2_read 60 = .ok (.aload_n 0, 1) := by decide +kernel
theorem dX2_read_61 : decode cX2_read 61 = .ok (.invokevirtual 40, 3) := by decide +kernel
theorem dX2_read_64 : decode cX2_read 64 = .ok (.putfield 26, 3) := by decide +kernel
theorem dX2_read_67 : decode cX2_read 67 = .ok (.aload_n 0, 1) := by decide +kernel
theorem dX2_read_68 : decode cX2_read 68 = .ok (.aload_n 0, 1) := by decide +kernel
theorem dX2_read_69 : decode cX2_read 69 = .ok (.getfield 19, 3) := by decide +kernel
theorem dX2_read_72 : decode cX2_read 72 = .ok (.putfield 23, 3) := by decide +kernel
theorem dX2_read_75 : decode cX2_read 75 = .ok (.return_, 1) := by decide +kernel
theorem dX2_startReading_0 : decode cX2_startReading 0 = .ok (.iconst 0, 1) := by decide +kernel
theorem dX2_startReading_1 : decode cX2_startReading 1 = .ok (.istore_n 1, 1) := by decide +kernel
theorem dX2_startReading_2 : decode cX2_startReading 2 = .ok (.iload_n 1, 1) := by decide +kernel
theorem dX2_startReading_3 : decode cX2_startReading 3 = .ok (.bipush 24, 2) := by decide +kernel
theorem dX2_startReading_5 : decode cX2_startReading 5 = .ok (.if_icmp .ge 16, 3) := by decide +kernel
theorem dX2_startReading_8 : decode cX2_startReading 8 = .ok (.aload_n 0, 1) := by decide +kernel
theorem dX2_startReading_9 : decode cX2_startReading 9 = .ok (.getfield 15, 3) := by decide +kernel
theorem dX2_startReading_12 : decode cX2_startReading 12 = .ok (.iload_n 1, 1) := by decide +kernel
theorem dX2_startReading_13 : decode cX2_startReading 13 = .ok (.iload_n 1, 1) := by decide +kernel
theorem dX2_startReading_14 : decode cX2_startReading 14 = .ok (.iastore, 1) := by decide +kernel
theorem dX2_startReading_15 : decode cX2_startReading 15 = .ok (.iinc 1 1, 3) := by decide +kernel
theorem dX2_startReading_18 : decode cX2_startReading 18 = .ok (.goto (-16), 3) := by decide +kernel
theorem dX2_startReading_21 : decode cX2_startReading 21 = .ok (.aload_n 0, 1) := by decide +kernel
theorem dX2_startReading_22 : decode cX2_startReading 22 = .ok (.iconst 0, 1) := by decide +kernel
theorem dX2_startReading_23 : decode cX2_startReading 23 = .ok (.putfield 26, 3) := by decide +kernel
theorem dX2_startReading_26 : decode cX2_startReading 26 = .ok (.aload_n 0, 1) := by decide +kernel
theorem dX2_startReading_27 : decode cX2_startReading 27 = .ok (.iconst 0, 1) := by decide +kernel
theorem dX2_startReading_28 : decode cX2_startReading 28 = .ok (.putfield 44, 3) := by decide +kernel
theorem dX2_startReading_31 : decode cX2_startReading 31 = .ok (.aload_n 0, 1) := by decide +kernel
theorem dX2_startReading_32 : decode cX2_startReading 32 = .ok (.iconst 0, 1) := by decide +kernel
theorem dX2_startReading_33 : decode cX2_startReading 33 = .ok (.putfield 47, 3) := by decide +kernel
theorem dX2_startReading_36 : decode cX2_startReading 36 = .ok (.return_, 1) := by decide +kernel
theorem dX2_faultOf_0 : decode cX2_faultOf 0 = .ok (.aload_n 0, 1) := by decide +kernel
theorem dX2_faultOf_1 : decode cX2_faultOf 1 = .ok (.getfield 44, 3) := by decide +kernel
theorem dX2_faultOf_4 : decode cX2_faultOf 4 = .ok (.lookupswitch 40 #[(0, 28), (1, 34)], 28) := by decide +kernel
theorem dX2_faultOf_32 : decode cX2_faultOf 32 = .ok (.aload_n 0, 1) := by decide +kernel
theorem dX2_faultOf_33 : decode cX2_faultOf 33 = .ok (.iload_n 1, 1) := by decide +kernel
theorem dX2_faultOf_34 : decode cX2_faultOf 34 = .ok (.invokevirtual 50, 3) := by decide +kernel
theorem dX2_faultOf_37 : decode cX2_faultOf 37 = .ok (.ireturn, 1) := by decide +kernel
theorem dX2_faultOf_38 : decode cX2_faultOf 38 = .ok (.aload_n 0, 1) := by decide +kernel
theorem dX2_faultOf_39 : decode cX2_faultOf 39 = .ok (.iload_n 1, 1) := by decide +kernel
theorem dX2_faultOf_40 : decode cX2_faultOf 40 = .ok (.invokevirtual 53, 3) := by decide +kernel
theorem dX2_faultOf_43 : decode cX2_faultOf 43 = .ok (.ireturn, 1) := by decide +kernel
theorem dX2_faultOf_44 : decode cX2_faultOf 44 = .ok (.iload_n 1, 1) := by decide +kernel
theorem dX2_faultOf_45 : decode cX2_faultOf 45 = .ok (.invokestatic 56, 3) := by decide +kernel
theorem dX2_faultOf_48 : decode cX2_faultOf 48 = .ok (.ifCond .eq 11, 3) := by decide +kernel
theorem dX2_faultOf_51 : decode cX2_faultOf 51 = .ok (.aload_n 0, 1) := by decide +kernel
theorem dX2_faultOf_52 : decode cX2_faultOf 52 = .ok (.iload_n 1, 1) := by decide +kernel
theorem dX2_faultOf_53 : decode cX2_faultOf 53 = .ok (.invokevirtual 60, 3) := by decide +kernel
theorem dX2_faultOf_56 : decode cX2_faultOf 56 = .ok (.goto 8, 3) := by decide +kernel
theorem dX2_faultOf_59 : decode cX2_faultOf 59 = .ok (.aload_n 0, 1) := by decide +kernel
theorem dX2_faultOf_60 : decode cX2_faultOf 60 = .ok (.iload_n 1, 1) := by decide +kernel
theorem dX2_faultOf_61 : decode cX2_faultOf 61 = .ok (.invokevirtual 63, 3) := by decide +kernel
theorem dX2_faultOf_64 : decode cX2_faultOf 64 = .ok (.ireturn, 1) := by decide +kernel
theorem dX2_faultOfEnd_0 : decode cX2_faultOfEnd 0 = .ok (.aload_n 0, 1) := by decide +kernel
theorem dX2_faultOfEnd_1 : decode cX2_faultOfEnd 1 = .ok (.getfield 44, 3) := by decide +kernel
theorem dX2_faultOfEnd_4 : decode cX2_faultOfEnd 4 = .ok (.iconst 2, 1) := by decide +kernel
theorem dX2_faultOfEnd_5 : decode cX2_faultOfEnd 5 = .ok (.if_icmp .ne 19, 3) := by decide +kernel
theorem dX2_faultOfEnd_8 : decode cX2_faultOfEnd 8 = .ok (.aload_n 0, 1) := by decide +kernel
theorem dX2_faultOfEnd_9 : decode cX2_faultOfEnd 9 = .ok (.getfield 47, 3) := by decide +kernel
theorem dX2_faultOfEnd_12 : decode cX2_faultOfEnd 12 = .ok (.aload_n 0, 1) := by decide +kernel
theorem dX2_faultOfEnd_13 : decode cX2_faultOfEnd 13 = .ok (.getfield 66, 3) := by decide +kernel
theorem dX2_faultOfEnd_16 : decode cX2_faultOfEnd 16 = .ok (.invokestatic 69, 3) := by decide +kernel
theorem dX2_faultOfEnd_19 : decode cX2_faultOfEnd 19 = .ok (.ifCond .eq 5, 3) := by decide +kernel
theorem dX2_faultOfEnd_22 : decode cX2_faultOfEnd 22 = .ok (.iconst 3, 1) := by decide +kernel
theorem dX2_faultOfEnd_23 : decode cX2_faultOfEnd 23 = .ok (.ireturn, 1) := by decide +kernel
theorem dX2_faultOfEnd_24 : decode cX2_faultOfEnd 24 = .ok (.aload_n 0, 1) := by decide +kernel
theorem dX2_faultOfEnd_25 : decode cX2_faultOfEnd 25 = .ok (.getfield 44, 3) := by decide +kernel
theorem dX2_faultOfEnd_28 : decode cX2_faultOfEnd 28 = .ok (.ifCond .ne 14, 3) := by decide +kernel
theorem dX2_faultOfEnd_31 : decode cX2_faultOfEnd 31 = .ok (.aload_n 0, 1) := by decide +kernel
theorem dX2_faultOfEnd_32 : decode cX2_faultOfEnd 32 = .ok (.getfield 47, 3) := by decide +kernel
theorem dX2_faultOfEnd_35 : decode cX2_faultOfEnd 35 = .ok (.ifCond .eq 7, 3) := by decide +kernel
theorem dX2_faultOfEnd_38 : decode cX2_faultOfEnd 38 = .ok (.iconst 0, 1) := by decide +kernel
theorem dX2_faultOfEnd_39 : decode cX2_faultOfEnd 39 = .ok (.goto 4, 3) := by decide +kernel
theorem dX2_faultOfEnd_42 : decode cX2_faultOfEnd 42 = .ok (.iconst 1, 1) := by decide +kernel
theorem dX2_faultOfEnd_43 : decode cX2_faultOfEnd 43 = .ok (.ireturn, 1) := by decide +kernel
theorem dX2_startRound_0 : decode cX2_startRound 0 = .ok (.iload_n 1, 1) := by decide +kernel
theorem dX2_startRound_1 : decode cX2_startRound 1 = .ok (.bipush 40, 2) := by decide +kernel
theorem dX2_startRound_3 : decode cX2_startRound 3 = .ok (.if_icmp .eq 5, 3) := by decide +kernel
theorem dX2_startRound_6 : decode cX2_startRound 6 = .ok (.iconst 4, 1) := by decide +kernel
theorem dX2_startRound_7 : decode cX2_startRound 7 = .ok (.ireturn, 1) := by decide +kernel
theorem dX2_startRound_8 : decode cX2_startRound 8 = .ok (.aload_n 0, 1) := by decide +kernel
theorem dX2_startRound_9 : decode cX2_startRound 9 = .ok (.bipush (-5), 2) := by decide +kernel
theorem dX2_startRound_11 : decode cX2_startRound 11 = .ok (.putfield 73, 3) := by decide +kernel
theorem dX2_startRound_14 : decode cX2_startRound 14 = .ok (.aload_n 0, 1) := by decide +kernel
theorem dX2_startRound_15 : decode cX2_startRound 15 = .ok (.iconst 1, 1) := by decide +kernel
theorem dX2_startRound_16 : decode cX2_startRound 16 = .ok (.putfield 44, 3) := by decide +kernel
theorem dX2_startRound_19 : decode cX2_startRound 19 = .ok (.iconst 0, 1) := by decide +kernel
theorem dX2_startRound_20 : decode cX2_startRound 20 = .ok (.ireturn, 1) := by decide +kernel
theorem dX2_startPlace_0 : decode cX2_startPlace 0 = .ok (.iload_n 1, 1) := by decide +kernel
theorem dX2_startPlace_1 : decode cX2_startPlace 1 = .ok (.invokestatic 56, 3) := by decide +kernel
theorem dX2_startPlace_4 : decode cX2_startPlace 4 = .ok (.ifCond .ne 5, 3) := by decide +kernel
theorem dX2_startPlace_7 : decode cX2_startPlace 7 = .ok (.iconst 4, 1) := by decide +kernel
theorem dX2_startPlace_8 : decode cX2_startPlace 8 = .ok (.ireturn, 1) := by decide +kernel
theorem dX2_startPlace_9 : decode cX2_startPlace 9 = .ok (.aload_n 0, 1) := by decide +kernel
theorem dX2_startPlace_10 : decode cX2_startPlace 10 = .ok (.iload_n 1, 1) := by decide +kernel
theorem dX2_startPlace_11 : decode cX2_startPlace 11 = .ok (.bipush 48, 2) := by decide +kernel
theorem dX2_startPlace_13 : decode cX2_startPlace 13 = .ok (.isub, 1) := by decide +kernel
theorem dX2_startPlace_14 : decode cX2_startPlace 14 = .ok (.putfield 66, 3) := by decide +kernel
theorem dX2_startPlace_17 : decode cX2_startPlace 17 = .ok (.aload_n 0, 1) := by decide +kernel
theorem dX2_startPlace_18 : decode cX2_startPlace 18 = .ok (.iconst 2, 1) := by decide +kernel
theorem dX2_startPlace_19 : decode cX2_startPlace 19 = .ok (.putfield 44, 3) := by decide +kernel
theorem dX2_startPlace_22 : decode cX2_startPlace 22 = .ok (.iconst 0, 1) := by decide +kernel
theorem dX2_startPlace_23 : decode cX2_startPlace 23 = .ok (.ireturn, 1) := by decide +kernel
theorem dX2_lengthenPlace_0 : decode cX2_lengthenPlace 0 = .ok (.aload_n 0, 1) := by decide +kernel
theorem dX2_lengthenPlace_1 : decode cX2_lengthenPlace 1 = .ok (.getfield 66, 3) := by decide +kernel
theorem dX2_lengthenPlace_4 : decode cX2_lengthenPlace 4 = .ok (.bipush 10, 2) := by decide +kernel
theorem dX2_lengthenPlace_6 : decode cX2_lengthenPlace 6 = .ok (.imul, 1) := by decide +kernel
theorem dX2_lengthenPlace_7 : decode cX2_lengthenPlace 7 = .ok (.iload_n 1, 1) := by decide +kernel
theorem dX2_lengthenPlace_8 : decode cX2_lengthenPlace 8 = .ok (.bipush 48, 2) := by decide +kernel
theorem dX2_lengthenPlace_10 : decode cX2_lengthenPlace 10 = .ok (.isub, 1) := by decide +kernel
theorem dX2_lengthenPlace_11 : decode cX2_lengthenPlace 11 = .ok (.iadd, 1) := by decide +kernel
theorem dX2_lengthenPlace_12 : decode cX2_lengthenPlace 12 = .ok (.istore_n 2, 1) := by decide +kernel
theorem dX2_lengthenPlace_13 : decode cX2_lengthenPlace 13 = .ok (.aload_n 0, 1) := by decide +kernel
theorem dX2_lengthenPlace_14 : decode cX2_lengthenPlace 14 = .ok (.getfield 66, 3) := by decide +kernel
theorem dX2_lengthenPlace_17 : decode cX2_lengthenPlace 17 = .ok (.ifCond .eq 9, 3) := by decide +kernel
theorem dX2_lengthenPlace_20 : decode cX2_lengthenPlace 20 = .ok (.iload_n 2, 1) := by decide +kernel
theorem dX2_lengthenPlace_21 : decode cX2_lengthenPlace 21 = .ok (.bipush 24, 2) := by decide +kernel
theorem dX2_lengthenPlace_23 : decode cX2_lengthenPlace 23 = .ok (.if_icmp .lt 5, 3) := by decide +kernel
theorem dX2_lengthenPlace_26 : decode cX2_lengthenPlace 26 = .ok (.iconst 2, 1) := by decide +kernel
theorem dX2_lengthenPlace_27 : decode cX2_lengthenPlace 27 = .ok (.ireturn, 1) := by decide +kernel
theorem dX2_lengthenPlace_28 : decode cX2_lengthenPlace 28 = .ok (.aload_n 0, 1) := by decide +kernel
theorem dX2_lengthenPlace_29 : decode cX2_lengthenPlace 29 = .ok (.iload_n 2, 1) := by decide +kernel
theorem dX2_lengthenPlace_30 : decode cX2_lengthenPlace 30 = .ok (.putfield 66, 3) := by decide +kernel
theorem dX2_lengthenPlace_33 : decode cX2_lengthenPlace 33 = .ok (.iconst 0, 1) := by decide +kernel
theorem dX2_lengthenPlace_34 : decode cX2_lengthenPlace 34 = .ok (.ireturn, 1) := by decide +kernel
theorem dX2_endPlace_0 : decode cX2_endPlace 0 = .ok (.aload_n 0, 1) := by decide +kernel
theorem dX2_endPlace_1 : decode cX2_endPlace 1 = .ok (.getfield 47, 3) := by decide +kernel
theorem dX2_endPlace_4 : decode cX2_endPlace 4 = .ok (.aload_n 0, 1) := by decide +kernel
theorem dX2_endPlace_5 : decode cX2_endPlace 5 = .ok (.getfield 66, 3) := by decide +kernel
theorem dX2_endPlace_8 : decode cX2_endPlace 8 = .ok (.invokestatic 69, 3) := by decide +kernel
theorem dX2_endPlace_11 : decode cX2_endPlace 11 = .ok (.ifCond .eq 5, 3) := by decide +kernel
theorem dX2_endPlace_14 : decode cX2_endPlace 14 = .ok (.iconst 3, 1) := by decide +kernel
theorem dX2_endPlace_15 : decode cX2_endPlace 15 = .ok (.ireturn, 1) := by decide +kernel
theorem dX2_endPlace_16 : decode cX2_endPlace 16 = .ok (.aload_n 0, 1) := by decide +kernel
theorem dX2_endPlace_17 : decode cX2_endPlace 17 = .ok (.getfield 73, 3) := by decide +kernel
theorem dX2_endPlace_20 : decode cX2_endPlace 20 = .ok (.bipush (-5), 2) := by decide +kernel
theorem dX2_endPlace_22 : decode cX2_endPlace 22 = .ok (.if_icmp .ne 7, 3) := by decide +kernel
theorem dX2_endPlace_25 : decode cX2_endPlace 25 = .ok (.iconst 1, 1) := by decide +kernel
theorem dX2_endPlace_26 : decode cX2_endPlace 26 = .ok (.goto 4, 3) := by decide +kernel
theorem dX2_endPlace_29 : decode cX2_endPlace 29 = .ok (.iconst 0, 1) := by decide +kernel
theorem dX2_endPlace_30 : decode cX2_endPlace 30 = .ok (.istore_n 2, 1) := by decide +kernel
theorem dX2_endPlace_31 : decode cX2_endPlace 31 = .ok (.iload_n 1, 1) := by decide +kernel
theorem dX2_endPlace_32 : decode cX2_endPlace 32 = .ok (.bipush 44, 2) := by decide +kernel
theorem dX2_endPlace_34 : decode cX2_endPlace 34 = .ok (.if_icmp .eq 15, 3) := by decide +kernel
theorem dX2_endPlace_37 : decode cX2_endPlace 37 = .ok (.iload_n 1, 1) := by decide +kernel
theorem dX2_endPlace_38 : decode cX2_endPlace 38 = .ok (.bipush 41, 2) := by decide +kernel
theorem dX2_endPlace_40 : decode cX2_endPlace 40 = .ok (.if_icmp .ne 7, 3) := by decide +kernel
theorem dX2_endPlace_43 : decode cX2_endPlace 43 = .ok (.iload_n 2, 1) := by decide +kernel
theorem dX2_endPlace_44 : decode cX2_endPlace 44 = .ok (.ifCond .eq 5, 3) := by decide +kernel
theorem dX2_endPlace_47 : decode cX2_endPlace 47 = .ok (.iconst 4, 1) := by decide +kernel
theorem dX2_endPlace_48 : decode cX2_endPlace 48 = .ok (.ireturn, 1) := by decide +kernel
theorem dX2_endPlace_49 : decode cX2_endPlace 49 = .ok (.iload_n 2, 1) := by decide +kernel
theorem dX2_endPlace_50 : decode cX2_endPlace 50 = .ok (.ifCond .eq 14, 3) := by decide +kernel
theorem dX2_endPlace_53 : decode cX2_endPlace 53 = .ok (.aload_n 0, 1) := by decide +kernel
theorem dX2_endPlace_54 : decode cX2_endPlace 54 = .ok (.aload_n 0, 1) := by decide +kernel
theorem dX2_endPlace_55 : decode cX2_endPlace 55 = .ok (.getfield 66, 3) := by decide +kernel
theorem dX2_endPlace_58 : decode cX2_endPlace 58 = .ok (.putfield 73, 3) := by decide +kernel
theorem dX2_endPlace_61 : decode cX2_endPlace 61 = .ok (.goto 15, 3) := by decide +kernel
theorem dX2_endPlace_64 : decode cX2_endPlace 64 = .ok (.aload_n 0, 1) := by decide +kernel
theorem dX2_endPlace_65 : decode cX2_endPlace 65 = .ok (.aload_n 0, 1) := by decide +kernel
theorem dX2_endPlace_66 : decode cX2_endPlace 66 = .ok (.getfield 76, 3) := by decide +kernel
theorem dX2_endPlace_69 : decode cX2_endPlace 69 = .ok (.aload_n 0, 1) := by decide +kernel
theorem dX2_endPlace_70 : decode cX2_endPlace 70 = .ok (.getfield 66, 3) := by decide +kernel
theorem dX2_endPlace_73 : decode cX2_endPlace 73 = .ok (.invokevirtual 79, 3) := by decide +kernel
theorem dX2_endPlace_76 : decode cX2_endPlace 76 = .ok (.aload_n 0, 1) := by decide +kernel
theorem dX2_endPlace_77 : decode cX2_endPlace 77 = .ok (.dup, 1) := by decide +kernel
theorem dX2_endPlace_78 : decode cX2_endPlace 78 = .ok (.getfield 47, 3) := by decide +kernel
theorem dX2_endPlace_81 : decode cX2_endPlace 81 = .ok (.aload_n 0, 1) := by decide +kernel
theorem dX2_endPlace_82 : decode cX2_endPlace 82 = .ok (.getfield 66, 3) := by decide +kernel
theorem dX2_endPlace_85 : decode cX2_endPlace 85 = .ok (.invokestatic 83, 3) := by decide +kernel
theorem dX2_endPlace_88 : decode cX2_endPlace 88 = .ok (.ior, 1) := by decide +kernel
theorem dX2_endPlace_89 : decode cX2_endPlace 89 = .ok (.putfield 47, 3) := by decide +kernel
theorem dX2_endPlace_92 : decode cX2_endPlace 92 = .ok (.aload_n 0, 1) := by decide +kernel
theorem dX2_endPlace_93 : decode cX2_endPlace 93 = .ok (.aload_n 0, 1) := by decide +kernel
theorem dX2_endPlace_94 : decode cX2_endPlace 94 = .ok (.getfield 66, 3) := by decide +kernel
theorem dX2_endPlace_97 : decode cX2_endPlace 97 = .ok (.putfield 76, 3) := by decide +kernel
theorem dX2_endPlace_100 : decode cX2_endPlace 100 = .ok (.aload_n 0, 1) := by decide +kernel
theorem dX2_endPlace_101 : decode cX2_endPlace 101 = .ok (.iconst 1, 1) := by decide +kernel
theorem dX2_endPlace_102 : decode cX2_endPlace 102 = .ok (.putfield 44, 3) := by decide +kernel
theorem dX2_endPlace_105 : decode cX2_endPlace 105 = .ok (.iload_n 1, 1) := by decide +kernel
theorem dX2_endPlace_106 : decode cX2_endPlace 106 = .ok (.bipush 41, 2) := by decide +kernel
theorem dX2_endPlace_108 : decode cX2_endPlace 108 = .ok (.if_icmp .ne 20, 3) := by decide +kernel
theorem dX2_endPlace_111 : decode cX2_endPlace 111 = .ok (.aload_n 0, 1) := by decide +kernel
theorem dX2_endPlace_112 : decode cX2_endPlace 112 = .ok (.aload_n 0, 1) := by decide +kernel
theorem dX2_endPlace_113 : decode cX2_endPlace 113 = .ok (.getfield 76, 3) := by decide +kernel
theorem dX2_endPlace_116 : decode cX2_endPlace 116 = .ok (.aload_n 0, 1) := by decide +kernel
theorem dX2_endPlace_117 : decode cX2_endPlace 117 = .ok (.getfield 73, 3) := by decide +kernel
theorem dX2_endPlace_120 : decode cX2_endPlace 120 = .ok (.invokevirtual 79, 3) := by decide +kernel
theorem dX2_endPlace_123 : decode cX2_endPlace 123 = .ok (.aload_n 0, 1) := by decide +kernel
theorem dX2_endPlace_124 : decode cX2_endPlace 124 = .ok (.iconst 0, 1) := by decide +kernel
theorem dX2_endPlace_125 : decode cX2_endPlace 125 = .ok (.putfield 44, 3) := by decide +kernel
theorem dX2_endPlace_128 : decode cX2_endPlace 128 = .ok (.iconst 0, 1) := by decide +kernel
theorem dX2_endPlace_129 : decode cX2_endPlace 129 = .ok (.ireturn, 1) := by decide +kernel
theorem dX2_send_0 : decode cX2_send 0 = .ok (.iload_n 1, 1) := by decide +kernel
theorem dX2_send_1 : decode cX2_send 1 = .ok (.invokestatic 29, 3) := by decide +kernel
theorem dX2_send_4 : decode cX2_send 4 = .ok (.ifCond .eq 17, 3) := by decide +kernel
theorem dX2_send_7 : decode cX2_send 7 = .ok (.iload_n 2, 1) := by decide +kernel
theorem dX2_send_8 : decode cX2_send 8 = .ok (.invokestatic 29, 3) := by decide +kernel
theorem dX2_send_11 : decode cX2_send 11 = .ok (.ifCond .eq 10, 3) := by decide +kernel
theorem dX2_send_14 : decode cX2_send 14 = .ok (.aload_n 0, 1) := by decide +kernel
theorem dX2_send_15 : decode cX2_send 15 = .ok (.getfield 15, 3) := by decide +kernel
theorem dX2_send_18 : decode cX2_send 18 = .ok (.iload_n 1, 1) := by decide +kernel
theorem dX2_send_19 : decode cX2_send 19 = .ok (.iload_n 2, 1) := by decide +kernel
theorem dX2_send_20 : decode cX2_send 20 = .ok (.iastore, 1) := by decide +kernel
theorem dX2_send_21 : decode cX2_send 21 = .ok (.return_, 1) := by decide +kernel
theorem dX2_isDigit_0 : decode cX2_isDigit 0 = .ok (.iload_n 0, 1) := by decide +kernel
theorem dX2_isDigit_1 : decode cX2_isDigit 1 = .ok (.bipush 48, 2) := by decide +kernel
theorem dX2_isDigit_3 : decode cX2_isDigit 3 = .ok (.if_icmp .lt 13, 3) := by decide +kernel
theorem dX2_isDigit_6 : decode cX2_isDigit 6 = .ok (.iload_n 0, 1) := by decide +kernel
theorem dX2_isDigit_7 : decode cX2_isDigit 7 = .ok (.bipush 57, 2) := by decide +kernel
theorem dX2_isDigit_9 : decode cX2_isDigit 9 = .ok (.if_icmp .gt 7, 3) := by decide +kernel
theorem dX2_isDigit_12 : decode cX2_isDigit 12 = .ok (.iconst 1, 1) := by decide +kernel
theorem dX2_isDigit_13 : decode cX2_isDigit 13 = .ok (.goto 4, 3) := by decide +kernel
theorem dX2_isDigit_16 : decode cX2_isDigit 16 = .ok (.iconst 0, 1) := by decide +kernel
theorem dX2_isDigit_17 : decode cX2_isDigit 17 = .ok (.ireturn, 1) := by decide +kernel
theorem dX3_init_0 : decode cX3_init 0 = .ok (.aload_n 0, 1) := by decide +kernel
theorem dX3_init_1 : decode cX3_init 1 = .ok (.invokespecial 3, 3) := by decide +kernel
theorem dX3_init_4 : decode cX3_init 4 = .ok (.aload_n 0, 1) := by decide +kernel
theorem dX3_init_5 : decode cX3_init 5 = .ok (.new 9, 3) := by decide +kernel
theorem dX3_init_8 : decode cX3_init 8 = .ok (.dup, 1) := by decide +kernel
theorem dX3_init_9 : decode cX3_init 9 = .ok (.invokespecial 11, 3) := by decide +kernel
theorem dX3_init_12 : decode cX3_init 12 = .ok (.putfield 12, 3) := by decide +kernel
theorem dX3_init_15 : decode cX3_init 15 = .ok (.aload_n 0, 1) := by decide +kernel
theorem dX3_init_16 : decode cX3_init 16 = .ok (.bipush 12, 2) := by decide +kernel
theorem dX3_init_18 : decode cX3_init 18 = .ok (.newarray .int, 2) := by decide +kernel
theorem dX3_init_20 : decode cX3_init 20 = .ok (.putfield 18, 3) := by decide +kernel
theorem dX3_init_23 : decode cX3_init 23 = .ok (.aload_n 0, 1) := by decide +kernel
theorem dX3_init_24 : decode cX3_init 24 = .ok (.bipush 12, 2) := by decide +kernel
theorem dX3_init_26 : decode cX3_init 26 = .ok (.newarray .int, 2) := by decide +kernel
theorem dX3_init_28 : decode cX3_init 28 = .ok (.putfield 22, 3) := by decide +kernel
theorem dX3_init_31 : decode cX3_init 31 = .ok (.aload_n 0, 1) := by decide +kernel
theorem dX3_init_32 : decode cX3_init 32 = .ok (.bipush 12, 2) := by decide +kernel
theorem dX3_init_34 : decode cX3_init 34 = .ok (.newarray .int, 2) := by decide +kernel
theorem dX3_init_36 : decode cX3_init 36 = .ok (.putfield 25, 3) := by decide +kernel
theorem dX3_init_39 : decode cX3_init 39 = .ok (.return_, 1) := by decide +kernel
theorem dX3_copy_0 : decode cX3_copy 0 = .ok (.aload_n 0, 1) := by decide +kernel
theorem dX3_copy_1 : decode cX3_copy 1 = .ok (.getfield 12, 3) := by decide +kernel
theorem dX3_copy_4 : decode cX3_copy 4 = .ok (.aload_n 1, 1) := by decide +kernel
theorem dX3_copy_5 : decode cX3_copy 5 = .ok (.getfield 12, 3) := by decide +kernel
theorem dX3_copy_8 : decode cX3_copy 8 = .ok (.invokevirtual 28, 3) := by decide +kernel
theorem dX3_copy_11 : decode cX3_copy 11 = .ok (.aload_n 1, 1) := by decide +kernel
theorem dX3_copy_12 : decode cX3_copy 12 = .ok (.getfield 18, 3) := by decide +kernel
theorem dX3_copy_15 : decode cX3_copy 15 = .ok (.iconst 0, 1) := by decide +kernel
theorem dX3_copy_16 : decode cX3_copy 16 = .ok (.aload_n 0, 1) := by decide +kernel
theorem dX3_copy_17 : decode cX3_copy 17 = .ok (.getfield 18, 3) := by decide +kernel
theorem dX3_copy_20 : decode cX3_copy 20 = .ok (.iconst 0, 1) := by decide +kernel
theorem dX3_copy_21 : decode cX3_copy 21 = .ok (.bipush 12, 2) := by decide +kernel
theorem dX3_copy_23 : decode cX3_copy 23 = .ok (.invokestatic 32, 3) := by decide +kernel
theorem dX3_copy_26 : decode cX3_copy 26 = .ok (.aload_n 1, 1) := by decide +kernel
theorem dX3_copy_27 : decode cX3_copy 27 = .ok (.getfield 22, 3) := by decide +kernel
theorem dX3_copy_30 : decode cX3_copy 30 = .ok (.iconst 0, 1) := by decide +kernel
theorem dX3_copy_31 : decode cX3_copy 31 = .ok (.aload_n 0, 1) := by decide +kernel
theorem dX3_copy_32 : decode cX3_copy 32 = .ok (.getfield 22, 3) := by decide +kernel
theorem dX3_copy_35 : decode cX3_copy 35 = .ok (.iconst 0, 1) := by decide +kernel
theorem dX3_copy_36 : decode cX3_copy 36 = .ok (.bipush 12, 2) := by decide +kernel
theorem dX3_copy_38 : decode cX3_copy 38 = .ok (.invokestatic 32, 3) := by decide +kernel
theorem dX3_copy_41 : decode cX3_copy 41 = .ok (.aload_n 1, 1) := by decide +kernel
theorem dX3_copy_42 : decode cX3_copy 42 = .ok (.getfield 25, 3) := by decide +kernel
theorem dX3_copy_45 : decode cX3_copy 45 = .ok (.iconst 0, 1) := by decide +kernel
theorem dX3_copy_46 : decode cX3_copy 46 = .ok (.aload_n 0, 1) := by decide +kernel
theorem dX3_copy_47 : decode cX3_copy 47 = .ok (.getfield 25, 3) := by decide +kernel
theorem dX3_copy_50 : decode cX3_copy 50 = .ok (.iconst 0, 1) := by decide +kernel
theorem dX3_copy_51 : decode cX3_copy 51 = .ok (.bipush 12, 2) := by decide +kernel
theorem dX3_copy_53 : decode cX3_copy 53 = .ok (.invokestatic 32, 3) := by decide +kernel
theorem dX3_copy_56 : decode cX3_copy 56 = .ok (.aload_n 0, 1) := by decide +kernel
theorem dX3_copy_57 : decode cX3_copy 57 = .ok (.aload_n 1, 1) := by decide +kernel
theorem dX3_copy_58 : decode cX3_copy 58 = .ok (.getfield 38, 3) := by decide +kernel
theorem dX3_copy_61 : decode cX3_copy 61 = .ok (.putfield 38, 3) := by decide +kernel
theorem dX3_copy_64 : decode cX3_copy 64 = .ok (.aload_n 0, 1) := by decide +kernel
theorem dX3_copy_65 : decode cX3_copy 65 = .ok (.aload_n 1, 1) := by decide +kernel
theorem dX3_copy_66 : decode cX3_copy 66 = .ok (.getfield 42, 3) := by decide +kernel
theorem dX3_copy_69 : decode cX3_copy 69 = .ok (.putfield 42, 3) := by decide +kernel
theorem dX3_copy_72 : decode cX3_copy 72 = .ok (.aload_n 0, 1) := by decide +kernel
theorem dX3_copy_73 : decode cX3_copy 73 = .ok (.aload_n 1, 1) := by decide +kernel
theorem dX3_copy_74 : decode cX3_copy 74 = .ok (.getfield 45, 3) := by decide +kernel
theorem dX3_copy_77 : decode cX3_copy 77 = .ok (.putfield 45, 3) := by decide +kernel
theorem dX3_copy_80 : decode cX3_copy 80 = .ok (.aload_n 0, 1) := by decide +kernel
theorem dX3_copy_81 : decode cX3_copy 81 = .ok (.aload_n 1, 1) := by decide +kernel
theorem dX3_copy_82 : decode cX3_copy 82 = .ok (.getfield 48, 3) := by decide +kernel
theorem dX3_copy_85 : decode cX3_copy 85 = .ok (.putfield 48, 3) := by decide +kernel
theorem dX3_copy_88 : decode cX3_copy 88 = .ok (.aload_n 0, 1) := by decide +kernel
theorem dX3_copy_89 : decode cX3_copy 89 = .ok (.aload_n 1, 1) := by decide +kernel
theorem dX3_copy_90 : decode cX3_copy 90 = .ok (.getfield 51, 3) := by decide +kernel
theorem dX3_copy_93 : decode cX3_copy 93 = .ok (.putfield 51, 3) := by decide +kernel
theorem dX3_copy_96 : decode cX3_copy 96 = .ok (.return_, 1) := by decide +kernel
theorem dX3_isTicket_0 : decode cX3_isTicket 0 = .ok (.iload_n 1, 1) := by decide +kernel
theorem dX3_isTicket_1 : decode cX3_isTicket 1 = .ok (.ifCond .lt 21, 3) := by decide +kernel
theorem dX3_isTicket_4 : decode cX3_isTicket 4 = .ok (.iload_n 1, 1) := by decide +kernel
theorem dX3_isTicket_5 : decode cX3_isTicket 5 = .ok (.aload_n 0, 1) := by decide +kernel
theorem dX3_isTicket_6 : decode cX3_isTicket 6 = .ok (.getfield 38, 3) := by decide +kernel
theorem dX3_isTicket_9 : decode cX3_isTicket 9 = .ok (.if_icmp .ge 13, 3) := by decide +kernel
theorem dX3_isTicket_12 : decode cX3_isTicket 12 = .ok (.iload_n 1, 1) := by decide +kernel
theorem dX3_isTicket_13 : decode cX3_isTicket 13 = .ok (.bipush 12, 2) := by decide +kernel
theorem dX3_isTicket_15 : decode cX3_isTicket 15 = .ok (.if_icmp .ge 7, 3) := by decide +kernel
theorem dX3_isTicket_18 : decode cX3_isTicket 18 = .ok (.iconst 1, 1) := by decide +kernel
theorem dX3_isTicket_19 : decode cX3_isTicket 19 = .ok (.goto 4, 3) := by decide +kernel
theorem dX3_isTicket_22 : decode cX3_isTicket 22 = .ok (.iconst 0, 1) := by decide +kernel
theorem dX3_isTicket_23 : decode cX3_isTicket 23 = .ok (.ireturn, 1) := by decide +kernel
theorem dX3_holes_0 : decode cX3_holes 0 = .ok (.aload_n 0, 1) := by decide +kernel
theorem dX3_holes_1 : decode cX3_holes 1 = .ok (.iload_n 1, 1) := by decide +kernel
theorem dX3_holes_2 : decode cX3_holes 2 = .ok (.invokevirtual 54, 3) := by decide +kernel
theorem dX3_holes_5 : decode cX3_holes 5 = .ok (.ifCond .eq 12, 3) := by decide +kernel
theorem dX3_holes_8 : decode cX3_holes 8 = .ok (.aload_n 0, 1) := by decide +kernel
theorem dX3_holes_9 : decode cX3_holes 9 = .ok (.getfield 18, 3) := by decide +kernel
theorem dX3_holes_12 : decode cX3_holes 12 = .ok (.iload_n 1, 1) := by decide +kernel
theorem dX3_holes_13 : decode cX3_holes 13 = .ok (.iaload, 1) := by decide +kernel
theorem dX3_holes_14 : decode cX3_holes 14 = .ok (.goto 4, 3) := by decide +kernel
theorem dX3_holes_17 : decode cX3_holes 17 = .ok (.iconst 0, 1) := by decide +kernel
theorem dX3_holes_18 : decode cX3_holes 18 = .ok (.ireturn, 1) := by decide +kernel
theorem dX3_due_0 : decode cX3_due 0 = .ok (.aload_n 0, 1) := by decide +kernel
theorem dX3_due_1 : decode cX3_due 1 = .ok (.iload_n 1, 1) := by decide +kernel
theorem dX3_due_2 : decode cX3_due 2 = .ok (.invokevirtual 54, 3) := by decide +kernel
theorem dX3_due_5 : decode cX3_due 5 = .ok (.ifCond .eq 12, 3) := by decide +kernel
theorem dX3_due_8 : decode cX3_due 8 = .ok (.aload_n 0, 1) := by decide +kernel
theorem dX3_due_9 : decode cX3_due 9 = .ok (.getfield 22, 3) := by decide +kernel
theorem dX3_due_12 : decode cX3_due 12 = .ok (.iload_n 1, 1) := by decide +kernel
theorem dX3_due_13 : decode cX3_due 13 = .ok (.iaload, 1) := by decide +kernel
theorem dX3_due_14 : decode cX3_due 14 = .ok (.goto 4, 3) := by decide +kernel
theorem dX3_due_17 : decode cX3_due 17 = .ok (.iconst 0, 1) := by decide +kernel
theorem dX3_due_18 : decode cX3_due 18 = .ok (.ireturn, 1) := by decide +kernel
theorem dX3_turnedBy_0 : decode cX3_turnedBy 0 = .ok (.aload_n 0, 1) := by decide +kernel
theorem dX3_turnedBy_1 : decode cX3_turnedBy 1 = .ok (.iload_n 1, 1) := by decide +kernel
theorem dX3_turnedBy_2 : decode cX3_turnedBy 2 = .ok (.invokevirtual 54, 3) := by decide +kernel
theorem dX3_turnedBy_5 : decode cX3_turnedBy 5 = .ok (.ifCond .eq 12, 3) := by decide +kernel
theorem dX3_turnedBy_8 : decode cX3_turnedBy 8 = .ok (.aload_n 0, 1) := by decide +kernel
theorem dX3_turnedBy_9 : decode cX3_turnedBy 9 = .ok (.getfield 25, 3) := by decide +kernel
theorem dX3_turnedBy_12 : decode cX3_turnedBy 12 = .ok (.iload_n 1, 1) := by decide +kernel
theorem dX3_turnedBy_13 : decode cX3_turnedBy 13 = .ok (.iaload, 1) := by decide +kernel
theorem dX3_turnedBy_14 : decode cX3_turnedBy 14 = .ok (.goto 4, 3) := by decide +kernel
theorem dX3_turnedBy_17 : decode cX3_turnedBy 17 = .ok (.iconst 0, 1) := by decide +kernel
theorem dX3_turnedBy_18 : decode cX3_turnedBy 18 = .ok (.ireturn, 1) := by decide +kernel
theorem dX3_sold_0 : decode cX3_sold 0 = .ok (.aload_n 0, 1) := by decide +kernel
theorem dX3_sold_1 : decode cX3_sold 1 = .ok (.getfield 38, 3) := by decide +kernel
theorem dX3_sold_4 : decode cX3_sold 4 = .ok (.ireturn, 1) := by decide +kernel
theorem dX3_stacked_0 : decode cX3_stacked 0 = .ok (.aload_n 0, 1) := by decide +kernel
theorem dX3_stacked_1 : decode cX3_stacked 1 = .ok (.getfield 42, 3) := by decide +kernel
theorem dX3_stacked_4 : decode cX3_stacked 4 = .ok (.ireturn, 1) := by decide +kernel
theorem dX3_punched_0 : decode cX3_punched 0 = .ok (.aload_n 0, 1) := by decide +kernel
theorem dX3_punched_1 : decode cX3_punched 1 = .ok (.getfield 45, 3) := by decide +kernel
theorem dX3_punched_4 : decode cX3_punched 4 = .ok (.ireturn, 1) := by decide +kernel
theorem dX3_frauds_0 : decode cX3_frauds 0 = .ok (.aload_n 0, 1) := by decide +kernel
theorem dX3_frauds_1 : decode cX3_frauds 1 = .ok (.getfield 48, 3) := by decide +kernel
theorem dX3_frauds_4 : decode cX3_frauds 4 = .ok (.ireturn, 1) := by decide +kernel
theorem dX3_turns_0 : decode cX3_turns 0 = .ok (.aload_n 0, 1) := by decide +kernel
theorem dX3_turns_1 : decode cX3_turns 1 = .ok (.getfield 51, 3) := by decide +kernel
theorem dX3_turns_4 : decode cX3_turns 4 = .ok (.ireturn, 1) := by decide +kernel
theorem dX3_isFalse_0 : decode cX3_isFalse 0 = .ok (.aload_n 0, 1) := by decide +kernel
theorem dX3_isFalse_1 : decode cX3_isFalse 1 = .ok (.iload_n 1, 1) := by decide +kernel
theorem dX3_isFalse_2 : decode cX3_isFalse 2 = .ok (.invokevirtual 58, 3) := by decide +kernel
theorem dX3_isFalse_5 : decode cX3_isFalse 5 = .ok (.aload_n 0, 1) := by decide +kernel
theorem dX3_isFalse_6 : decode cX3_isFalse 6 = .ok (.iload_n 1, 1) := by decide +kernel
theorem dX3_isFalse_7 : decode cX3_isFalse 7 = .ok (.invokevirtual 61, 3) := by decide +kernel
theorem dX3_isFalse_10 : decode cX3_isFalse 10 = .ok (.if_icmp .eq 7, 3) := by decide +kernel
theorem dX3_isFalse_13 : decode cX3_isFalse 13 = .ok (.iconst 1, 1) := by decide +kernel
theorem dX3_isFalse_14 : decode cX3_isFalse 14 = .ok (.goto 4, 3) := by decide +kernel
theorem dX3_isFalse_17 : decode cX3_isFalse 17 = .ok (.iconst 0, 1) := by decide +kernel
theorem dX3_isFalse_18 : decode cX3_isFalse 18 = .ok (.ireturn, 1) := by decide +kernel
theorem dX3_add_0 : decode cX3_add 0 = .ok (.aload_n 0, 1) := by decide +kernel
theorem dX3_add_1 : decode cX3_add 1 = .ok (.getfield 38, 3) := by decide +kernel
theorem dX3_add_4 : decode cX3_add 4 = .ok (.ifCond .lt 12, 3) := by decide +kernel
theorem dX3_add_7 : decode cX3_add 7 = .ok (.aload_n 0, 1) := by decide +kernel
theorem dX3_add_8 : decode cX3_add 8 = .ok (.getfield 38, 3) := by decide +kernel
theorem dX3_add_11 : decode cX3_add 11 = .ok (.bipush 12, 2) := by decide +kernel
theorem dX3_add_13 : decode cX3_add 13 = .ok (.if_icmp .lt 6, 3) := by decide +kernel
theorem dX3_add_16 : decode cX3_add 16 = .ok (.bipush (-3), 2) := by decide +kernel
theorem dX3_add_18 : decode cX3_add 18 = .ok (.ireturn, 1) := by decide +kernel
theorem dX3_add_19 : decode cX3_add 19 = .ok (.aload_n 0, 1) := by decide +kernel
theorem dX3_add_20 : decode cX3_add 20 = .ok (.getfield 38, 3) := by decide +kernel
theorem dX3_add_23 : decode cX3_add 23 = .ok (.istore_n 2, 1) := by decide +kernel
theorem dX3_add_24 : decode cX3_add 24 = .ok (.aload_n 0, 1) := by decide +kernel
theorem dX3_add_25 : decode cX3_add 25 = .ok (.getfield 18, 3) := by decide +kernel
theorem dX3_add_28 : decode cX3_add 28 = .ok (.iload_n 2, 1) := by decide +kernel
theorem dX3_add_29 : decode cX3_add 29 = .ok (.iload_n 1, 1) := by decide +kernel
theorem dX3_add_30 : decode cX3_add 30 = .ok (.iastore, 1) := by decide +kernel
theorem dX3_add_31 : decode cX3_add 31 = .ok (.aload_n 0, 1) := by decide +kernel
theorem dX3_add_32 : decode cX3_add 32 = .ok (.getfield 22, 3) := by decide +kernel
theorem dX3_add_35 : decode cX3_add 35 = .ok (.iload_n 2, 1) := by decide +kernel
theorem dX3_add_36 : decode cX3_add 36 = .ok (.iload_n 1, 1) := by decide +kernel
theorem dX3_add_37 : decode cX3_add 37 = .ok (.iastore, 1) := by decide +kernel
theorem dX3_add_38 : decode cX3_add 38 = .ok (.aload_n 0, 1) := by decide +kernel
theorem dX3_add_39 : decode cX3_add 39 = .ok (.getfield 25, 3) := by decide +kernel
theorem dX3_add_42 : decode cX3_add 42 = .ok (.iload_n 2, 1) := by decide +kernel
theorem dX3_add_43 : decode cX3_add 43 = .ok (.iconst 0, 1) := by decide +kernel
theorem dX3_add_44 : decode cX3_add 44 = .ok (.iastore, 1) := by decide +kernel
theorem dX3_add_45 : decode cX3_add 45 = .ok (.aload_n 0, 1) := by decide +kernel
theorem dX3_add_46 : decode cX3_add 46 = .ok (.dup, 1) := by decide +kernel
theorem dX3_add_47 : decode cX3_add 47 = .ok (.getfield 38, 3) := by decide +kernel
theorem dX3_add_50 : decode cX3_add 50 = .ok (.iconst 1, 1) := by decide +kernel
theorem dX3_add_51 : decode cX3_add 51 = .ok (.iadd, 1) := by decide +kernel
theorem dX3_add_52 : decode cX3_add 52 = .ok (.putfield 38, 3) := by decide +kernel
theorem dX3_add_55 : decode cX3_add 55 = .ok (.aload_n 0, 1) := by decide +kernel
theorem dX3_add_56 : decode cX3_add 56 = .ok (.dup, 1) := by decide +kernel
theorem dX3_add_57 : decode cX3_add 57 = .ok (.getfield 45, 3) := by decide +kernel
theorem dX3_add_60 : decode cX3_add 60 = .ok (.iload_n 1, 1) := by decide +kernel
theorem dX3_add_61 : decode cX3_add 61 = .ok (.invokestatic 63, 3) := by decide +kernel
theorem dX3_add_64 : decode cX3_add 64 = .ok (.iadd, 1) := by decide +kernel
theorem dX3_add_65 : decode cX3_add 65 = .ok (.putfield 45, 3) := by decide +kernel
theorem dX3_add_68 : decode cX3_add 68 = .ok (.iload_n 2, 1) := by decide +kernel
theorem dX3_add_69 : decode cX3_add 69 = .ok (.ireturn, 1) := by decide +kernel
theorem dX3_punchByRight_0 : decode cX3_punchByRight 0 = .ok (.aload_n 0, 1) := by decide +kernel
theorem dX3_punchByRight_1 : decode cX3_punchByRight 1 = .ok (.iload_n 1, 1) := by decide +kernel
theorem dX3_punchByRight_2 : decode cX3_punchByRight 2 = .ok (.invokevirtual 54, 3) := by decide +kernel
theorem dX3_punchByRight_5 : decode cX3_punchByRight 5 = .ok (.ifCond .eq 39, 3) := by decide +kernel
theorem dX3_punchByRight_8 : decode cX3_punchByRight 8 = .ok (.aload_n 0, 1) := by decide +kernel
theorem dX3_punchByRight_9 : decode cX3_punchByRight 9 = .ok (.getfield 18, 3) := by decide +kernel
theorem dX3_punchByRight_12 : decode cX3_punchByRight 12 = .ok (.iload_n 1, 1) := by decide +kernel
theorem dX3_punchByRight_13 : decode cX3_punchByRight 13 = .ok (.dup2, 1) := by decide +kernel
theorem dX3_punchByRight_14 : decode cX3_punchByRight 14 = .ok (.iaload, 1) := by decide +kernel
theorem dX3_punchByRight_15 : decode cX3_punchByRight 15 = .ok (.iload_n 2, 1) := by decide +kernel
theorem dX3_punchByRight_16 : decode cX3_punchByRight 16 = .ok (.invokestatic 68, 3) := by decide +kernel
theorem dX3_punchByRight_19 : decode cX3_punchByRight 19 = .ok (.ior, 1) := by decide +kernel
theorem dX3_punchByRight_20 : decode cX3_punchByRight 20 = .ok (.iastore, 1) := by decide +kernel
theorem dX3_punchByRight_21 : decode cX3_punchByRight 21 = .ok (.aload_n 0, 1) := by decide +kernel
theorem dX3_punchByRight_22 : decode cX3_punchByRight 22 = .ok (.getfield 22, 3) := by decide +kernel
theorem dX3_punchByRight_25 : decode cX3_punchByRight 25 = .ok (.iload_n 1, 1) := by decide +kernel
theorem dX3_punchByRight_26 : decode cX3_punchByRight 26 = .ok (.dup2, 1) := by decide +kernel
theorem dX3_punchByRight_27 : decode cX3_punchByRight 27 = .ok (.iaload, 1) := by decide +kernel
theorem dX3_punchByRight_28 : decode cX3_punchByRight 28 = .ok (.iload_n 2, 1) := by decide +kernel
theorem dX3_punchByRight_29 : decode cX3_punchByRight 29 = .ok (.invokestatic 68, 3) := by decide +kernel
theorem dX3_punchByRight_32 : decode cX3_punchByRight 32 = .ok (.ior, 1) := by decide +kernel
theorem dX3_punchByRight_33 : decode cX3_punchByRight 33 = .ok (.iastore, 1) := by decide +kernel
theorem dX3_punchByRight_34 : decode cX3_punchByRight 34 = .ok (.aload_n 0, 1) := by decide +kernel
theorem dX3_punchByRight_35 : decode cX3_punchByRight 35 = .ok (.dup, 1) := by decide +kernel
theorem dX3_punchByRight_36 : decode cX3_punchByRight 36 = .ok (.getfield 45, 3) := by decide +kernel
theorem dX3_punchByRight_39 : decode cX3_punchByRight 39 = .ok (.iconst 1, 1) := by decide +kernel
theorem dX3_punchByRight_40 : decode cX3_punchByRight 40 = .ok (.iadd, 1) := by decide +kernel
theorem dX3_punchByRight_41 : decode cX3_punchByRight 41 = .ok (.putfield 45, 3) := by decide +kernel
theorem dX3_punchByRight_44 : decode cX3_punchByRight 44 = .ok (.return_, 1) := by decide +kernel
theorem dX3_changeByFraud_0 : decode cX3_changeByFraud 0 = .ok (.aload_n 0, 1) := by decide +kernel
theorem dX3_changeByFraud_1 : decode cX3_changeByFraud 1 = .ok (.iload_n 1, 1) := by decide +kernel
theorem dX3_changeByFraud_2 : decode cX3_changeByFraud 2 = .ok (.invokevirtual 54, 3) := by decide +kernel
theorem dX3_changeByFraud_5 : decode cX3_changeByFraud 5 = .ok (.ifCond .eq 26, 3) := by decide +kernel
theorem dX3_changeByFraud_8 : decode cX3_changeByFraud 8 = .ok (.aload_n 0, 1) := by decide +kernel
theorem dX3_changeByFraud_9 : decode cX3_changeByFraud 9 = .ok (.getfield 18, 3) := by decide +kernel
theorem dX3_changeByFraud_12 : decode cX3_changeByFraud 12 = .ok (.iload_n 1, 1) := by decide +kernel
theorem dX3_changeByFraud_13 : decode cX3_changeByFraud 13 = .ok (.dup2, 1) := by decide +kernel
theorem dX3_changeByFraud_14 : decode cX3_changeByFraud 14 = .ok (.iaload, 1) := by decide +kernel
theorem dX3_changeByFraud_15 : decode cX3_changeByFraud 15 = .ok (.iload_n 2, 1) := by decide +kernel
theorem dX3_changeByFraud_16 : decode cX3_changeByFraud 16 = .ok (.invokestatic 68, 3) := by decide +kernel
theorem dX3_changeByFraud_19 : decode cX3_changeByFraud 19 = .ok (.ixor, 1) := by decide +kernel
theorem dX3_changeByFraud_20 : decode cX3_changeByFraud 20 = .ok (.iastore, 1) := by decide +kernel
theorem dX3_changeByFraud_21 : decode cX3_changeByFraud 21 = .ok (.aload_n 0, 1) := by decide +kernel
theorem dX3_changeByFraud_22 : decode cX3_changeByFraud 22 = .ok (.dup, 1) := by decide +kernel
theorem dX3_changeByFraud_23 : decode cX3_changeByFraud 23 = .ok (.getfield 48, 3) := by decide +kernel
theorem dX3_changeByFraud_26 : decode cX3_changeByFraud 26 = .ok (.iconst 1, 1) := by decide +kernel
theorem dX3_changeByFraud_27 : decode cX3_changeByFraud 27 = .ok (.iadd, 1) := by decide +kernel
theorem dX3_changeByFraud_28 : decode cX3_changeByFraud 28 = .ok (.putfield 48, 3) := by decide +kernel
theorem dX3_changeByFraud_31 : decode cX3_changeByFraud 31 = .ok (.return_, 1) := by decide +kernel
theorem dX3_makeRight_0 : decode cX3_makeRight 0 = .ok (.aload_n 0, 1) := by decide +kernel
theorem dX3_makeRight_1 : decode cX3_makeRight 1 = .ok (.iload_n 1, 1) := by decide +kernel
theorem dX3_makeRight_2 : decode cX3_makeRight 2 = .ok (.invokevirtual 54, 3) := by decide +kernel
theorem dX3_makeRight_5 : decode cX3_makeRight 5 = .ok (.ifCond .eq 15, 3) := by decide +kernel
theorem dX3_makeRight_8 : decode cX3_makeRight 8 = .ok (.aload_n 0, 1) := by decide +kernel
theorem dX3_makeRight_9 : decode cX3_makeRight 9 = .ok (.getfield 18, 3) := by decide +kernel
theorem dX3_makeRight_12 : decode cX3_makeRight 12 = .ok (.iload_n 1, 1) := by decide +kernel
theorem dX3_makeRight_13 : decode cX3_makeRight 13 = .ok (.aload_n 0, 1) := by decide +kernel
theorem dX3_makeRight_14 : decode cX3_makeRight 14 = .ok (.getfield 22, 3) := by decide +kernel
theorem dX3_makeRight_17 : decode cX3_makeRight 17 = .ok (.iload_n 1, 1) := by decide +kernel
theorem dX3_makeRight_18 : decode cX3_makeRight 18 = .ok (.iaload, 1) := by decide +kernel
theorem dX3_makeRight_19 : decode cX3_makeRight 19 = .ok (.iastore, 1) := by decide +kernel
theorem dX3_makeRight_20 : decode cX3_makeRight 20 = .ok (.return_, 1) := by decide +kernel
theorem dX3_changeStack_0 : decode cX3_changeStack 0 = .ok (.aload_n 0, 1) := by decide +kernel
theorem dX3_changeStack_1 : decode cX3_changeStack 1 = .ok (.dup, 1) := by decide +kernel
theorem dX3_changeStack_2 : decode cX3_changeStack 2 = .ok (.getfield 42, 3) := by decide +kernel
theorem dX3_changeStack_5 : decode cX3_changeStack 5 = .ok (.iload_n 1, 1) := by decide +kernel
theorem dX3_changeStack_6 : decode cX3_changeStack 6 = .ok (.invokestatic 68, 3) := by decide +kernel
theorem dX3_changeStack_9 : decode cX3_changeStack 9 = .ok (.ixor, 1) := by decide +kernel
theorem dX3_changeStack_10 : decode cX3_changeStack 10 = .ok (.putfield 42, 3) := by decide +kernel
theorem dX3_changeStack_13 : decode cX3_changeStack 13 = .ok (.return_, 1) := by decide +kernel
theorem dX3_turnTicket_0 : decode cX3_turnTicket 0 = .ok (.aload_n 0, 1) := by decide +kernel
theorem dX3_turnTicket_1 : decode cX3_turnTicket 1 = .ok (.iload_n 1, 1) := by decide +kernel
theorem dX3_turnTicket_2 : decode cX3_turnTicket 2 = .ok (.invokevirtual 54, 3) := by decide +kernel
theorem dX3_turnTicket_5 : decode cX3_turnTicket 5 = .ok (.ifCond .eq 63, 3) := by decide +kernel
theorem dX3_turnTicket_8 : decode cX3_turnTicket 8 = .ok (.aload_n 0, 1) := by decide +kernel
theorem dX3_turnTicket_9 : decode cX3_turnTicket 9 = .ok (.getfield 18, 3) := by decide +kernel
theorem dX3_turnTicket_12 : decode cX3_turnTicket 12 = .ok (.iload_n 1, 1) := by decide +kernel
theorem dX3_turnTicket_13 : decode cX3_turnTicket 13 = .ok (.aload_n 0, 1) := by decide +kernel
theorem dX3_turnTicket_14 : decode cX3_turnTicket 14 = .ok (.getfield 12, 3) := by decide +kernel
theorem dX3_turnTicket_17 : decode cX3_turnTicket 17 = .ok (.aload_n 0, 1) := by decide +kernel
theorem dX3_turnTicket_18 : decode cX3_turnTicket 18 = .ok (.getfield 18, 3) := by decide +kernel
theorem dX3_turnTicket_21 : decode cX3_turnTicket 21 = .ok (.iload_n 1, 1) := by decide +kernel
theorem dX3_turnTicket_22 : decode cX3_turnTicket 22 = .ok (.iaload, 1) := by decide +kernel
theorem dX3_turnTicket_23 : decode cX3_turnTicket 23 = .ok (.iload_n 2, 1) := by decide +kernel
theorem dX3_turnTicket_24 : decode cX3_turnTicket 24 = .ok (.invokevirtual 71, 3) := by decide +kernel
theorem dX3_turnTicket_27 : decode cX3_turnTicket 27 = .ok (.iastore, 1) := by decide +kernel
theorem dX3_turnTicket_28 : decode cX3_turnTicket 28 = .ok (.aload_n 0, 1) := by decide +kernel
theorem dX3_turnTicket_29 : decode cX3_turnTicket 29 = .ok (.getfield 22, 3) := by decide +kernel
theorem dX3_turnTicket_32 : decode cX3_turnTicket 32 = .ok (.iload_n 1, 1) := by decide +kernel
theorem dX3_turnTicket_33 : decode cX3_turnTicket 33 = .ok (.aload_n 0, 1) := by decide +kernel
theorem dX3_turnTicket_34 : decode cX3_turnTicket 34 = .ok (.getfield 12, 3) := by decide +kernel
theorem dX3_turnTicket_37 : decode cX3_turnTicket 37 = .ok (.aload_n 0, 1) := by decide +kernel
theorem dX3_turnTicket_38 : decode cX3_turnTicket 38 = .ok (.getfield 22, 3) := by decide +kernel
theorem dX3_turnTicket_41 : decode cX3_turnTicket 41 = .ok (.iload_n 1, 1) := by decide +kernel
theorem dX3_turnTicket_42 : decode cX3_turnTicket 42 = .ok (.iaload, 1) := by decide +kernel
theorem dX3_turnTicket_43 : decode cX3_turnTicket 43 = .ok (.iload_n 2, 1) := by decide +kernel
theorem dX3_turnTicket_44 : decode cX3_turnTicket 44 = .ok (.invokevirtual 71, 3) := by decide +kernel
theorem dX3_turnTicket_47 : decode cX3_turnTicket 47 = .ok (.iastore, 1) := by decide +kernel
theorem dX3_turnTicket_48 : decode cX3_turnTicket 48 = .ok (.aload_n 0, 1) := by decide +kernel
theorem dX3_turnTicket_49 : decode cX3_turnTicket 49 = .ok (.getfield 25, 3) := by decide +kernel
theorem dX3_turnTicket_52 : decode cX3_turnTicket 52 = .ok (.iload_n 1, 1) := by decide +kernel
theorem dX3_turnTicket_53 : decode cX3_turnTicket 53 = .ok (.dup2, 1) := by decide +kernel
theorem dX3_turnTicket_54 : decode cX3_turnTicket 54 = .ok (.iaload, 1) := by decide +kernel
theorem dX3_turnTicket_55 : decode cX3_turnTicket 55 = .ok (.iload_n 2, 1) := by decide +kernel
theorem dX3_turnTicket_56 : decode cX3_turnTicket 56 = .ok (.iadd, 1) := by decide +kernel
theorem dX3_turnTicket_57 : decode cX3_turnTicket 57 = .ok (.iastore, 1) := by decide +kernel
theorem dX3_turnTicket_58 : decode cX3_turnTicket 58 = .ok (.aload_n 0, 1) := by decide +kernel
theorem dX3_turnTicket_59 : decode cX3_turnTicket 59 = .ok (.dup, 1) := by decide +kernel
theorem dX3_turnTicket_60 : decode cX3_turnTicket 60 = .ok (.getfield 51, 3) := by decide +kernel
theorem dX3_turnTicket_63 : decode cX3_turnTicket 63 = .ok (.iconst 1, 1) := by decide +kernel
theorem dX3_turnTicket_64 : decode cX3_turnTicket 64 = .ok (.iadd, 1) := by decide +kernel
theorem dX3_turnTicket_65 : decode cX3_turnTicket 65 = .ok (.putfield 51, 3) := by decide +kernel
theorem dX3_turnTicket_68 : decode cX3_turnTicket 68 = .ok (.return_, 1) := by decide +kernel
theorem dX3_turnStacked_0 : decode cX3_turnStacked 0 = .ok (.iconst 0, 1) := by decide +kernel
theorem dX3_turnStacked_1 : decode cX3_turnStacked 1 = .ok (.istore_n 2, 1) := by decide +kernel
theorem dX3_turnStacked_2 : decode cX3_turnStacked 2 = .ok (.iload_n 2, 1) := by decide +kernel
theorem dX3_turnStacked_3 : decode cX3_turnStacked 3 = .ok (.bipush 12, 2) := by decide +kernel
theorem dX3_turnStacked_5 : decode cX3_turnStacked 5 = .ok (.if_icmp .ge 26, 3) := by decide +kernel
theorem dX3_turnStacked_8 : decode cX3_turnStacked 8 = .ok (.aload_n 0, 1) := by decide +kernel
theorem dX3_turnStacked_9 : decode cX3_turnStacked 9 = .ok (.getfield 42, 3) := by decide +kernel
theorem dX3_turnStacked_12 : decode cX3_turnStacked 12 = .ok (.iload_n 2, 1) := by decide +kernel
theorem dX3_turnStacked_13 : decode cX3_turnStacked 13 = .ok (.invokestatic 75, 3) := by decide +kernel
theorem dX3_turnStacked_16 : decode cX3_turnStacked 16 = .ok (.ifCond .eq 9, 3) := by decide +kernel
theorem dX3_turnStacked_19 : decode cX3_turnStacked 19 = .ok (.aload_n 0, 1) := by decide +kernel
theorem dX3_turnStacked_20 : decode cX3_turnStacked 20 = .ok (.iload_n 2, 1) := by decide +kernel
theorem dX3_turnStacked_21 : decode cX3_turnStacked 21 = .ok (.iload_n 1, 1) := by decide +kernel
theorem dX3_turnStacked_22 : decode cX3_turnStacked 22 = .ok (.invokevirtual 79, 3) := by decide +kernel
theorem dX3_turnStacked_25 : decode cX3_turnStacked 25 = .ok (.iinc 2 1, 3) := by decide +kernel
theorem dX3_turnStacked_28 : decode cX3_turnStacked 28 = .ok (.goto (-26), 3) := by decide +kernel
theorem dX3_turnStacked_31 : decode cX3_turnStacked 31 = .ok (.return_, 1) := by decide +kernel
theorem dX3_ticketsWithHole_0 : decode cX3_ticketsWithHole 0 = .ok (.iconst 0, 1) := by decide +kernel
theorem dX3_ticketsWithHole_1 : decode cX3_ticketsWithHole 1 = .ok (.istore_n 2, 1) := by decide +kernel
theorem dX3_ticketsWithHole_2 : decode cX3_ticketsWithHole 2 = .ok (.iconst 0, 1) := by decide +kernel
theorem dX3_ticketsWithHole_3 : decode cX3_ticketsWithHole 3 = .ok (.istore_n 3, 1) := by decide +kernel
theorem dX3_ticketsWithHole_4 : decode cX3_ticketsWithHole 4 = .ok (.iload_n 3, 1) := by decide +kernel
theorem dX3_ticketsWithHole_5 : decode cX3_ticketsWithHole 5 = .ok (.bipush 12, 2) := by decide +kernel
theorem dX3_ticketsWithHole_7 : decode cX3_ticketsWithHole 7 = .ok (.if_icmp .ge 28, 3) := by decide +kernel
theorem dX3_ticketsWithHole_10 : decode cX3_ticketsWithHole 10 = .ok (.aload_n 0, 1) := by decide +kernel
theorem dX3_ticketsWithHole_11 : decode cX3_ticketsWithHole 11 = .ok (.iload_n 3, 1) := by decide +kernel
theorem dX3_ticketsWithHole_12 : decode cX3_ticketsWithHole 12 = .ok (.invokevirtual 58, 3) := by decide +kernel
theorem dX3_ticketsWithHole_15 : decode cX3_ticketsWithHole 15 = .ok (.iload_n 1, 1) := by decide +kernel
theorem dX3_ticketsWithHole_16 : decode cX3_ticketsWithHole 16 = .ok (.invokestatic 75, 3) := by decide +kernel
theorem dX3_ticketsWithHole_19 : decode cX3_ticketsWithHole 19 = .ok (.ifCond .eq 10, 3) := by decide +kernel
theorem dX3_ticketsWithHole_22 : decode cX3_ticketsWithHole 22 = .ok (.iload_n 2, 1) := by decide +kernel
theorem dX3_ticketsWithHole_23 : decode cX3_ticketsWithHole 23 = .ok (.iload_n 3, 1) := by decide +kernel
theorem dX3_ticketsWithHole_24 : decode cX3_ticketsWithHole 24 = .ok (.invokestatic 68, 3) := by decide +kernel
theorem dX3_ticketsWithHole_27 : decode cX3_ticketsWithHole 27 = .ok (.ior, 1) := by decide +kernel
theorem dX3_ticketsWithHole_28 : decode cX3_ticketsWithHole 28 = .ok (.istore_n 2, 1) := by decide +kernel
theorem dX3_ticketsWithHole_29 : decode cX3_ticketsWithHole 29 = .ok (.iinc 3 1, 3) := by decide +kernel
theorem dX3_ticketsWithHole_32 : decode cX3_ticketsWithHole 32 = .ok (.goto (-28), 3) := by decide +kernel
theorem dX3_ticketsWithHole_35 : decode cX3_ticketsWithHole 35 = .ok (.iload_n 2, 1) := by decide +kernel
theorem dX3_ticketsWithHole_36 : decode cX3_ticketsWithHole 36 = .ok (.ireturn, 1) := by decide +kernel
theorem dX3_falseTickets_0 : decode cX3_falseTickets 0 = .ok (.iconst 0, 1) := by decide +kernel
theorem dX3_falseTickets_1 : decode cX3_falseTickets 1 = .ok (.istore_n 1, 1) := by decide +kernel
theorem dX3_falseTickets_2 : decode cX3_falseTickets 2 = .ok (.iconst 0, 1) := by decide +kernel
theorem dX3_falseTickets_3 : decode cX3_falseTickets 3 = .ok (.istore_n 2, 1) := by decide +kernel
theorem dX3_falseTickets_4 : decode cX3_falseTickets 4 = .ok (.iload_n 2, 1) := by decide +kernel
theorem dX3_falseTickets_5 : decode cX3_falseTickets 5 = .ok (.bipush 12, 2) := by decide +kernel
theorem dX3_falseTickets_7 : decode cX3_falseTickets 7 = .ok (.if_icmp .ge 20, 3) := by decide +kernel
theorem dX3_falseTickets_10 : decode cX3_falseTickets 10 = .ok (.aload_n 0, 1) := by decide +kernel
theorem dX3_falseTickets_11 : decode cX3_falseTickets 11 = .ok (.iload_n 2, 1) := by decide +kernel
theorem dX3_falseTickets_12 : decode cX3_falseTickets 12 = .ok (.invokevirtual 83, 3) := by decide +kernel
theorem dX3_falseTickets_15 : decode cX3_falseTickets 15 = .ok (.ifCond .eq 6, 3) := by decide +kernel
theorem dX3_falseTickets_18 : decode cX3_falseTickets 18 = .ok (.iinc 1 1, 3) := by decide +kernel
theorem dX3_falseTickets_21 : decode cX3_falseTickets 21 = .ok (.iinc 2 1, 3) := by decide +kernel
theorem dX3_falseTickets_24 : decode cX3_falseTickets 24 = .ok (.goto (-20), 3) := by decide +kernel
theorem dX3_falseTickets_27 : decode cX3_falseTickets 27 = .ok (.iload_n 1, 1) := by decide +kernel
theorem dX3_falseTickets_28 : decode cX3_falseTickets 28 = .ok (.ireturn, 1) := by decide +kernel
theorem dX3_allHoles_0 : decode cX3_allHoles 0 = .ok (.iconst 0, 1) := by decide +kernel
theorem dX3_allHoles_1 : decode cX3_allHoles 1 = .ok (.istore_n 1, 1) := by decide +kernel
theorem dX3_allHoles_2 : decode cX3_allHoles 2 = .ok (.iconst 0, 1) := by decide +kernel
theorem dX3_allHoles_3 : decode cX3_allHoles 3 = .ok (.istore_n 2, 1) := by decide +kernel
theorem dX3_allHoles_4 : decode cX3_allHoles 4 = .ok (.iload_n 2, 1) := by decide +kernel
theorem dX3_allHoles_5 : decode cX3_allHoles 5 = .ok (.bipush 12, 2) := by decide +kernel
theorem dX3_allHoles_7 : decode cX3_allHoles 7 = .ok (.if_icmp .ge 20, 3) := by decide +kernel
theorem dX3_allHoles_10 : decode cX3_allHoles 10 = .ok (.iload_n 1, 1) := by decide +kernel
theorem dX3_allHoles_11 : decode cX3_allHoles 11 = .ok (.aload_n 0, 1) := by decide +kernel
theorem dX3_allHoles_12 : decode cX3_allHoles 12 = .ok (.iload_n 2, 1) := by decide +kernel
theorem dX3_allHoles_13 : decode cX3_allHoles 13 = .ok (.invokevirtual 58, 3) := by decide +kernel
theorem dX3_allHoles_16 : decode cX3_allHoles 16 = .ok (.invokestatic 63, 3) := by decide +kernel
theorem dX3_allHoles_19 : decode cX3_allHoles 19 = .ok (.iadd, 1) := by decide +kernel
theorem dX3_allHoles_20 : decode cX3_allHoles 20 = .ok (.istore_n 1, 1) := by decide +kernel
theorem dX3_allHoles_21 : decode cX3_allHoles 21 = .ok (.iinc 2 1, 3) := by decide +kernel
theorem dX3_allHoles_24 : decode cX3_allHoles 24 = .ok (.goto (-20), 3) := by decide +kernel
theorem dX3_allHoles_27 : decode cX3_allHoles 27 = .ok (.iload_n 1, 1) := by decide +kernel
theorem dX3_allHoles_28 : decode cX3_allHoles 28 = .ok (.ireturn, 1) := by decide +kernel
theorem dX3_allDue_0 : decode cX3_allDue 0 = .ok (.iconst 0, 1) := by decide +kernel
theorem dX3_allDue_1 : decode cX3_allDue 1 = .ok (.istore_n 1, 1) := by decide +kernel
theorem dX3_allDue_2 : decode cX3_allDue 2 = .ok (.iconst 0, 1) := by decide +kernel
theorem dX3_allDue_3 : decode cX3_allDue 3 = .ok (.istore_n 2, 1) := by decide +kernel
theorem dX3_allDue_4 : decode cX3_allDue 4 = .ok (.iload_n 2, 1) := by decide +kernel
theorem dX3_allDue_5 : decode cX3_allDue 5 = .ok (.bipush 12, 2) := by decide +kernel
theorem dX3_allDue_7 : decode cX3_allDue 7 = .ok (.if_icmp .ge 20, 3) := by decide +kernel
theorem dX3_allDue_10 : decode cX3_allDue 10 = .ok (.iload_n 1, 1) := by decide +kernel
theorem dX3_allDue_11 : decode cX3_allDue 11 = .ok (.aload_n 0, 1) := by decide +kernel
theorem dX3_allDue_12 : decode cX3_allDue 12 = .ok (.iload_n 2, 1) := by decide +kernel
theorem dX3_allDue_13 : decode cX3_allDue 13 = .ok (.invokevirtual 61, 3) := by decide +kernel
theorem dX3_allDue_16 : decode cX3_allDue 16 = .ok (.invokestatic 63, 3) := by decide +kernel
theorem dX3_allDue_19 : decode cX3_allDue 19 = .ok (.iadd, 1) := by decide +kernel
theorem dX3_allDue_20 : decode cX3_allDue 20 = .ok (.istore_n 1, 1) := by decide +kernel
theorem dX3_allDue_21 : decode cX3_allDue 21 = .ok (.iinc 2 1, 3) := by decide +kernel
theorem dX3_allDue_24 : decode cX3_allDue 24 = .ok (.goto (-20), 3) := by decide +kernel
theorem dX3_allDue_27 : decode cX3_allDue 27 = .ok (.iload_n 1, 1) := by decide +kernel
theorem dX3_allDue_28 : decode cX3_allDue 28 = .ok (.ireturn, 1) := by decide +kernel
theorem dX3_kinOf_0 : decode cX3_kinOf 0 = .ok (.iconst 0, 1) := by decide +kernel
theorem dX3_kinOf_1 : decode cX3_kinOf 1 = .ok (.istore_n 2, 1) := by decide +kernel
theorem dX3_kinOf_2 : decode cX3_kinOf 2 = .ok (.aload_n 0, 1) := by decide +kernel
theorem dX3_kinOf_3 : decode cX3_kinOf 3 = .ok (.iload_n 1, 1) := by decide +kernel
theorem dX3_kinOf_4 : decode cX3_kinOf 4 = .ok (.invokevirtual 58, 3) := by decide +kernel
theorem dX3_kinOf_7 : decode cX3_kinOf 7 = .ok (.istore_n 3, 1) := by decide +kernel
theorem dX3_kinOf_8 : decode cX3_kinOf 8 = .ok (.aload_n 0, 1) := by decide +kernel
theorem dX3_kinOf_9 : decode cX3_kinOf 9 = .ok (.getfield 12, 3) := by decide +kernel
theorem dX3_kinOf_12 : decode cX3_kinOf 12 = .ok (.invokevirtual 86, 3) := by decide +kernel
theorem dX3_kinOf_15 : decode cX3_kinOf 15 = .ok (.istore 4, 2) := by decide +kernel
theorem dX3_kinOf_17 : decode cX3_kinOf 17 = .ok (.iconst 0, 1) := by decide +kernel
theorem dX3_kinOf_18 : decode cX3_kinOf 18 = .ok (.istore 5, 2) := by decide +kernel
theorem dX3_kinOf_20 : decode cX3_kinOf 20 = .ok (.iload 5, 2) := by decide +kernel
theorem dX3_kinOf_22 : decode cX3_kinOf 22 = .ok (.iload 4, 2) := by decide +kernel
theorem dX3_kinOf_24 : decode cX3_kinOf 24 = .ok (.if_icmp .ge 26, 3) := by decide +kernel
theorem dX3_kinOf_27 : decode cX3_kinOf 27 = .ok (.iload_n 2, 1) := by decide +kernel
theorem dX3_kinOf_28 : decode cX3_kinOf 28 = .ok (.aload_n 0, 1) := by decide +kernel
theorem dX3_kinOf_29 : decode cX3_kinOf 29 = .ok (.iload_n 3, 1) := by decide +kernel
theorem dX3_kinOf_30 : decode cX3_kinOf 30 = .ok (.invokevirtual 90, 3) := by decide +kernel
theorem dX3_kinOf_33 : decode cX3_kinOf 33 = .ok (.ior, 1) := by decide +kernel
theorem dX3_kinOf_34 : decode cX3_kinOf 34 = .ok (.istore_n 2, 1) := by decide +kernel
theorem dX3_kinOf_35 : decode cX3_kinOf 35 = .ok (.aload_n 0, 1) := by decide +kernel
theorem dX3_kinOf_36 : decode cX3_kinOf 36 = .ok (.getfield 12, 3) := by decide +kernel
theorem dX3_kinOf_39 : decode cX3_kinOf 39 = .ok (.iload_n 3, 1) := by decide +kernel
theorem dX3_kinOf_40 : decode cX3_kinOf 40 = .ok (.invokevirtual 93, 3) := by decide +kernel
theorem dX3_kinOf_43 : decode cX3_kinOf 43 = .ok (.istore_n 3, 1) := by decide +kernel
theorem dX3_kinOf_44 : decode cX3_kinOf 44 = .ok (.iinc 5 1, 3) := by decide +kernel
theorem dX3_kinOf_47 : decode cX3_kinOf 47 = .ok (.goto (-27), 3) := by decide +kernel
theorem dX3_kinOf_50 : decode cX3_kinOf 50 = .ok (.iload_n 2, 1) := by decide +kernel
theorem dX3_kinOf_51 : decode cX3_kinOf 51 = .ok (.ireturn, 1) := by decide +kernel
theorem dX3_ticketsWithHoles_0 : decode cX3_ticketsWithHoles 0 = .ok (.iconst 0, 1) := by decide +kernel
theorem dX3_ticketsWithHoles_1 : decode cX3_ticketsWithHoles 1 = .ok (.istore_n 2, 1) := by decide +kernel
theorem dX3_ticketsWithHoles_2 : decode cX3_ticketsWithHoles 2 = .ok (.iconst 0, 1) := by decide +kernel
theorem dX3_ticketsWithHoles_3 : decode cX3_ticketsWithHoles 3 = .ok (.istore_n 3, 1) := by decide +kernel
theorem dX3_ticketsWithHoles_4 : decode cX3_ticketsWithHoles 4 = .ok (.iload_n 3, 1) := by decide +kernel
theorem dX3_ticketsWithHoles_5 : decode cX3_ticketsWithHoles 5 = .ok (.bipush 12, 2) := by decide +kernel
theorem dX3_ticketsWithHoles_7 : decode cX3_ticketsWithHoles 7 = .ok (.if_icmp .ge 34, 3) := by decide +kernel
theorem dX3_ticketsWithHoles_10 : decode cX3_ticketsWithHoles 10 = .ok (.aload_n 0, 1) := by decide +kernel
theorem dX3_ticketsWithHoles_11 : decode cX3_ticketsWithHoles 11 = .ok (.iload_n 3, 1) := by decide +kernel
theorem dX3_ticketsWithHoles_12 : decode cX3_ticketsWithHoles 12 = .ok (.invokevirtual 54, 3) := by decide +kernel
theorem dX3_ticketsWithHoles_15 : decode cX3_ticketsWithHoles 15 = .ok (.ifCond .eq 20, 3) := by decide +kernel
theorem dX3_ticketsWithHoles_18 : decode cX3_ticketsWithHoles 18 = .ok (.aload_n 0, 1) := by decide +kernel
theorem dX3_ticketsWithHoles_19 : decode cX3_ticketsWithHoles 19 = .ok (.getfield 18, 3) := by decide +kernel
theorem dX3_ticketsWithHoles_22 : decode cX3_ticketsWithHoles 22 = .ok (.iload_n 3, 1) := by decide +kernel
theorem dX3_ticketsWithHoles_23 : decode cX3_ticketsWithHoles 23 = .ok (.iaload, 1) := by decide +kernel
theorem dX3_ticketsWithHoles_24 : decode cX3_ticketsWithHoles 24 = .ok (.iload_n 1, 1) := by decide +kernel
theorem dX3_ticketsWithHoles_25 : decode cX3_ticketsWithHoles 25 = .ok (.if_icmp .ne 10, 3) := by decide +kernel
theorem dX3_ticketsWithHoles_28 : decode cX3_ticketsWithHoles 28 = .ok (.iload_n 2, 1) := by decide +kernel
theorem dX3_ticketsWithHoles_29 : decode cX3_ticketsWithHoles 29 = .ok (.iload_n 3, 1) := by decide +kernel
theorem dX3_ticketsWithHoles_30 : decode cX3_ticketsWithHoles 30 = .ok (.invokestatic 68, 3) := by decide +kernel
theorem dX3_ticketsWithHoles_33 : decode cX3_ticketsWithHoles 33 = .ok (.ior, 1) := by decide +kernel
theorem dX3_ticketsWithHoles_34 : decode cX3_ticketsWithHoles 34 = .ok (.istore_n 2, 1) := by decide +kernel
theorem dX3_ticketsWithHoles_35 : decode cX3_ticketsWithHoles 35 = .ok (.iinc 3 1, 3) := by decide +kernel
theorem dX3_ticketsWithHoles_38 : decode cX3_ticketsWithHoles 38 = .ok (.goto (-34), 3) := by decide +kernel
theorem dX3_ticketsWithHoles_41 : decode cX3_ticketsWithHoles 41 = .ok (.iload_n 2, 1) := by decide +kernel
theorem dX3_ticketsWithHoles_42 : decode cX3_ticketsWithHoles 42 = .ok (.ireturn, 1) := by decide +kernel
theorem dX3_lightPlaces_0 : decode cX3_lightPlaces 0 = .ok (.aload_n 0, 1) := by decide +kernel
theorem dX3_lightPlaces_1 : decode cX3_lightPlaces 1 = .ok (.getfield 42, 3) := by decide +kernel
theorem dX3_lightPlaces_4 : decode cX3_lightPlaces 4 = .ok (.ifCond .ne 7, 3) := by decide +kernel
theorem dX3_lightPlaces_7 : decode cX3_lightPlaces 7 = .ok (.iconst 0, 1) := by decide +kernel
theorem dX3_lightPlaces_8 : decode cX3_lightPlaces 8 = .ok (.goto 11, 3) := by decide +kernel
theorem dX3_lightPlaces_11 : decode cX3_lightPlaces 11 = .ok (.aload_n 0, 1) := by decide +kernel
theorem dX3_lightPlaces_12 : decode cX3_lightPlaces 12 = .ok (.aload_n 0, 1) := by decide +kernel
theorem dX3_lightPlaces_13 : decode cX3_lightPlaces 13 = .ok (.getfield 42, 3) := by decide +kernel
theorem dX3_lightPlaces_16 : decode cX3_lightPlaces 16 = .ok (.invokevirtual 96, 3) := by decide +kernel
theorem dX3_lightPlaces_19 : decode cX3_lightPlaces 19 = .ok (.ireturn, 1) := by decide +kernel
theorem dX3_bestPower_0 : decode cX3_bestPower 0 = .ok (.aload_n 0, 1) := by decide +kernel
theorem dX3_bestPower_1 : decode cX3_bestPower 1 = .ok (.aload_n 0, 1) := by decide +kernel
theorem dX3_bestPower_2 : decode cX3_bestPower 2 = .ok (.getfield 42, 3) := by decide +kernel
theorem dX3_bestPower_5 : decode cX3_bestPower 5 = .ok (.iload_n 1, 1) := by decide +kernel
theorem dX3_bestPower_6 : decode cX3_bestPower 6 = .ok (.invokestatic 68, 3) := by decide +kernel
theorem dX3_bestPower_9 : decode cX3_bestPower 9 = .ok (.iconst (-1), 1) := by decide +kernel
theorem dX3_bestPower_10 : decode cX3_bestPower 10 = .ok (.ixor, 1) := by decide +kernel
theorem dX3_bestPower_11 : decode cX3_bestPower 11 = .ok (.iand, 1) := by decide +kernel
theorem dX3_bestPower_12 : decode cX3_bestPower 12 = .ok (.invokevirtual 96, 3) := by decide +kernel
theorem dX3_bestPower_15 : decode cX3_bestPower 15 = .ok (.istore_n 2, 1) := by decide +kernel
theorem dX3_bestPower_16 : decode cX3_bestPower 16 = .ok (.aload_n 0, 1) := by decide +kernel
theorem dX3_bestPower_17 : decode cX3_bestPower 17 = .ok (.iload_n 1, 1) := by decide +kernel
theorem dX3_bestPower_18 : decode cX3_bestPower 18 = .ok (.invokevirtual 58, 3) := by decide +kernel
theorem dX3_bestPower_21 : decode cX3_bestPower 21 = .ok (.istore_n 3, 1) := by decide +kernel
theorem dX3_bestPower_22 : decode cX3_bestPower 22 = .ok (.aload_n 0, 1) := by decide +kernel
theorem dX3_bestPower_23 : decode cX3_bestPower 23 = .ok (.getfield 12, 3) := by decide +kernel
theorem dX3_bestPower_26 : decode cX3_bestPower 26 = .ok (.invokevirtual 86, 3) := by decide +kernel
theorem dX3_bestPower_29 : decode cX3_bestPower 29 = .ok (.istore 4, 2) := by decide +kernel
theorem dX3_bestPower_31 : decode cX3_bestPower 31 = .ok (.iconst 0, 1) := by decide +kernel
theorem dX3_bestPower_32 : decode cX3_bestPower 32 = .ok (.istore 5, 2) := by decide +kernel
theorem dX3_bestPower_34 : decode cX3_bestPower 34 = .ok (.iload_n 3, 1) := by decide +kernel
theorem dX3_bestPower_35 : decode cX3_bestPower 35 = .ok (.iload_n 2, 1) := by decide +kernel
theorem dX3_bestPower_36 : decode cX3_bestPower 36 = .ok (.iand, 1) := by decide +kernel
theorem dX3_bestPower_37 : decode cX3_bestPower 37 = .ok (.invokestatic 63, 3) := by decide +kernel
theorem dX3_bestPower_40 : decode cX3_bestPower 40 = .ok (.istore 6, 2) := by decide +kernel
theorem dX3_bestPower_42 : decode cX3_bestPower 42 = .ok (.iconst 1, 1) := by decide +kernel
theorem dX3_bestPower_43 : decode cX3_bestPower 43 = .ok (.istore 7, 2) := by decide +kernel
theorem dX3_bestPower_45 : decode cX3_bestPower 45 = .ok (.iload 7, 2) := by decide +kernel
theorem dX3_bestPower_47 : decode cX3_bestPower 47 = .ok (.iload 4, 2) := by decide +kernel
theorem dX3_bestPower_49 : decode cX3_bestPower 49 = .ok (.if_icmp .ge 41, 3) := by decide +kernel
theorem dX3_bestPower_52 : decode cX3_bestPower 52 = .ok (.aload_n 0, 1) := by decide +kernel
theorem dX3_bestPower_53 : decode cX3_bestPower 53 = .ok (.getfield 12, 3) := by decide +kernel
theorem dX3_bestPower_56 : decode cX3_bestPower 56 = .ok (.iload_n 3, 1) := by decide +kernel
theorem dX3_bestPower_57 : decode cX3_bestPower 57 = .ok (.invokevirtual 93, 3) := by decide +kernel
theorem dX3_bestPower_60 : decode cX3_bestPower 60 = .ok (.istore_n 3, 1) := by decide +kernel
theorem dX3_bestPower_61 : decode cX3_bestPower 61 = .ok (.iload_n 3, 1) := by decide +kernel
theorem dX3_bestPower_62 : decode cX3_bestPower 62 = .ok (.iload_n 2, 1) := by decide +kernel
theorem dX3_bestPower_63 : decode cX3_bestPower 63 = .ok (.iand, 1) := by decide +kernel
theorem dX3_bestPower_64 : decode cX3_bestPower 64 = .ok (.invokestatic 63, 3) := by decide +kernel
theorem dX3_bestPower_67 : decode cX3_bestPower 67 = .ok (.istore 8, 2) := by decide +kernel
theorem dX3_bestPower_69 : decode cX3_bestPower 69 = .ok (.iload 8, 2) := by decide +kernel
theorem dX3_bestPower_71 : decode cX3_bestPower 71 = .ok (.iload 6, 2) := by decide +kernel
theorem dX3_bestPower_73 : decode cX3_bestPower 73 = .ok (.if_icmp .le 11, 3) := by decide +kernel
theorem dX3_bestPower_76 : decode cX3_bestPower 76 = .ok (.iload 8, 2) := by decide +kernel
theorem dX3_bestPower_78 : decode cX3_bestPower 78 = .ok (.istore 6, 2) := by decide +kernel
theorem dX3_bestPower_80 : decode cX3_bestPower 80 = .ok (.iload 7, 2) := by decide +kernel
theorem dX3_bestPower_82 : decode cX3_bestPower 82 = .ok (.istore 5, 2) := by decide +kernel
theorem dX3_bestPower_84 : decode cX3_bestPower 84 = .ok (.iinc 7 1, 3) := by decide +kernel
theorem dX3_bestPower_87 : decode cX3_bestPower 87 = .ok (.goto (-42), 3) := by decide +kernel
theorem dX3_bestPower_90 : decode cX3_bestPower 90 = .ok (.iload 5, 2) := by decide +kernel
theorem dX3_bestPower_92 : decode cX3_bestPower 92 = .ok (.ireturn, 1) := by decide +kernel
theorem dX3_mostLight_0 : decode cX3_mostLight 0 = .ok (.aload_n 0, 1) := by decide +kernel
theorem dX3_mostLight_1 : decode cX3_mostLight 1 = .ok (.aload_n 0, 1) := by decide +kernel
theorem dX3_mostLight_2 : decode cX3_mostLight 2 = .ok (.getfield 42, 3) := by decide +kernel
theorem dX3_mostLight_5 : decode cX3_mostLight 5 = .ok (.iload_n 1, 1) := by decide +kernel
theorem dX3_mostLight_6 : decode cX3_mostLight 6 = .ok (.invokestatic 68, 3) := by decide +kernel
theorem dX3_mostLight_9 : decode cX3_mostLight 9 = .ok (.iconst (-1), 1) := by decide +kernel
theorem dX3_mostLight_10 : decode cX3_mostLight 10 = .ok (.ixor, 1) := by decide +kernel
theorem dX3_mostLight_11 : decode cX3_mostLight 11 = .ok (.iand, 1) := by decide +kernel
theorem dX3_mostLight_12 : decode cX3_mostLight 12 = .ok (.invokevirtual 96, 3) := by decide +kernel
theorem dX3_mostLight_15 : decode cX3_mostLight 15 = .ok (.istore_n 2, 1) := by decide +kernel
theorem dX3_mostLight_16 : decode cX3_mostLight 16 = .ok (.aload_n 0, 1) := by decide +kernel
theorem dX3_mostLight_17 : decode cX3_mostLight 17 = .ok (.getfield 12, 3) := by decide +kernel
theorem dX3_mostLight_20 : decode cX3_mostLight 20 = .ok (.aload_n 0, 1) := by decide +kernel
theorem dX3_mostLight_21 : decode cX3_mostLight 21 = .ok (.iload_n 1, 1) := by decide +kernel
theorem dX3_mostLight_22 : decode cX3_mostLight 22 = .ok (.invokevirtual 58, 3) := by decide +kernel
theorem dX3_mostLight_25 : decode cX3_mostLight 25 = .ok (.aload_n 0, 1) := by decide +kernel
theorem dX3_mostLight_26 : decode cX3_mostLight 26 = .ok (.iload_n 1, 1) := by decide +kernel
theorem dX3_mostLight_27 : decode cX3_mostLight 27 = .ok (.invokevirtual 99, 3) := by decide +kernel
theorem dX3_mostLight_30 : decode cX3_mostLight 30 = .ok (.invokevirtual 71, 3) := by decide +kernel
theorem dX3_mostLight_33 : decode cX3_mostLight 33 = .ok (.iload_n 2, 1) := by decide +kernel
theorem dX3_mostLight_34 : decode cX3_mostLight 34 = .ok (.iand, 1) := by decide +kernel
theorem dX3_mostLight_35 : decode cX3_mostLight 35 = .ok (.invokestatic 63, 3) := by decide +kernel
theorem dX3_mostLight_38 : decode cX3_mostLight 38 = .ok (.ireturn, 1) := by decide +kernel
theorem dX3_commonHoles_0 : decode cX3_commonHoles 0 = .ok (.ldc 102, 2) := by decide +kernel
theorem dX3_commonHoles_2 : decode cX3_commonHoles 2 = .ok (.istore_n 2, 1) := by decide +kernel
theorem dX3_commonHoles_3 : decode cX3_commonHoles 3 = .ok (.iconst 0, 1) := by decide +kernel
theorem dX3_commonHoles_4 : decode cX3_commonHoles 4 = .ok (.istore_n 3, 1) := by decide +kernel
theorem dX3_commonHoles_5 : decode cX3_commonHoles 5 = .ok (.iload_n 3, 1) := by decide +kernel
theorem dX3_commonHoles_6 : decode cX3_commonHoles 6 = .ok (.bipush 12, 2) := by decide +kernel
theorem dX3_commonHoles_8 : decode cX3_commonHoles 8 = .ok (.if_icmp .ge 25, 3) := by decide +kernel
theorem dX3_commonHoles_11 : decode cX3_commonHoles 11 = .ok (.iload_n 1, 1) := by decide +kernel
theorem dX3_commonHoles_12 : decode cX3_commonHoles 12 = .ok (.iload_n 3, 1) := by decide +kernel
theorem dX3_commonHoles_13 : decode cX3_commonHoles 13 = .ok (.invokestatic 75, 3) := by decide +kernel
theorem dX3_commonHoles_16 : decode cX3_commonHoles 16 = .ok (.ifCond .eq 11, 3) := by decide +kernel
theorem dX3_commonHoles_19 : decode cX3_commonHoles 19 = .ok (.iload_n 2, 1) := by decide +kernel
theorem dX3_commonHoles_20 : decode cX3_commonHoles 20 = .ok (.aload_n 0, 1) := by decide +kernel
theorem dX3_commonHoles_21 : decode cX3_commonHoles 21 = .ok (.iload_n 3, 1) := by decide +kernel
theorem dX3_commonHoles_22 : decode cX3_commonHoles 22 = .ok (.invokevirtual 58, 3) := by decide +kernel
theorem dX3_commonHoles_25 : decode cX3_commonHoles 25 = .ok (.iand, 1) := by decide +kernel
theorem dX3_commonHoles_26 : decode cX3_commonHoles 26 = .ok (.istore_n 2, 1) := by decide +kernel
theorem dX3_commonHoles_27 : decode cX3_commonHoles 27 = .ok (.iinc 3 1, 3) := by decide +kernel
theorem dX3_commonHoles_30 : decode cX3_commonHoles 30 = .ok (.goto (-25), 3) := by decide +kernel
theorem dX3_commonHoles_33 : decode cX3_commonHoles 33 = .ok (.iload_n 2, 1) := by decide +kernel
theorem dX3_commonHoles_34 : decode cX3_commonHoles 34 = .ok (.ireturn, 1) := by decide +kernel
theorem dX4_init_0 : decode cX4_init 0 = .ok (.aload_n 0, 1) := by decide +kernel
theorem dX4_init_1 : decode cX4_init 1 = .ok (.invokespecial 1, 3) := by decide +kernel
theorem dX4_init_4 : decode cX4_init 4 = .ok (.aload_n 0, 1) := by decide +kernel
theorem dX4_init_5 : decode cX4_init 5 = .ok (.new 7, 3) := by decide +kernel
theorem dX4_init_8 : decode cX4_init 8 = .ok (.dup, 1) := by decide +kernel
theorem dX4_init_9 : decode cX4_init 9 = .ok (.invokespecial 9, 3) := by decide +kernel
theorem dX4_init_12 : decode cX4_init 12 = .ok (.putfield 10, 3) := by decide +kernel
theorem dX4_init_15 : decode cX4_init 15 = .ok (.aload_n 0, 1) := by decide +kernel
theorem dX4_init_16 : decode cX4_init 16 = .ok (.new 7, 3) := by decide +kernel
theorem dX4_init_19 : decode cX4_init 19 = .ok (.dup, 1) := by decide +kernel
theorem dX4_init_20 : decode cX4_init 20 = .ok (.invokespecial 9, 3) := by decide +kernel
theorem dX4_init_23 : decode cX4_init 23 = .ok (.putfield 16, 3) := by decide +kernel
theorem dX4_init_26 : decode cX4_init 26 = .ok (.aload_n 0, 1) := by decide +kernel
theorem dX4_init_27 : decode cX4_init 27 = .ok (.iconst 0, 1) := by decide +kernel
theorem dX4_init_28 : decode cX4_init 28 = .ok (.putfield 19, 3) := by decide +kernel
theorem dX4_init_31 : decode cX4_init 31 = .ok (.aload_n 0, 1) := by decide +kernel
theorem dX4_init_32 : decode cX4_init 32 = .ok (.new 23, 3) := by decide +kernel
theorem dX4_init_35 : decode cX4_init 35 = .ok (.dup, 1) := by decide +kernel
theorem dX4_init_36 : decode cX4_init 36 = .ok (.invokespecial 25, 3) := by decide +kernel
theorem dX4_init_39 : decode cX4_init 39 = .ok (.putfield 26, 3) := by decide +kernel
theorem dX4_init_42 : decode cX4_init 42 = .ok (.aload_n 0, 1) := by decide +kernel
theorem dX4_init_43 : decode cX4_init 43 = .ok (.new 30, 3) := by decide +kernel
theorem dX4_init_46 : decode cX4_init 46 = .ok (.dup, 1) := by decide +kernel
theorem dX4_init_47 : decode cX4_init 47 = .ok (.invokespecial 32, 3) := by decide +kernel
theorem dX4_init_50 : decode cX4_init 50 = .ok (.putfield 33, 3) := by decide +kernel
theorem dX4_init_53 : decode cX4_init 53 = .ok (.return_, 1) := by decide +kernel
theorem dX4_exchange_0 : decode cX4_exchange 0 = .ok (.iload_n 1, 1) := by decide +kernel
theorem dX4_exchange_1 : decode cX4_exchange 1 = .ok (.invokestatic 37, 3) := by decide +kernel
theorem dX4_exchange_4 : decode cX4_exchange 4 = .ok (.ifCond .eq 10, 3) := by decide +kernel
theorem dX4_exchange_7 : decode cX4_exchange 7 = .ok (.iload_n 2, 1) := by decide +kernel
theorem dX4_exchange_8 : decode cX4_exchange 8 = .ok (.invokestatic 37, 3) := by decide +kernel
theorem dX4_exchange_11 : decode cX4_exchange 11 = .ok (.ifCond .ne 5, 3) := by decide +kernel
theorem dX4_exchange_14 : decode cX4_exchange 14 = .ok (.iconst (-1), 1) := by decide +kernel
theorem dX4_exchange_15 : decode cX4_exchange 15 = .ok (.ireturn, 1) := by decide +kernel
theorem dX4_exchange_16 : decode cX4_exchange 16 = .ok (.iload_n 1, 1) := by decide +kernel
theorem dX4_exchange_17 : decode cX4_exchange 17 = .ok (.iload_n 2, 1) := by decide +kernel
theorem dX4_exchange_18 : decode cX4_exchange 18 = .ok (.if_icmp .ne 6, 3) := by decide +kernel
theorem dX4_exchange_21 : decode cX4_exchange 21 = .ok (.bipush (-5), 2) := by decide +kernel
theorem dX4_exchange_23 : decode cX4_exchange 23 = .ok (.ireturn, 1) := by decide +kernel
theorem dX4_exchange_24 : decode cX4_exchange 24 = .ok (.aload_n 0, 1) := by decide +kernel
theorem dX4_exchange_25 : decode cX4_exchange 25 = .ok (.getfield 26, 3) := by decide +kernel
theorem dX4_exchange_28 : decode cX4_exchange 28 = .ok (.aload_n 0, 1) := by decide +kernel
theorem dX4_exchange_29 : decode cX4_exchange 29 = .ok (.getfield 10, 3) := by decide +kernel
theorem dX4_exchange_32 : decode cX4_exchange 32 = .ok (.invokevirtual 41, 3) := by decide +kernel
theorem dX4_exchange_35 : decode cX4_exchange 35 = .ok (.aload_n 0, 1) := by decide +kernel
theorem dX4_exchange_36 : decode cX4_exchange 36 = .ok (.getfield 10, 3) := by decide +kernel
theorem dX4_exchange_39 : decode cX4_exchange 39 = .ok (.getfield 45, 3) := by decide +kernel
theorem dX4_exchange_42 : decode cX4_exchange 42 = .ok (.iload_n 1, 1) := by decide +kernel
theorem dX4_exchange_43 : decode cX4_exchange 43 = .ok (.iload_n 2, 1) := by decide +kernel
theorem dX4_exchange_44 : decode cX4_exchange 44 = .ok (.invokevirtual 49, 3) := by decide +kernel
theorem dX4_exchange_47 : decode cX4_exchange 47 = .ok (.aload_n 0, 1) := by decide +kernel
theorem dX4_exchange_48 : decode cX4_exchange 48 = .ok (.getfield 10, 3) := by decide +kernel
theorem dX4_exchange_51 : decode cX4_exchange 51 = .ok (.getfield 45, 3) := by decide +kernel
theorem dX4_exchange_54 : decode cX4_exchange 54 = .ok (.invokevirtual 55, 3) := by decide +kernel
theorem dX4_exchange_57 : decode cX4_exchange 57 = .ok (.ireturn, 1) := by decide +kernel
theorem dX4_reverse_0 : decode cX4_reverse 0 = .ok (.aload_n 0, 1) := by decide +kernel
theorem dX4_reverse_1 : decode cX4_reverse 1 = .ok (.getfield 10, 3) := by decide +kernel
theorem dX4_reverse_4 : decode cX4_reverse 4 = .ok (.getfield 45, 3) := by decide +kernel
theorem dX4_reverse_7 : decode cX4_reverse 7 = .ok (.invokevirtual 55, 3) := by decide +kernel
theorem dX4_reverse_10 : decode cX4_reverse 10 = .ok (.istore_n 1, 1) := by decide +kernel
theorem dX4_reverse_11 : decode cX4_reverse 11 = .ok (.iload_n 1, 1) := by decide +kernel
theorem dX4_reverse_12 : decode cX4_reverse 12 = .ok (.iconst 2, 1) := by decide +kernel
theorem dX4_reverse_13 : decode cX4_reverse 13 = .ok (.if_icmp .gt 6, 3) := by decide +kernel
theorem dX4_reverse_16 : decode cX4_reverse 16 = .ok (.bipush (-5), 2) := by decide +kernel
theorem dX4_reverse_18 : decode cX4_reverse 18 = .ok (.ireturn, 1) := by decide +kernel
theorem dX4_reverse_19 : decode cX4_reverse 19 = .ok (.aload_n 0, 1) := by decide +kernel
theorem dX4_reverse_20 : decode cX4_reverse 20 = .ok (.getfield 26, 3) := by decide +kernel
theorem dX4_reverse_23 : decode cX4_reverse 23 = .ok (.aload_n 0, 1) := by decide +kernel
theorem dX4_reverse_24 : decode cX4_reverse 24 = .ok (.getfield 10, 3) := by decide +kernel
theorem dX4_reverse_27 : decode cX4_reverse 27 = .ok (.invokevirtual 41, 3) := by decide +kernel
theorem dX4_reverse_30 : decode cX4_reverse 30 = .ok (.aload_n 0, 1) := by decide +kernel
theorem dX4_reverse_31 : decode cX4_reverse 31 = .ok (.getfield 10, 3) := by decide +kernel
theorem dX4_reverse_34 : decode cX4_reverse 34 = .ok (.getfield 45, 3) := by decide +kernel
theorem dX4_reverse_37 : decode cX4_reverse 37 = .ok (.invokevirtual 59, 3) := by decide +kernel
theorem dX4_reverse_40 : decode cX4_reverse 40 = .ok (.iload_n 1, 1) := by decide +kernel
theorem dX4_reverse_41 : decode cX4_reverse 41 = .ok (.ireturn, 1) := by decide +kernel
theorem dX4_readMove_0 : decode cX4_readMove 0 = .ok (.aload_n 0, 1) := by decide +kernel
theorem dX4_readMove_1 : decode cX4_readMove 1 = .ok (.getfield 33, 3) := by decide +kernel
theorem dX4_readMove_4 : decode cX4_readMove 4 = .ok (.invokevirtual 62, 3) := by decide +kernel
theorem dX4_readMove_7 : decode cX4_readMove 7 = .ok (.aload_n 0, 1) := by decide +kernel
theorem dX4_readMove_8 : decode cX4_readMove 8 = .ok (.getfield 33, 3) := by decide +kernel
theorem dX4_readMove_11 : decode cX4_readMove 11 = .ok (.invokevirtual 65, 3) := by decide +kernel
theorem dX4_readMove_14 : decode cX4_readMove 14 = .ok (.ifCond .eq 14, 3) := by decide +kernel
theorem dX4_readMove_17 : decode cX4_readMove 17 = .ok (.bipush (-100), 2) := by decide +kernel
theorem dX4_readMove_19 : decode cX4_readMove 19 = .ok (.aload_n 0, 1) := by decide +kernel
theorem dX4_readMove_20 : decode cX4_readMove 20 = .ok (.getfield 33, 3) := by decide +kernel
theorem dX4_readMove_23 : decode cX4_readMove 23 = .ok (.invokevirtual 68, 3) := by decide +kernel
theorem dX4_readMove_26 : decode cX4_readMove 26 = .ok (.isub, 1) := by decide +kernel
theorem dX4_readMove_27 : decode cX4_readMove 27 = .ok (.ireturn, 1) := by decide +kernel
theorem dX4_readMove_28 : decode cX4_readMove 28 = .ok (.aload_n 0, 1) := by decide +kernel
theorem dX4_readMove_29 : decode cX4_readMove 29 = .ok (.getfield 26, 3) := by decide +kernel
theorem dX4_readMove_32 : decode cX4_readMove 32 = .ok (.aload_n 0, 1) := by decide +kernel
theorem dX4_readMove_33 : decode cX4_readMove 33 = .ok (.getfield 10, 3) := by decide +kernel
theorem dX4_readMove_36 : decode cX4_readMove 36 = .ok (.invokevirtual 41, 3) := by decide +kernel
theorem dX4_readMove_39 : decode cX4_readMove 39 = .ok (.aload_n 0, 1) := by decide +kernel
theorem dX4_readMove_40 : decode cX4_readMove 40 = .ok (.getfield 10, 3) := by decide +kernel
theorem dX4_readMove_43 : decode cX4_readMove 43 = .ok (.getfield 45, 3) := by decide +kernel
theorem dX4_readMove_46 : decode cX4_readMove 46 = .ok (.aload_n 0, 1) := by decide +kernel
theorem dX4_readMove_47 : decode cX4_readMove 47 = .ok (.getfield 33, 3) := by decide +kernel
theorem dX4_readMove_50 : decode cX4_readMove 50 = .ok (.invokevirtual 71, 3) := by decide +kernel
theorem dX4_readMove_53 : decode cX4_readMove 53 = .ok (.aload_n 0, 1) := by decide +kernel
theorem dX4_readMove_54 : decode cX4_readMove 54 = .ok (.getfield 10, 3) := by decide +kernel
theorem dX4_readMove_57 : decode cX4_readMove 57 = .ok (.getfield 45, 3) := by decide +kernel
theorem dX4_readMove_60 : decode cX4_readMove 60 = .ok (.invokevirtual 55, 3) := by decide +kernel
theorem dX4_readMove_63 : decode cX4_readMove 63 = .ok (.ireturn, 1) := by decide +kernel
theorem dX4_sell_0 : decode cX4_sell 0 = .ok (.iload_n 1, 1) := by decide +kernel
theorem dX4_sell_1 : decode cX4_sell 1 = .ok (.ifCond .lt 9, 3) := by decide +kernel
theorem dX4_sell_4 : decode cX4_sell 4 = .ok (.iload_n 1, 1) := by decide +kernel
theorem dX4_sell_5 : decode cX4_sell 5 = .ok (.ldc 75, 2) := by decide +kernel
theorem dX4_sell_7 : decode cX4_sell 7 = .ok (.if_icmp .le 6, 3) := by decide +kernel
theorem dX4_sell_10 : decode cX4_sell 10 = .ok (.bipush (-2), 2) := by decide +kernel
theorem dX4_sell_12 : decode cX4_sell 12 = .ok (.ireturn, 1) := by decide +kernel
theorem dX4_sell_13 : decode cX4_sell 13 = .ok (.aload_n 0, 1) := by decide +kernel
theorem dX4_sell_14 : decode cX4_sell 14 = .ok (.getfield 10, 3) := by decide +kernel
theorem dX4_sell_17 : decode cX4_sell 17 = .ok (.invokevirtual 76, 3) := by decide +kernel
theorem dX4_sell_20 : decode cX4_sell 20 = .ok (.bipush 12, 2) := by decide +kernel
theorem dX4_sell_22 : decode cX4_sell 22 = .ok (.if_icmp .lt 6, 3) := by decide +kernel
theorem dX4_sell_25 : decode cX4_sell 25 = .ok (.bipush (-3), 2) := by decide +kernel
theorem dX4_sell_27 : decode cX4_sell 27 = .ok (.ireturn, 1) := by decide +kernel
theorem dX4_sell_28 : decode cX4_sell 28 = .ok (.aload_n 0, 1) := by decide +kernel
theorem dX4_sell_29 : decode cX4_sell 29 = .ok (.getfield 26, 3) := by decide +kernel
theorem dX4_sell_32 : decode cX4_sell 32 = .ok (.aload_n 0, 1) := by decide +kernel
theorem dX4_sell_33 : decode cX4_sell 33 = .ok (.getfield 10, 3) := by decide +kernel
theorem dX4_sell_36 : decode cX4_sell 36 = .ok (.invokevirtual 41, 3) := by decide +kernel
theorem dX4_sell_39 : decode cX4_sell 39 = .ok (.aload_n 0, 1) := by decide +kernel
theorem dX4_sell_40 : decode cX4_sell 40 = .ok (.getfield 10, 3) := by decide +kernel
theorem dX4_sell_43 : decode cX4_sell 43 = .ok (.iload_n 1, 1) := by decide +kernel
theorem dX4_sell_44 : decode cX4_sell 44 = .ok (.invokevirtual 79, 3) := by decide +kernel
theorem dX4_sell_47 : decode cX4_sell 47 = .ok (.ireturn, 1) := by decide +kernel
theorem dX4_punch_0 : decode cX4_punch 0 = .ok (.aload_n 0, 1) := by decide +kernel
theorem dX4_punch_1 : decode cX4_punch 1 = .ok (.getfield 10, 3) := by decide +kernel
theorem dX4_punch_4 : decode cX4_punch 4 = .ok (.iload_n 1, 1) := by decide +kernel
theorem dX4_punch_5 : decode cX4_punch 5 = .ok (.invokevirtual 83, 3) := by decide +kernel
theorem dX4_punch_8 : decode cX4_punch 8 = .ok (.ifCond .eq 10, 3) := by decide +kernel
theorem dX4_punch_11 : decode cX4_punch 11 = .ok (.iload_n 2, 1) := by decide +kernel
theorem dX4_punch_12 : decode cX4_punch 12 = .ok (.invokestatic 37, 3) := by decide +kernel
theorem dX4_punch_15 : decode cX4_punch 15 = .ok (.ifCond .ne 5, 3) := by decide +kernel
theorem dX4_punch_18 : decode cX4_punch 18 = .ok (.iconst (-1), 1) := by decide +kernel
theorem dX4_punch_19 : decode cX4_punch 19 = .ok (.ireturn, 1) := by decide +kernel
theorem dX4_punch_20 : decode cX4_punch 20 = .ok (.aload_n 0, 1) := by decide +kernel
theorem dX4_punch_21 : decode cX4_punch 21 = .ok (.getfield 10, 3) := by decide +kernel
theorem dX4_punch_24 : decode cX4_punch 24 = .ok (.iload_n 1, 1) := by decide +kernel
theorem dX4_punch_25 : decode cX4_punch 25 = .ok (.invokevirtual 86, 3) := by decide +kernel
theorem dX4_punch_28 : decode cX4_punch 28 = .ok (.aload_n 0, 1) := by decide +kernel
theorem dX4_punch_29 : decode cX4_punch 29 = .ok (.getfield 10, 3) := by decide +kernel
theorem dX4_punch_32 : decode cX4_punch 32 = .ok (.iload_n 1, 1) := by decide +kernel
theorem dX4_punch_33 : decode cX4_punch 33 = .ok (.invokevirtual 89, 3) := by decide +kernel
theorem dX4_punch_36 : decode cX4_punch 36 = .ok (.iand, 1) := by decide +kernel
theorem dX4_punch_37 : decode cX4_punch 37 = .ok (.iload_n 2, 1) := by decide +kernel
theorem dX4_punch_38 : decode cX4_punch 38 = .ok (.invokestatic 92, 3) := by decide +kernel
theorem dX4_punch_41 : decode cX4_punch 41 = .ok (.ifCond .eq 6, 3) := by decide +kernel
theorem dX4_punch_44 : decode cX4_punch 44 = .ok (.bipush (-5), 2) := by decide +kernel
theorem dX4_punch_46 : decode cX4_punch 46 = .ok (.ireturn, 1) := by decide +kernel
theorem dX4_punch_47 : decode cX4_punch 47 = .ok (.aload_n 0, 1) := by decide +kernel
theorem dX4_punch_48 : decode cX4_punch 48 = .ok (.getfield 26, 3) := by decide +kernel
theorem dX4_punch_51 : decode cX4_punch 51 = .ok (.aload_n 0, 1) := by decide +kernel
theorem dX4_punch_52 : decode cX4_punch 52 = .ok (.getfield 10, 3) := by decide +kernel
theorem dX4_punch_55 : decode cX4_punch 55 = .ok (.invokevirtual 41, 3) := by decide +kernel
theorem dX4_punch_58 : decode cX4_punch 58 = .ok (.aload_n 0, 1) := by decide +kernel
theorem dX4_punch_59 : decode cX4_punch 59 = .ok (.getfield 10, 3) := by decide +kernel
theorem dX4_punch_62 : decode cX4_punch 62 = .ok (.iload_n 1, 1) := by decide +kernel
theorem dX4_punch_63 : decode cX4_punch 63 = .ok (.iload_n 2, 1) := by decide +kernel
theorem dX4_punch_64 : decode cX4_punch 64 = .ok (.invokevirtual 96, 3) := by decide +kernel
theorem dX4_punch_67 : decode cX4_punch 67 = .ok (.aload_n 0, 1) := by decide +kernel
theorem dX4_punch_68 : decode cX4_punch 68 = .ok (.getfield 10, 3) := by decide +kernel
theorem dX4_punch_71 : decode cX4_punch 71 = .ok (.iload_n 1, 1) := by decide +kernel
theorem dX4_punch_72 : decode cX4_punch 72 = .ok (.invokevirtual 86, 3) := by decide +kernel
theorem dX4_punch_75 : decode cX4_punch 75 = .ok (.invokestatic 99, 3) := by decide +kernel
theorem dX4_punch_78 : decode cX4_punch 78 = .ok (.ireturn, 1) := by decide +kernel
theorem dX4_forge_0 : decode cX4_forge 0 = .ok (.aload_n 0, 1) := by decide +kernel
theorem dX4_forge_1 : decode cX4_forge 1 = .ok (.getfield 10, 3) := by decide +kernel
theorem dX4_forge_4 : decode cX4_forge 4 = .ok (.iload_n 1, 1) := by decide +kernel
theorem dX4_forge_5 : decode cX4_forge 5 = .ok (.invokevirtual 83, 3) := by decide +kernel
theorem dX4_forge_8 : decode cX4_forge 8 = .ok (.ifCond .eq 10, 3) := by decide +kernel
theorem dX4_forge_11 : decode cX4_forge 11 = .ok (.iload_n 2, 1) := by decide +kernel
theorem dX4_forge_12 : decode cX4_forge 12 = .ok (.invokestatic 37, 3) := by decide +kernel
theorem dX4_forge_15 : decode cX4_forge 15 = .ok (.ifCond .ne 5, 3) := by decide +kernel
theorem dX4_forge_18 : decode cX4_forge 18 = .ok (.iconst (-1), 1) := by decide +kernel
theorem dX4_forge_19 : decode cX4_forge 19 = .ok (.ireturn, 1) := by decide +kernel
theorem dX4_forge_20 : decode cX4_forge 20 = .ok (.aload_n 0, 1) := by decide +kernel
theorem dX4_forge_21 : decode cX4_forge 21 = .ok (.getfield 10, 3) := by decide +kernel
theorem dX4_forge_24 : decode cX4_forge 24 = .ok (.iload_n 1, 1) := by decide +kernel
theorem dX4_forge_25 : decode cX4_forge 25 = .ok (.invokevirtual 86, 3) := by decide +kernel
theorem dX4_forge_28 : decode cX4_forge 28 = .ok (.iload_n 2, 1) := by decide +kernel
theorem dX4_forge_29 : decode cX4_forge 29 = .ok (.invokestatic 92, 3) := by decide +kernel
theorem dX4_forge_32 : decode cX4_forge 32 = .ok (.iload_n 3, 1) := by decide +kernel
theorem dX4_forge_33 : decode cX4_forge 33 = .ok (.if_icmp .ne 6, 3) := by decide +kernel
theorem dX4_forge_36 : decode cX4_forge 36 = .ok (.bipush (-5), 2) := by decide +kernel
theorem dX4_forge_38 : decode cX4_forge 38 = .ok (.ireturn, 1) := by decide +kernel
theorem dX4_forge_39 : decode cX4_forge 39 = .ok (.aload_n 0, 1) := by decide +kernel
theorem dX4_forge_40 : decode cX4_forge 40 = .ok (.getfield 26, 3) := by decide +kernel
theorem dX4_forge_43 : decode cX4_forge 43 = .ok (.aload_n 0, 1) := by decide +kernel
theorem dX4_forge_44 : decode cX4_forge 44 = .ok (.getfield 10, 3) := by decide +kernel
theorem dX4_forge_47 : decode cX4_forge 47 = .ok (.invokevirtual 41, 3) := by decide +kernel
theorem dX4_forge_50 : decode cX4_forge 50 = .ok (.aload_n 0, 1) := by decide +kernel
theorem dX4_forge_51 : decode cX4_forge 51 = .ok (.getfield 10, 3) := by decide +kernel
theorem dX4_forge_54 : decode cX4_forge 54 = .ok (.iload_n 1, 1) := by decide +kernel
theorem dX4_forge_55 : decode cX4_forge 55 = .ok (.iload_n 2, 1) := by decide +kernel
theorem dX4_forge_56 : decode cX4_forge 56 = .ok (.invokevirtual 104, 3) := by decide +kernel
theorem dX4_forge_59 : decode cX4_forge 59 = .ok (.aload_n 0, 1) := by decide +kernel
theorem dX4_forge_60 : decode cX4_forge 60 = .ok (.getfield 10, 3) := by decide +kernel
theorem dX4_forge_63 : decode cX4_forge 63 = .ok (.iload_n 1, 1) := by decide +kernel
theorem dX4_forge_64 : decode cX4_forge 64 = .ok (.invokevirtual 107, 3) := by decide +kernel
theorem dX4_forge_67 : decode cX4_forge 67 = .ok (.invokestatic 110, 3) := by decide +kernel
theorem dX4_forge_70 : decode cX4_forge 70 = .ok (.ireturn, 1) := by decide +kernel
theorem dX4_mend_0 : decode cX4_mend 0 = .ok (.aload_n 0, 1) := by decide +kernel
theorem dX4_mend_1 : decode cX4_mend 1 = .ok (.getfield 10, 3) := by decide +kernel
theorem dX4_mend_4 : decode cX4_mend 4 = .ok (.iload_n 1, 1) := by decide +kernel
theorem dX4_mend_5 : decode cX4_mend 5 = .ok (.invokevirtual 83, 3) := by decide +kernel
theorem dX4_mend_8 : decode cX4_mend 8 = .ok (.ifCond .ne 5, 3) := by decide +kernel
theorem dX4_mend_11 : decode cX4_mend 11 = .ok (.iconst (-1), 1) := by decide +kernel
theorem dX4_mend_12 : decode cX4_mend 12 = .ok (.ireturn, 1) := by decide +kernel
theorem dX4_mend_13 : decode cX4_mend 13 = .ok (.aload_n 0, 1) := by decide +kernel
theorem dX4_mend_14 : decode cX4_mend 14 = .ok (.getfield 10, 3) := by decide +kernel
theorem dX4_mend_17 : decode cX4_mend 17 = .ok (.iload_n 1, 1) := by decide +kernel
theorem dX4_mend_18 : decode cX4_mend 18 = .ok (.invokevirtual 107, 3) := by decide +kernel
theorem dX4_mend_21 : decode cX4_mend 21 = .ok (.ifCond .ne 6, 3) := by decide +kernel
theorem dX4_mend_24 : decode cX4_mend 24 = .ok (.bipush (-5), 2) := by decide +kernel
