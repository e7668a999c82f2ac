theorem dX4_init_0 : decode cX4_init 0 = .ok (.aload_n 0, 1) := by decide +kernel
theorem dX4_init_1 : decode cX4_init 1 = .ok (.invokespecial 3, 3) := by decide +kernel
theorem dX4_init_4 : decode cX4_init 4 = .ok (.aload_n 0, 1) := by decide +kernel
theorem dX4_init_5 : decode cX4_init 5 = .ok (.bipush 64, 2) := by decide +kernel
theorem dX4_init_7 : decode cX4_init 7 = .ok (.newarray .int, 2) := by decide +kernel
theorem dX4_init_9 : decode cX4_init 9 = .ok (.putfield 9, 3) := by decide +kernel
theorem dX4_init_12 : decode cX4_init 12 = .ok (.aload_n 0, 1) := by decide +kernel
theorem dX4_init_13 : decode cX4_init 13 = .ok (.iload_n 1, 1) := by decide +kernel
theorem dX4_init_14 : decode cX4_init 14 = .ok (.invokevirtual 15, 3) := by decide +kernel
theorem dX4_init_17 : decode cX4_init 17 = .ok (.return_, 1) := by decide +kernel
theorem dX4_clear_0 : decode cX4_clear 0 = .ok (.aload_n 0, 1) := by decide +kernel
theorem dX4_clear_1 : decode cX4_clear 1 = .ok (.iload_n 1, 1) := by decide +kernel
theorem dX4_clear_2 : decode cX4_clear 2 = .ok (.bipush 64, 2) := by decide +kernel
theorem dX4_clear_4 : decode cX4_clear 4 = .ok (.invokestatic 19, 3) := by decide +kernel
theorem dX4_clear_7 : decode cX4_clear 7 = .ok (.putfield 25, 3) := by decide +kernel
theorem dX4_clear_10 : decode cX4_clear 10 = .ok (.aload_n 0, 1) := by decide +kernel
theorem dX4_clear_11 : decode cX4_clear 11 = .ok (.iconst 0, 1) := by decide +kernel
theorem dX4_clear_12 : decode cX4_clear 12 = .ok (.aload_n 0, 1) := by decide +kernel
theorem dX4_clear_13 : decode cX4_clear 13 = .ok (.getfield 25, 3) := by decide +kernel
theorem dX4_clear_16 : decode cX4_clear 16 = .ok (.iconst 0, 1) := by decide +kernel
theorem dX4_clear_17 : decode cX4_clear 17 = .ok (.invokevirtual 29, 3) := by decide +kernel
theorem dX4_clear_20 : decode cX4_clear 20 = .ok (.aload_n 0, 1) := by decide +kernel
theorem dX4_clear_21 : decode cX4_clear 21 = .ok (.iconst 0, 1) := by decide +kernel
theorem dX4_clear_22 : decode cX4_clear 22 = .ok (.iconst 2, 1) := by decide +kernel
theorem dX4_clear_23 : decode cX4_clear 23 = .ok (.iconst 3, 1) := by decide +kernel
theorem dX4_clear_24 : decode cX4_clear 24 = .ok (.invokevirtual 29, 3) := by decide +kernel
theorem dX4_clear_27 : decode cX4_clear 27 = .ok (.return_, 1) := by decide +kernel
theorem dX4_of_0 : decode cX4_of 0 = .ok (.iload_n 1, 1) := by decide +kernel
theorem dX4_of_1 : decode cX4_of 1 = .ok (.ifCond .lt 20, 3) := by decide +kernel
theorem dX4_of_4 : decode cX4_of 4 = .ok (.iload_n 1, 1) := by decide +kernel
theorem dX4_of_5 : decode cX4_of 5 = .ok (.aload_n 0, 1) := by decide +kernel
theorem dX4_of_6 : decode cX4_of 6 = .ok (.getfield 25, 3) := by decide +kernel
theorem dX4_of_9 : decode cX4_of 9 = .ok (.if_icmp .ge 12, 3) := by decide +kernel
theorem dX4_of_12 : decode cX4_of 12 = .ok (.aload_n 0, 1) := by decide +kernel
theorem dX4_of_13 : decode cX4_of 13 = .ok (.getfield 9, 3) := by decide +kernel
theorem dX4_of_16 : decode cX4_of 16 = .ok (.iload_n 1, 1) := by decide +kernel
theorem dX4_of_17 : decode cX4_of 17 = .ok (.iaload, 1) := by decide +kernel
theorem dX4_of_18 : decode cX4_of 18 = .ok (.goto 4, 3) := by decide +kernel
theorem dX4_of_21 : decode cX4_of 21 = .ok (.iconst 0, 1) := by decide +kernel
theorem dX4_of_22 : decode cX4_of 22 = .ok (.ireturn, 1) := by decide +kernel
theorem dX4_mark_0 : decode cX4_mark 0 = .ok (.iconst 0, 1) := by decide +kernel
theorem dX4_mark_1 : decode cX4_mark 1 = .ok (.istore 4, 2) := by decide +kernel
theorem dX4_mark_3 : decode cX4_mark 3 = .ok (.iload 4, 2) := by decide +kernel
theorem dX4_mark_5 : decode cX4_mark 5 = .ok (.iload_n 2, 1) := by decide +kernel
theorem dX4_mark_6 : decode cX4_mark 6 = .ok (.if_icmp .ge 37, 3) := by decide +kernel
theorem dX4_mark_9 : decode cX4_mark 9 = .ok (.iload_n 1, 1) := by decide +kernel
theorem dX4_mark_10 : decode cX4_mark 10 = .ok (.iload 4, 2) := by decide +kernel
theorem dX4_mark_12 : decode cX4_mark 12 = .ok (.iadd, 1) := by decide +kernel
theorem dX4_mark_13 : decode cX4_mark 13 = .ok (.istore 5, 2) := by decide +kernel
theorem dX4_mark_15 : decode cX4_mark 15 = .ok (.iload 5, 2) := by decide +kernel
theorem dX4_mark_17 : decode cX4_mark 17 = .ok (.ifCond .lt 20, 3) := by decide +kernel
theorem dX4_mark_20 : decode cX4_mark 20 = .ok (.iload 5, 2) := by decide +kernel
theorem dX4_mark_22 : decode cX4_mark 22 = .ok (.aload_n 0, 1) := by decide +kernel
theorem dX4_mark_23 : decode cX4_mark 23 = .ok (.getfield 25, 3) := by decide +kernel
theorem dX4_mark_26 : decode cX4_mark 26 = .ok (.if_icmp .ge 11, 3) := by decide +kernel
theorem dX4_mark_29 : decode cX4_mark 29 = .ok (.aload_n 0, 1) := by decide +kernel
theorem dX4_mark_30 : decode cX4_mark 30 = .ok (.getfield 9, 3) := by decide +kernel
theorem dX4_mark_33 : decode cX4_mark 33 = .ok (.iload 5, 2) := by decide +kernel
theorem dX4_mark_35 : decode cX4_mark 35 = .ok (.iload_n 3, 1) := by decide +kernel
theorem dX4_mark_36 : decode cX4_mark 36 = .ok (.iastore, 1) := by decide +kernel
theorem dX4_mark_37 : decode cX4_mark 37 = .ok (.iinc 4 1, 3) := by decide +kernel
theorem dX4_mark_40 : decode cX4_mark 40 = .ok (.goto (-37), 3) := by decide +kernel
theorem dX4_mark_43 : decode cX4_mark 43 = .ok (.return_, 1) := by decide +kernel
theorem dX4_turn_0 : decode cX4_turn 0 = .ok (.iconst 0, 1) := by decide +kernel
theorem dX4_turn_1 : decode cX4_turn 1 = .ok (.istore_n 3, 1) := by decide +kernel
theorem dX4_turn_2 : decode cX4_turn 2 = .ok (.iload_n 3, 1) := by decide +kernel
theorem dX4_turn_3 : decode cX4_turn 3 = .ok (.aload_n 0, 1) := by decide +kernel
theorem dX4_turn_4 : decode cX4_turn 4 = .ok (.getfield 25, 3) := by decide +kernel
theorem dX4_turn_7 : decode cX4_turn 7 = .ok (.if_icmp .ge 26, 3) := by decide +kernel
theorem dX4_turn_10 : decode cX4_turn 10 = .ok (.aload_n 0, 1) := by decide +kernel
theorem dX4_turn_11 : decode cX4_turn 11 = .ok (.getfield 9, 3) := by decide +kernel
theorem dX4_turn_14 : decode cX4_turn 14 = .ok (.iload_n 3, 1) := by decide +kernel
theorem dX4_turn_15 : decode cX4_turn 15 = .ok (.iaload, 1) := by decide +kernel
theorem dX4_turn_16 : decode cX4_turn 16 = .ok (.iload_n 1, 1) := by decide +kernel
theorem dX4_turn_17 : decode cX4_turn 17 = .ok (.if_icmp .ne 10, 3) := by decide +kernel
theorem dX4_turn_20 : decode cX4_turn 20 = .ok (.aload_n 0, 1) := by decide +kernel
theorem dX4_turn_21 : decode cX4_turn 21 = .ok (.getfield 9, 3) := by decide +kernel
theorem dX4_turn_24 : decode cX4_turn 24 = .ok (.iload_n 3, 1) := by decide +kernel
theorem dX4_turn_25 : decode cX4_turn 25 = .ok (.iload_n 2, 1) := by decide +kernel
theorem dX4_turn_26 : decode cX4_turn 26 = .ok (.iastore, 1) := by decide +kernel
theorem dX4_turn_27 : decode cX4_turn 27 = .ok (.iinc 3 1, 3) := by decide +kernel
theorem dX4_turn_30 : decode cX4_turn 30 = .ok (.goto (-28), 3) := by decide +kernel
theorem dX4_turn_33 : decode cX4_turn 33 = .ok (.return_, 1) := by decide +kernel
theorem dX4_howMany_0 : decode cX4_howMany 0 = .ok (.iconst 0, 1) := by decide +kernel
theorem dX4_howMany_1 : decode cX4_howMany 1 = .ok (.istore_n 2, 1) := by decide +kernel
theorem dX4_howMany_2 : decode cX4_howMany 2 = .ok (.iconst 0, 1) := by decide +kernel
theorem dX4_howMany_3 : decode cX4_howMany 3 = .ok (.istore_n 3, 1) := by decide +kernel
theorem dX4_howMany_4 : decode cX4_howMany 4 = .ok (.iload_n 3, 1) := by decide +kernel
theorem dX4_howMany_5 : decode cX4_howMany 5 = .ok (.aload_n 0, 1) := by decide +kernel
theorem dX4_howMany_6 : decode cX4_howMany 6 = .ok (.getfield 25, 3) := by decide +kernel
theorem dX4_howMany_9 : decode cX4_howMany 9 = .ok (.if_icmp .ge 22, 3) := by decide +kernel
theorem dX4_howMany_12 : decode cX4_howMany 12 = .ok (.aload_n 0, 1) := by decide +kernel
theorem dX4_howMany_13 : decode cX4_howMany 13 = .ok (.getfield 9, 3) := by decide +kernel
theorem dX4_howMany_16 : decode cX4_howMany 16 = .ok (.iload_n 3, 1) := by decide +kernel
theorem dX4_howMany_17 : decode cX4_howMany 17 = .ok (.iaload, 1) := by decide +kernel
theorem dX4_howMany_18 : decode cX4_howMany 18 = .ok (.iload_n 1, 1) := by decide +kernel
theorem dX4_howMany_19 : decode cX4_howMany 19 = .ok (.if_icmp .ne 6, 3) := by decide +kernel
theorem dX4_howMany_22 : decode cX4_howMany 22 = .ok (.iinc 2 1, 3) := by decide +kernel
theorem dX4_howMany_25 : decode cX4_howMany 25 = .ok (.iinc 3 1, 3) := by decide +kernel
theorem dX4_howMany_28 : decode cX4_howMany 28 = .ok (.goto (-24), 3) := by decide +kernel
theorem dX4_howMany_31 : decode cX4_howMany 31 = .ok (.iload_n 2, 1) := by decide +kernel
theorem dX4_howMany_32 : decode cX4_howMany 32 = .ok (.ireturn, 1) := by decide +kernel
theorem dX4_leastFree_0 : decode cX4_leastFree 0 = .ok (.aload_n 0, 1) := by decide +kernel
theorem dX4_leastFree_1 : decode cX4_leastFree 1 = .ok (.iconst 1, 1) := by decide +kernel
theorem dX4_leastFree_2 : decode cX4_leastFree 2 = .ok (.invokevirtual 33, 3) := by decide +kernel
theorem dX4_leastFree_5 : decode cX4_leastFree 5 = .ok (.ireturn, 1) := by decide +kernel
theorem dX4_leastRun_0 : decode cX4_leastRun 0 = .ok (.iconst 0, 1) := by decide +kernel
theorem dX4_leastRun_1 : decode cX4_leastRun 1 = .ok (.istore_n 2, 1) := by decide +kernel
theorem dX4_leastRun_2 : decode cX4_leastRun 2 = .ok (.iconst 0, 1) := by decide +kernel
theorem dX4_leastRun_3 : decode cX4_leastRun 3 = .ok (.istore_n 3, 1) := by decide +kernel
theorem dX4_leastRun_4 : decode cX4_leastRun 4 = .ok (.iload_n 3, 1) := by decide +kernel
theorem dX4_leastRun_5 : decode cX4_leastRun 5 = .ok (.aload_n 0, 1) := by decide +kernel
theorem dX4_leastRun_6 : decode cX4_leastRun 6 = .ok (.getfield 25, 3) := by decide +kernel
theorem dX4_leastRun_9 : decode cX4_leastRun 9 = .ok (.if_icmp .ge 37, 3) := by decide +kernel
theorem dX4_leastRun_12 : decode cX4_leastRun 12 = .ok (.aload_n 0, 1) := by decide +kernel
theorem dX4_leastRun_13 : decode cX4_leastRun 13 = .ok (.getfield 9, 3) := by decide +kernel
theorem dX4_leastRun_16 : decode cX4_leastRun 16 = .ok (.iload_n 3, 1) := by decide +kernel
theorem dX4_leastRun_17 : decode cX4_leastRun 17 = .ok (.iaload, 1) := by decide +kernel
theorem dX4_leastRun_18 : decode cX4_leastRun 18 = .ok (.ifCond .ne 9, 3) := by decide +kernel
theorem dX4_leastRun_21 : decode cX4_leastRun 21 = .ok (.iload_n 2, 1) := by decide +kernel
theorem dX4_leastRun_22 : decode cX4_leastRun 22 = .ok (.iconst 1, 1) := by decide +kernel
theorem dX4_leastRun_23 : decode cX4_leastRun 23 = .ok (.iadd, 1) := by decide +kernel
theorem dX4_leastRun_24 : decode cX4_leastRun 24 = .ok (.goto 4, 3) := by decide +kernel
theorem dX4_leastRun_27 : decode cX4_leastRun 27 = .ok (.iconst 0, 1) := by decide +kernel
theorem dX4_leastRun_28 : decode cX4_leastRun 28 = .ok (.istore_n 2, 1) := by decide +kernel
theorem dX4_leastRun_29 : decode cX4_leastRun 29 = .ok (.iload_n 2, 1) := by decide +kernel
theorem dX4_leastRun_30 : decode cX4_leastRun 30 = .ok (.iload_n 1, 1) := by decide +kernel
theorem dX4_leastRun_31 : decode cX4_leastRun 31 = .ok (.if_icmp .lt 9, 3) := by decide +kernel
theorem dX4_leastRun_34 : decode cX4_leastRun 34 = .ok (.iload_n 3, 1) := by decide +kernel
theorem dX4_leastRun_35 : decode cX4_leastRun 35 = .ok (.iload_n 1, 1) := by decide +kernel
theorem dX4_leastRun_36 : decode cX4_leastRun 36 = .ok (.isub, 1) := by decide +kernel
theorem dX4_leastRun_37 : decode cX4_leastRun 37 = .ok (.iconst 1, 1) := by decide +kernel
theorem dX4_leastRun_38 : decode cX4_leastRun 38 = .ok (.iadd, 1) := by decide +kernel
theorem dX4_leastRun_39 : decode cX4_leastRun 39 = .ok (.ireturn, 1) := by decide +kernel
theorem dX4_leastRun_40 : decode cX4_leastRun 40 = .ok (.iinc 3 1, 3) := by decide +kernel
theorem dX4_leastRun_43 : decode cX4_leastRun 43 = .ok (.goto (-39), 3) := by decide +kernel
theorem dX4_leastRun_46 : decode cX4_leastRun 46 = .ok (.bipush (-2), 2) := by decide +kernel
theorem dX4_leastRun_48 : decode cX4_leastRun 48 = .ok (.ireturn, 1) := by decide +kernel
