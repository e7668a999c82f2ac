theorem dX2_init_0 : decode cX2_init 0 = .ok (.aload_n 0, 1) := by decide +kernel
theorem dX2_init_1 : decode cX2_init 1 = .ok (.invokespecial 3, 3) := by decide +kernel
theorem dX2_init_4 : decode cX2_init 4 = .ok (.aload_n 0, 1) := by decide +kernel
theorem dX2_init_5 : decode cX2_init 5 = .ok (.new 9, 3) := by decide +kernel
theorem dX2_init_8 : decode cX2_init 8 = .ok (.dup, 1) := by decide +kernel
theorem dX2_init_9 : decode cX2_init 9 = .ok (.bipush 64, 2) := by decide +kernel
theorem dX2_init_11 : decode cX2_init 11 = .ok (.invokespecial 11, 3) := by decide +kernel
theorem dX2_init_14 : decode cX2_init 14 = .ok (.putfield 14, 3) := by decide +kernel
theorem dX2_init_17 : decode cX2_init 17 = .ok (.aload_n 0, 1) := by decide +kernel
theorem dX2_init_18 : decode cX2_init 18 = .ok (.bipush 64, 2) := by decide +kernel
theorem dX2_init_20 : decode cX2_init 20 = .ok (.newarray .int, 2) := by decide +kernel
theorem dX2_init_22 : decode cX2_init 22 = .ok (.putfield 20, 3) := by decide +kernel
theorem dX2_init_25 : decode cX2_init 25 = .ok (.return_, 1) := by decide +kernel
theorem dX2_clear_0 : decode cX2_clear 0 = .ok (.aload_n 0, 1) := by decide +kernel
theorem dX2_clear_1 : decode cX2_clear 1 = .ok (.iconst 0, 1) := by decide +kernel
theorem dX2_clear_2 : decode cX2_clear 2 = .ok (.putfield 24, 3) := by decide +kernel
theorem dX2_clear_5 : decode cX2_clear 5 = .ok (.return_, 1) := by decide +kernel
theorem dX2_bytes_0 : decode cX2_bytes 0 = .ok (.aload_n 0, 1) := by decide +kernel
theorem dX2_bytes_1 : decode cX2_bytes 1 = .ok (.getfield 24, 3) := by decide +kernel
theorem dX2_bytes_4 : decode cX2_bytes 4 = .ok (.bipush 64, 2) := by decide +kernel
theorem dX2_bytes_6 : decode cX2_bytes 6 = .ok (.imul, 1) := by decide +kernel
theorem dX2_bytes_7 : decode cX2_bytes 7 = .ok (.ireturn, 1) := by decide +kernel
theorem dX2_target_0 : decode cX2_target 0 = .ok (.iload_n 1, 1) := by decide +kernel
theorem dX2_target_1 : decode cX2_target 1 = .ok (.ifCond .lt 26, 3) := by decide +kernel
theorem dX2_target_4 : decode cX2_target 4 = .ok (.iload_n 1, 1) := by decide +kernel
theorem dX2_target_5 : decode cX2_target 5 = .ok (.aload_n 0, 1) := by decide +kernel
theorem dX2_target_6 : decode cX2_target 6 = .ok (.getfield 24, 3) := by decide +kernel
theorem dX2_target_9 : decode cX2_target 9 = .ok (.if_icmp .ge 18, 3) := by decide +kernel
theorem dX2_target_12 : decode cX2_target 12 = .ok (.iload_n 1, 1) := by decide +kernel
theorem dX2_target_13 : decode cX2_target 13 = .ok (.bipush 64, 2) := by decide +kernel
theorem dX2_target_15 : decode cX2_target 15 = .ok (.if_icmp .ge 12, 3) := by decide +kernel
theorem dX2_target_18 : decode cX2_target 18 = .ok (.aload_n 0, 1) := by decide +kernel
theorem dX2_target_19 : decode cX2_target 19 = .ok (.getfield 20, 3) := by decide +kernel
theorem dX2_target_22 : decode cX2_target 22 = .ok (.iload_n 1, 1) := by decide +kernel
theorem dX2_target_23 : decode cX2_target 23 = .ok (.iaload, 1) := by decide +kernel
theorem dX2_target_24 : decode cX2_target 24 = .ok (.goto 5, 3) := by decide +kernel
theorem dX2_target_27 : decode cX2_target 27 = .ok (.bipush (-2), 2) := by decide +kernel
theorem dX2_target_29 : decode cX2_target 29 = .ok (.ireturn, 1) := by decide +kernel
theorem dX2_holds_0 : decode cX2_holds 0 = .ok (.iconst 0, 1) := by decide +kernel
theorem dX2_holds_1 : decode cX2_holds 1 = .ok (.istore_n 2, 1) := by decide +kernel
theorem dX2_holds_2 : decode cX2_holds 2 = .ok (.iload_n 2, 1) := by decide +kernel
theorem dX2_holds_3 : decode cX2_holds 3 = .ok (.aload_n 0, 1) := by decide +kernel
theorem dX2_holds_4 : decode cX2_holds 4 = .ok (.getfield 24, 3) := by decide +kernel
theorem dX2_holds_7 : decode cX2_holds 7 = .ok (.if_icmp .ge 20, 3) := by decide +kernel
theorem dX2_holds_10 : decode cX2_holds 10 = .ok (.aload_n 0, 1) := by decide +kernel
theorem dX2_holds_11 : decode cX2_holds 11 = .ok (.iload_n 2, 1) := by decide +kernel
theorem dX2_holds_12 : decode cX2_holds 12 = .ok (.invokevirtual 28, 3) := by decide +kernel
theorem dX2_holds_15 : decode cX2_holds 15 = .ok (.iload_n 1, 1) := by decide +kernel
theorem dX2_holds_16 : decode cX2_holds 16 = .ok (.if_icmp .ne 5, 3) := by decide +kernel
theorem dX2_holds_19 : decode cX2_holds 19 = .ok (.iconst 1, 1) := by decide +kernel
theorem dX2_holds_20 : decode cX2_holds 20 = .ok (.ireturn, 1) := by decide +kernel
theorem dX2_holds_21 : decode cX2_holds 21 = .ok (.iinc 2 1, 3) := by decide +kernel
theorem dX2_holds_24 : decode cX2_holds 24 = .ok (.goto (-22), 3) := by decide +kernel
theorem dX2_holds_27 : decode cX2_holds 27 = .ok (.iconst 0, 1) := by decide +kernel
theorem dX2_holds_28 : decode cX2_holds 28 = .ok (.ireturn, 1) := by decide +kernel
theorem dX2_append_0 : decode cX2_append 0 = .ok (.aload_n 0, 1) := by decide +kernel
theorem dX2_append_1 : decode cX2_append 1 = .ok (.getfield 24, 3) := by decide +kernel
theorem dX2_append_4 : decode cX2_append 4 = .ok (.bipush 64, 2) := by decide +kernel
theorem dX2_append_6 : decode cX2_append 6 = .ok (.if_icmp .lt 6, 3) := by decide +kernel
theorem dX2_append_9 : decode cX2_append 9 = .ok (.bipush (-2), 2) := by decide +kernel
theorem dX2_append_11 : decode cX2_append 11 = .ok (.ireturn, 1) := by decide +kernel
theorem dX2_append_12 : decode cX2_append 12 = .ok (.aload_n 0, 1) := by decide +kernel
theorem dX2_append_13 : decode cX2_append 13 = .ok (.getfield 24, 3) := by decide +kernel
theorem dX2_append_16 : decode cX2_append 16 = .ok (.istore 4, 2) := by decide +kernel
theorem dX2_append_18 : decode cX2_append 18 = .ok (.aload_n 0, 1) := by decide +kernel
theorem dX2_append_19 : decode cX2_append 19 = .ok (.dup, 1) := by decide +kernel
theorem dX2_append_20 : decode cX2_append 20 = .ok (.getfield 24, 3) := by decide +kernel
theorem dX2_append_23 : decode cX2_append 23 = .ok (.iconst 1, 1) := by decide +kernel
theorem dX2_append_24 : decode cX2_append 24 = .ok (.iadd, 1) := by decide +kernel
theorem dX2_append_25 : decode cX2_append 25 = .ok (.putfield 24, 3) := by decide +kernel
theorem dX2_append_28 : decode cX2_append 28 = .ok (.aload_n 0, 1) := by decide +kernel
theorem dX2_append_29 : decode cX2_append 29 = .ok (.getfield 20, 3) := by decide +kernel
theorem dX2_append_32 : decode cX2_append 32 = .ok (.iload 4, 2) := by decide +kernel
theorem dX2_append_34 : decode cX2_append 34 = .ok (.iload_n 1, 1) := by decide +kernel
theorem dX2_append_35 : decode cX2_append 35 = .ok (.iastore, 1) := by decide +kernel
theorem dX2_append_36 : decode cX2_append 36 = .ok (.aload_n 0, 1) := by decide +kernel
theorem dX2_append_37 : decode cX2_append 37 = .ok (.getfield 14, 3) := by decide +kernel
theorem dX2_append_40 : decode cX2_append 40 = .ok (.iload 4, 2) := by decide +kernel
theorem dX2_append_42 : decode cX2_append 42 = .ok (.invokevirtual 32, 3) := by decide +kernel
theorem dX2_append_45 : decode cX2_append 45 = .ok (.aload_n 0, 1) := by decide +kernel
theorem dX2_append_46 : decode cX2_append 46 = .ok (.getfield 14, 3) := by decide +kernel
theorem dX2_append_49 : decode cX2_append 49 = .ok (.iload 4, 2) := by decide +kernel
theorem dX2_append_51 : decode cX2_append 51 = .ok (.iconst 0, 1) := by decide +kernel
theorem dX2_append_52 : decode cX2_append 52 = .ok (.iload_n 2, 1) := by decide +kernel
theorem dX2_append_53 : decode cX2_append 53 = .ok (.invokevirtual 35, 3) := by decide +kernel
theorem dX2_append_56 : decode cX2_append 56 = .ok (.aload_n 0, 1) := by decide +kernel
theorem dX2_append_57 : decode cX2_append 57 = .ok (.getfield 14, 3) := by decide +kernel
theorem dX2_append_60 : decode cX2_append 60 = .ok (.iload 4, 2) := by decide +kernel
theorem dX2_append_62 : decode cX2_append 62 = .ok (.iconst 1, 1) := by decide +kernel
theorem dX2_append_63 : decode cX2_append 63 = .ok (.iload_n 3, 1) := by decide +kernel
theorem dX2_append_64 : decode cX2_append 64 = .ok (.invokevirtual 35, 3) := by decide +kernel
theorem dX2_append_67 : decode cX2_append 67 = .ok (.iload 4, 2) := by decide +kernel
theorem dX2_append_69 : decode cX2_append 69 = .ok (.ireturn, 1) := by decide +kernel
theorem dX2_seal_0 : decode cX2_seal 0 = .ok (.aload_n 0, 1) := by decide +kernel
theorem dX2_seal_1 : decode cX2_seal 1 = .ok (.getfield 14, 3) := by decide +kernel
theorem dX2_seal_4 : decode cX2_seal 4 = .ok (.iload_n 1, 1) := by decide +kernel
theorem dX2_seal_5 : decode cX2_seal 5 = .ok (.bipush 56, 2) := by decide +kernel
theorem dX2_seal_7 : decode cX2_seal 7 = .ok (.bipush 8, 2) := by decide +kernel
theorem dX2_seal_9 : decode cX2_seal 9 = .ok (.aload_n 0, 1) := by decide +kernel
theorem dX2_seal_10 : decode cX2_seal 10 = .ok (.getfield 14, 3) := by decide +kernel
theorem dX2_seal_13 : decode cX2_seal 13 = .ok (.iload_n 1, 1) := by decide +kernel
theorem dX2_seal_14 : decode cX2_seal 14 = .ok (.aload_n 0, 1) := by decide +kernel
theorem dX2_seal_15 : decode cX2_seal 15 = .ok (.iload_n 1, 1) := by decide +kernel
theorem dX2_seal_16 : decode cX2_seal 16 = .ok (.invokevirtual 28, 3) := by decide +kernel
theorem dX2_seal_19 : decode cX2_seal 19 = .ok (.invokevirtual 39, 3) := by decide +kernel
theorem dX2_seal_22 : decode cX2_seal 22 = .ok (.invokevirtual 43, 3) := by decide +kernel
theorem dX2_seal_25 : decode cX2_seal 25 = .ok (.return_, 1) := by decide +kernel
theorem dX2_drain_0 : decode cX2_drain 0 = .ok (.iload_n 2, 1) := by decide +kernel
theorem dX2_drain_1 : decode cX2_drain 1 = .ok (.aload_n 0, 1) := by decide +kernel
theorem dX2_drain_2 : decode cX2_drain 2 = .ok (.invokevirtual 47, 3) := by decide +kernel
theorem dX2_drain_5 : decode cX2_drain 5 = .ok (.invokestatic 51, 3) := by decide +kernel
theorem dX2_drain_8 : decode cX2_drain 8 = .ok (.istore_n 3, 1) := by decide +kernel
theorem dX2_drain_9 : decode cX2_drain 9 = .ok (.iconst 0, 1) := by decide +kernel
theorem dX2_drain_10 : decode cX2_drain 10 = .ok (.istore 4, 2) := by decide +kernel
theorem dX2_drain_12 : decode cX2_drain 12 = .ok (.iload 4, 2) := by decide +kernel
theorem dX2_drain_14 : decode cX2_drain 14 = .ok (.iload_n 3, 1) := by decide +kernel
theorem dX2_drain_15 : decode cX2_drain 15 = .ok (.if_icmp .ge 46, 3) := by decide +kernel
theorem dX2_drain_18 : decode cX2_drain 18 = .ok (.iload 4, 2) := by decide +kernel
theorem dX2_drain_20 : decode cX2_drain 20 = .ok (.bipush 64, 2) := by decide +kernel
theorem dX2_drain_22 : decode cX2_drain 22 = .ok (.idiv, 1) := by decide +kernel
theorem dX2_drain_23 : decode cX2_drain 23 = .ok (.istore 5, 2) := by decide +kernel
theorem dX2_drain_25 : decode cX2_drain 25 = .ok (.iload 4, 2) := by decide +kernel
theorem dX2_drain_27 : decode cX2_drain 27 = .ok (.bipush 64, 2) := by decide +kernel
theorem dX2_drain_29 : decode cX2_drain 29 = .ok (.irem, 1) := by decide +kernel
theorem dX2_drain_30 : decode cX2_drain 30 = .ok (.istore 6, 2) := by decide +kernel
theorem dX2_drain_32 : decode cX2_drain 32 = .ok (.aload_n 1, 1) := by decide +kernel
theorem dX2_drain_33 : decode cX2_drain 33 = .ok (.aload_n 0, 1) := by decide +kernel
theorem dX2_drain_34 : decode cX2_drain 34 = .ok (.iload 5, 2) := by decide +kernel
theorem dX2_drain_36 : decode cX2_drain 36 = .ok (.invokevirtual 28, 3) := by decide +kernel
theorem dX2_drain_39 : decode cX2_drain 39 = .ok (.iload 6, 2) := by decide +kernel
theorem dX2_drain_41 : decode cX2_drain 41 = .ok (.aload_n 0, 1) := by decide +kernel
theorem dX2_drain_42 : decode cX2_drain 42 = .ok (.getfield 14, 3) := by decide +kernel
theorem dX2_drain_45 : decode cX2_drain 45 = .ok (.iload 5, 2) := by decide +kernel
theorem dX2_drain_47 : decode cX2_drain 47 = .ok (.iload 6, 2) := by decide +kernel
theorem dX2_drain_49 : decode cX2_drain 49 = .ok (.invokevirtual 57, 3) := by decide +kernel
theorem dX2_drain_52 : decode cX2_drain 52 = .ok (.invokevirtual 35, 3) := by decide +kernel
theorem dX2_drain_55 : decode cX2_drain 55 = .ok (.iinc 4 1, 3) := by decide +kernel
theorem dX2_drain_58 : decode cX2_drain 58 = .ok (.goto (-46), 3) := by decide +kernel
theorem dX2_drain_61 : decode cX2_drain 61 = .ok (.aload_n 0, 1) := by decide +kernel
theorem dX2_drain_62 : decode cX2_drain 62 = .ok (.iconst 0, 1) := by decide +kernel
theorem dX2_drain_63 : decode cX2_drain 63 = .ok (.putfield 24, 3) := by decide +kernel
theorem dX2_drain_66 : decode cX2_drain 66 = .ok (.iload_n 3, 1) := by decide +kernel
theorem dX2_drain_67 : decode cX2_drain 67 = .ok (.bipush 64, 2) := by decide +kernel
theorem dX2_drain_69 : decode cX2_drain 69 = .ok (.idiv, 1) := by decide +kernel
theorem dX2_drain_70 : decode cX2_drain 70 = .ok (.ireturn, 1) := by decide +kernel
