theorem dX5_init_0 : decode cX5_init 0 = .ok (.aload_n 0, 1) := by decide +kernel
theorem dX5_init_1 : decode cX5_init 1 = .ok (.invokespecial 3, 3) := by decide +kernel
theorem dX5_init_4 : decode cX5_init 4 = .ok (.aload_n 0, 1) := by decide +kernel
theorem dX5_init_5 : decode cX5_init 5 = .ok (.new 9, 3) := by decide +kernel
theorem dX5_init_8 : decode cX5_init 8 = .ok (.dup, 1) := by decide +kernel
theorem dX5_init_9 : decode cX5_init 9 = .ok (.bipush 16, 2) := by decide +kernel
theorem dX5_init_11 : decode cX5_init 11 = .ok (.invokespecial 11, 3) := by decide +kernel
theorem dX5_init_14 : decode cX5_init 14 = .ok (.putfield 14, 3) := by decide +kernel
theorem dX5_init_17 : decode cX5_init 17 = .ok (.aload_n 0, 1) := by decide +kernel
theorem dX5_init_18 : decode cX5_init 18 = .ok (.new 18, 3) := by decide +kernel
theorem dX5_init_21 : decode cX5_init 21 = .ok (.dup, 1) := by decide +kernel
theorem dX5_init_22 : decode cX5_init 22 = .ok (.bipush 16, 2) := by decide +kernel
theorem dX5_init_24 : decode cX5_init 24 = .ok (.invokespecial 20, 3) := by decide +kernel
theorem dX5_init_27 : decode cX5_init 27 = .ok (.putfield 21, 3) := by decide +kernel
theorem dX5_init_30 : decode cX5_init 30 = .ok (.aload_n 0, 1) := by decide +kernel
theorem dX5_init_31 : decode cX5_init 31 = .ok (.new 25, 3) := by decide +kernel
theorem dX5_init_34 : decode cX5_init 34 = .ok (.dup, 1) := by decide +kernel
theorem dX5_init_35 : decode cX5_init 35 = .ok (.invokespecial 27, 3) := by decide +kernel
theorem dX5_init_38 : decode cX5_init 38 = .ok (.putfield 28, 3) := by decide +kernel
theorem dX5_init_41 : decode cX5_init 41 = .ok (.aload_n 0, 1) := by decide +kernel
theorem dX5_init_42 : decode cX5_init 42 = .ok (.new 32, 3) := by decide +kernel
theorem dX5_init_45 : decode cX5_init 45 = .ok (.dup, 1) := by decide +kernel
theorem dX5_init_46 : decode cX5_init 46 = .ok (.invokespecial 34, 3) := by decide +kernel
theorem dX5_init_49 : decode cX5_init 49 = .ok (.putfield 35, 3) := by decide +kernel
theorem dX5_init_52 : decode cX5_init 52 = .ok (.aload_n 0, 1) := by decide +kernel
theorem dX5_init_53 : decode cX5_init 53 = .ok (.new 39, 3) := by decide +kernel
theorem dX5_init_56 : decode cX5_init 56 = .ok (.dup, 1) := by decide +kernel
theorem dX5_init_57 : decode cX5_init 57 = .ok (.invokespecial 41, 3) := by decide +kernel
theorem dX5_init_60 : decode cX5_init 60 = .ok (.putfield 42, 3) := by decide +kernel
theorem dX5_init_63 : decode cX5_init 63 = .ok (.aload_n 0, 1) := by decide +kernel
theorem dX5_init_64 : decode cX5_init 64 = .ok (.new 39, 3) := by decide +kernel
theorem dX5_init_67 : decode cX5_init 67 = .ok (.dup, 1) := by decide +kernel
theorem dX5_init_68 : decode cX5_init 68 = .ok (.invokespecial 41, 3) := by decide +kernel
theorem dX5_init_71 : decode cX5_init 71 = .ok (.putfield 46, 3) := by decide +kernel
theorem dX5_init_74 : decode cX5_init 74 = .ok (.aload_n 0, 1) := by decide +kernel
theorem dX5_init_75 : decode cX5_init 75 = .ok (.iconst 1, 1) := by decide +kernel
theorem dX5_init_76 : decode cX5_init 76 = .ok (.putfield 49, 3) := by decide +kernel
theorem dX5_init_79 : decode cX5_init 79 = .ok (.aload_n 0, 1) := by decide +kernel
theorem dX5_init_80 : decode cX5_init 80 = .ok (.iconst 1, 1) := by decide +kernel
theorem dX5_init_81 : decode cX5_init 81 = .ok (.putfield 53, 3) := by decide +kernel
theorem dX5_init_84 : decode cX5_init 84 = .ok (.return_, 1) := by decide +kernel
theorem dX5_format_0 : decode cX5_format 0 = .ok (.iload_n 1, 1) := by decide +kernel
theorem dX5_format_1 : decode cX5_format 1 = .ok (.iconst 4, 1) := by decide +kernel
theorem dX5_format_2 : decode cX5_format 2 = .ok (.if_icmp .lt 9, 3) := by decide +kernel
theorem dX5_format_5 : decode cX5_format 5 = .ok (.iload_n 1, 1) := by decide +kernel
theorem dX5_format_6 : decode cX5_format 6 = .ok (.bipush 64, 2) := by decide +kernel
theorem dX5_format_8 : decode cX5_format 8 = .ok (.if_icmp .le 5, 3) := by decide +kernel
theorem dX5_format_11 : decode cX5_format 11 = .ok (.iconst (-1), 1) := by decide +kernel
theorem dX5_format_12 : decode cX5_format 12 = .ok (.ireturn, 1) := by decide +kernel
theorem dX5_format_13 : decode cX5_format 13 = .ok (.aload_n 0, 1) := by decide +kernel
theorem dX5_format_14 : decode cX5_format 14 = .ok (.getfield 14, 3) := by decide +kernel
theorem dX5_format_17 : decode cX5_format 17 = .ok (.iload_n 1, 1) := by decide +kernel
theorem dX5_format_18 : decode cX5_format 18 = .ok (.invokevirtual 57, 3) := by decide +kernel
theorem dX5_format_21 : decode cX5_format 21 = .ok (.aload_n 0, 1) := by decide +kernel
theorem dX5_format_22 : decode cX5_format 22 = .ok (.getfield 42, 3) := by decide +kernel
theorem dX5_format_25 : decode cX5_format 25 = .ok (.invokevirtual 60, 3) := by decide +kernel
theorem dX5_format_28 : decode cX5_format 28 = .ok (.aload_n 0, 1) := by decide +kernel
theorem dX5_format_29 : decode cX5_format 29 = .ok (.invokevirtual 63, 3) := by decide +kernel
theorem dX5_format_32 : decode cX5_format 32 = .ok (.aload_n 0, 1) := by decide +kernel
theorem dX5_format_33 : decode cX5_format 33 = .ok (.iconst 1, 1) := by decide +kernel
theorem dX5_format_34 : decode cX5_format 34 = .ok (.putfield 49, 3) := by decide +kernel
theorem dX5_format_37 : decode cX5_format 37 = .ok (.iconst 0, 1) := by decide +kernel
theorem dX5_format_38 : decode cX5_format 38 = .ok (.ireturn, 1) := by decide +kernel
theorem dX5_add_0 : decode cX5_add 0 = .ok (.aload_n 0, 1) := by decide +kernel
theorem dX5_add_1 : decode cX5_add 1 = .ok (.getfield 49, 3) := by decide +kernel
theorem dX5_add_4 : decode cX5_add 4 = .ok (.ifCond .ne 6, 3) := by decide +kernel
theorem dX5_add_7 : decode cX5_add 7 = .ok (.bipush (-4), 2) := by decide +kernel
theorem dX5_add_9 : decode cX5_add 9 = .ok (.ireturn, 1) := by decide +kernel
theorem dX5_add_10 : decode cX5_add 10 = .ok (.aload_n 0, 1) := by decide +kernel
theorem dX5_add_11 : decode cX5_add 11 = .ok (.getfield 66, 3) := by decide +kernel
theorem dX5_add_14 : decode cX5_add 14 = .ok (.iconst 1, 1) := by decide +kernel
theorem dX5_add_15 : decode cX5_add 15 = .ok (.iadd, 1) := by decide +kernel
theorem dX5_add_16 : decode cX5_add 16 = .ok (.iconst 3, 1) := by decide +kernel
theorem dX5_add_17 : decode cX5_add 17 = .ok (.if_icmp .lt 7, 3) := by decide +kernel
theorem dX5_add_20 : decode cX5_add 20 = .ok (.iconst 1, 1) := by decide +kernel
theorem dX5_add_21 : decode cX5_add 21 = .ok (.goto 4, 3) := by decide +kernel
theorem dX5_add_24 : decode cX5_add 24 = .ok (.iconst 0, 1) := by decide +kernel
theorem dX5_add_25 : decode cX5_add 25 = .ok (.istore 5, 2) := by decide +kernel
theorem dX5_add_27 : decode cX5_add 27 = .ok (.iload 5, 2) := by decide +kernel
theorem dX5_add_29 : decode cX5_add 29 = .ok (.ifCond .eq 18, 3) := by decide +kernel
theorem dX5_add_32 : decode cX5_add 32 = .ok (.aload_n 0, 1) := by decide +kernel
theorem dX5_add_33 : decode cX5_add 33 = .ok (.getfield 21, 3) := by decide +kernel
theorem dX5_add_36 : decode cX5_add 36 = .ok (.invokevirtual 69, 3) := by decide +kernel
theorem dX5_add_39 : decode cX5_add 39 = .ok (.bipush (-2), 2) := by decide +kernel
theorem dX5_add_41 : decode cX5_add 41 = .ok (.if_icmp .ne 6, 3) := by decide +kernel
theorem dX5_add_44 : decode cX5_add 44 = .ok (.bipush (-3), 2) := by decide +kernel
theorem dX5_add_46 : decode cX5_add 46 = .ok (.ireturn, 1) := by decide +kernel
theorem dX5_add_47 : decode cX5_add 47 = .ok (.aload_n 0, 1) := by decide +kernel
theorem dX5_add_48 : decode cX5_add 48 = .ok (.getfield 53, 3) := by decide +kernel
theorem dX5_add_51 : decode cX5_add 51 = .ok (.istore 6, 2) := by decide +kernel
theorem dX5_add_53 : decode cX5_add 53 = .ok (.aload_n 0, 1) := by decide +kernel
theorem dX5_add_54 : decode cX5_add 54 = .ok (.getfield 35, 3) := by decide +kernel
theorem dX5_add_57 : decode cX5_add 57 = .ok (.lload_n 1, 1) := by decide +kernel
theorem dX5_add_58 : decode cX5_add 58 = .ok (.lload_n 3, 1) := by decide +kernel
theorem dX5_add_59 : decode cX5_add 59 = .ok (.iload 6, 2) := by decide +kernel
theorem dX5_add_61 : decode cX5_add 61 = .ok (.invokevirtual 73, 3) := by decide +kernel
theorem dX5_add_64 : decode cX5_add 64 = .ok (.aload_n 0, 1) := by decide +kernel
theorem dX5_add_65 : decode cX5_add 65 = .ok (.dup, 1) := by decide +kernel
theorem dX5_add_66 : decode cX5_add 66 = .ok (.getfield 53, 3) := by decide +kernel
theorem dX5_add_69 : decode cX5_add 69 = .ok (.iconst 1, 1) := by decide +kernel
theorem dX5_add_70 : decode cX5_add 70 = .ok (.iadd, 1) := by decide +kernel
theorem dX5_add_71 : decode cX5_add 71 = .ok (.putfield 53, 3) := by decide +kernel
theorem dX5_add_74 : decode cX5_add 74 = .ok (.aload_n 0, 1) := by decide +kernel
theorem dX5_add_75 : decode cX5_add 75 = .ok (.dup, 1) := by decide +kernel
theorem dX5_add_76 : decode cX5_add 76 = .ok (.getfield 66, 3) := by decide +kernel
theorem dX5_add_79 : decode cX5_add 79 = .ok (.iconst 1, 1) := by decide +kernel
theorem dX5_add_80 : decode cX5_add 80 = .ok (.iadd, 1) := by decide +kernel
theorem dX5_add_81 : decode cX5_add 81 = .ok (.putfield 66, 3) := by decide +kernel
theorem dX5_add_84 : decode cX5_add 84 = .ok (.iload 5, 2) := by decide +kernel
theorem dX5_add_86 : decode cX5_add 86 = .ok (.ifCond .eq 14, 3) := by decide +kernel
theorem dX5_add_89 : decode cX5_add 89 = .ok (.aload_n 0, 1) := by decide +kernel
theorem dX5_add_90 : decode cX5_add 90 = .ok (.aload_n 0, 1) := by decide +kernel
theorem dX5_add_91 : decode cX5_add 91 = .ok (.getfield 21, 3) := by decide +kernel
theorem dX5_add_94 : decode cX5_add 94 = .ok (.invokevirtual 69, 3) := by decide +kernel
theorem dX5_add_97 : decode cX5_add 97 = .ok (.invokevirtual 77, 3) := by decide +kernel
theorem dX5_add_100 : decode cX5_add 100 = .ok (.iload 6, 2) := by decide +kernel
theorem dX5_add_102 : decode cX5_add 102 = .ok (.ireturn, 1) := by decide +kernel
theorem dX5_flush_0 : decode cX5_flush 0 = .ok (.aload_n 0, 1) := by decide +kernel
theorem dX5_flush_1 : decode cX5_flush 1 = .ok (.getfield 49, 3) := by decide +kernel
theorem dX5_flush_4 : decode cX5_flush 4 = .ok (.ifCond .ne 6, 3) := by decide +kernel
theorem dX5_flush_7 : decode cX5_flush 7 = .ok (.bipush (-4), 2) := by decide +kernel
theorem dX5_flush_9 : decode cX5_flush 9 = .ok (.ireturn, 1) := by decide +kernel
theorem dX5_flush_10 : decode cX5_flush 10 = .ok (.aload_n 0, 1) := by decide +kernel
theorem dX5_flush_11 : decode cX5_flush 11 = .ok (.getfield 66, 3) := by decide +kernel
theorem dX5_flush_14 : decode cX5_flush 14 = .ok (.ifCond .ne 5, 3) := by decide +kernel
theorem dX5_flush_17 : decode cX5_flush 17 = .ok (.iconst 0, 1) := by decide +kernel
theorem dX5_flush_18 : decode cX5_flush 18 = .ok (.ireturn, 1) := by decide +kernel
theorem dX5_flush_19 : decode cX5_flush 19 = .ok (.aload_n 0, 1) := by decide +kernel
theorem dX5_flush_20 : decode cX5_flush 20 = .ok (.getfield 21, 3) := by decide +kernel
theorem dX5_flush_23 : decode cX5_flush 23 = .ok (.invokevirtual 69, 3) := by decide +kernel
theorem dX5_flush_26 : decode cX5_flush 26 = .ok (.istore_n 1, 1) := by decide +kernel
theorem dX5_flush_27 : decode cX5_flush 27 = .ok (.iload_n 1, 1) := by decide +kernel
theorem dX5_flush_28 : decode cX5_flush 28 = .ok (.bipush (-2), 2) := by decide +kernel
theorem dX5_flush_30 : decode cX5_flush 30 = .ok (.if_icmp .ne 6, 3) := by decide +kernel
theorem dX5_flush_33 : decode cX5_flush 33 = .ok (.bipush (-3), 2) := by decide +kernel
theorem dX5_flush_35 : decode cX5_flush 35 = .ok (.ireturn, 1) := by decide +kernel
theorem dX5_flush_36 : decode cX5_flush 36 = .ok (.aload_n 0, 1) := by decide +kernel
theorem dX5_flush_37 : decode cX5_flush 37 = .ok (.getfield 66, 3) := by decide +kernel
theorem dX5_flush_40 : decode cX5_flush 40 = .ok (.istore_n 2, 1) := by decide +kernel
theorem dX5_flush_41 : decode cX5_flush 41 = .ok (.aload_n 0, 1) := by decide +kernel
theorem dX5_flush_42 : decode cX5_flush 42 = .ok (.iload_n 1, 1) := by decide +kernel
theorem dX5_flush_43 : decode cX5_flush 43 = .ok (.invokevirtual 77, 3) := by decide +kernel
theorem dX5_flush_46 : decode cX5_flush 46 = .ok (.iload_n 2, 1) := by decide +kernel
theorem dX5_flush_47 : decode cX5_flush 47 = .ok (.ireturn, 1) := by decide +kernel
theorem dX5_sync_0 : decode cX5_sync 0 = .ok (.aload_n 0, 1) := by decide +kernel
theorem dX5_sync_1 : decode cX5_sync 1 = .ok (.getfield 49, 3) := by decide +kernel
theorem dX5_sync_4 : decode cX5_sync 4 = .ok (.ifCond .ne 6, 3) := by decide +kernel
theorem dX5_sync_7 : decode cX5_sync 7 = .ok (.bipush (-4), 2) := by decide +kernel
theorem dX5_sync_9 : decode cX5_sync 9 = .ok (.ireturn, 1) := by decide +kernel
theorem dX5_sync_10 : decode cX5_sync 10 = .ok (.aload_n 0, 1) := by decide +kernel
theorem dX5_sync_11 : decode cX5_sync 11 = .ok (.aload_n 0, 1) := by decide +kernel
theorem dX5_sync_12 : decode cX5_sync 12 = .ok (.getfield 53, 3) := by decide +kernel
theorem dX5_sync_15 : decode cX5_sync 15 = .ok (.iconst 1, 1) := by decide +kernel
theorem dX5_sync_16 : decode cX5_sync 16 = .ok (.isub, 1) := by decide +kernel
theorem dX5_sync_17 : decode cX5_sync 17 = .ok (.aload_n 0, 1) := by decide +kernel
theorem dX5_sync_18 : decode cX5_sync 18 = .ok (.getfield 66, 3) := by decide +kernel
theorem dX5_sync_21 : decode cX5_sync 21 = .ok (.isub, 1) := by decide +kernel
theorem dX5_sync_22 : decode cX5_sync 22 = .ok (.putfield 80, 3) := by decide +kernel
theorem dX5_sync_25 : decode cX5_sync 25 = .ok (.aload_n 0, 1) := by decide +kernel
theorem dX5_sync_26 : decode cX5_sync 26 = .ok (.getfield 28, 3) := by decide +kernel
theorem dX5_sync_29 : decode cX5_sync 29 = .ok (.aload_n 0, 1) := by decide +kernel
theorem dX5_sync_30 : decode cX5_sync 30 = .ok (.getfield 14, 3) := by decide +kernel
theorem dX5_sync_33 : decode cX5_sync 33 = .ok (.aload_n 0, 1) := by decide +kernel
theorem dX5_sync_34 : decode cX5_sync 34 = .ok (.getfield 28, 3) := by decide +kernel
theorem dX5_sync_37 : decode cX5_sync 37 = .ok (.invokevirtual 83, 3) := by decide +kernel
theorem dX5_sync_40 : decode cX5_sync 40 = .ok (.invokevirtual 86, 3) := by decide +kernel
theorem dX5_sync_43 : decode cX5_sync 43 = .ok (.ireturn, 1) := by decide +kernel
theorem dX5_commit_0 : decode cX5_commit 0 = .ok (.iload_n 1, 1) := by decide +kernel
theorem dX5_commit_1 : decode cX5_commit 1 = .ok (.iconst (-1), 1) := by decide +kernel
theorem dX5_commit_2 : decode cX5_commit 2 = .ok (.if_icmp .ge 5, 3) := by decide +kernel
theorem dX5_commit_5 : decode cX5_commit 5 = .ok (.iconst (-1), 1) := by decide +kernel
theorem dX5_commit_6 : decode cX5_commit 6 = .ok (.ireturn, 1) := by decide +kernel
theorem dX5_commit_7 : decode cX5_commit 7 = .ok (.aload_n 0, 1) := by decide +kernel
theorem dX5_commit_8 : decode cX5_commit 8 = .ok (.getfield 49, 3) := by decide +kernel
theorem dX5_commit_11 : decode cX5_commit 11 = .ok (.ifCond .ne 6, 3) := by decide +kernel
theorem dX5_commit_14 : decode cX5_commit 14 = .ok (.bipush (-4), 2) := by decide +kernel
theorem dX5_commit_16 : decode cX5_commit 16 = .ok (.ireturn, 1) := by decide +kernel
theorem dX5_commit_17 : decode cX5_commit 17 = .ok (.aload_n 0, 1) := by decide +kernel
theorem dX5_commit_18 : decode cX5_commit 18 = .ok (.getfield 53, 3) := by decide +kernel
theorem dX5_commit_21 : decode cX5_commit 21 = .ok (.aload_n 0, 1) := by decide +kernel
theorem dX5_commit_22 : decode cX5_commit 22 = .ok (.getfield 42, 3) := by decide +kernel
theorem dX5_commit_25 : decode cX5_commit 25 = .ok (.getfield 90, 3) := by decide +kernel
theorem dX5_commit_28 : decode cX5_commit 28 = .ok (.isub, 1) := by decide +kernel
theorem dX5_commit_29 : decode cX5_commit 29 = .ok (.istore_n 2, 1) := by decide +kernel
theorem dX5_commit_30 : decode cX5_commit 30 = .ok (.iload_n 2, 1) := by decide +kernel
theorem dX5_commit_31 : decode cX5_commit 31 = .ok (.ifCond .gt 5, 3) := by decide +kernel
theorem dX5_commit_34 : decode cX5_commit 34 = .ok (.iconst 0, 1) := by decide +kernel
theorem dX5_commit_35 : decode cX5_commit 35 = .ok (.ireturn, 1) := by decide +kernel
theorem dX5_commit_36 : decode cX5_commit 36 = .ok (.aload_n 0, 1) := by decide +kernel
theorem dX5_commit_37 : decode cX5_commit 37 = .ok (.getfield 42, 3) := by decide +kernel
theorem dX5_commit_40 : decode cX5_commit 40 = .ok (.getfield 91, 3) := by decide +kernel
theorem dX5_commit_43 : decode cX5_commit 43 = .ok (.iconst 5, 1) := by decide +kernel
theorem dX5_commit_44 : decode cX5_commit 44 = .ok (.if_icmp .ne 7, 3) := by decide +kernel
theorem dX5_commit_47 : decode cX5_commit 47 = .ok (.iconst 1, 1) := by decide +kernel
theorem dX5_commit_48 : decode cX5_commit 48 = .ok (.goto 4, 3) := by decide +kernel
theorem dX5_commit_51 : decode cX5_commit 51 = .ok (.iconst 0, 1) := by decide +kernel
theorem dX5_commit_52 : decode cX5_commit 52 = .ok (.istore_n 3, 1) := by decide +kernel
theorem dX5_commit_53 : decode cX5_commit 53 = .ok (.iload_n 3, 1) := by decide +kernel
theorem dX5_commit_54 : decode cX5_commit 54 = .ok (.ifCond .eq 13, 3) := by decide +kernel
theorem dX5_commit_57 : decode cX5_commit 57 = .ok (.aload_n 0, 1) := by decide +kernel
theorem dX5_commit_58 : decode cX5_commit 58 = .ok (.getfield 35, 3) := by decide +kernel
theorem dX5_commit_61 : decode cX5_commit 61 = .ok (.getfield 94, 3) := by decide +kernel
theorem dX5_commit_64 : decode cX5_commit 64 = .ok (.goto 4, 3) := by decide +kernel
theorem dX5_commit_67 : decode cX5_commit 67 = .ok (.iload_n 2, 1) := by decide +kernel
theorem dX5_commit_68 : decode cX5_commit 68 = .ok (.istore 4, 2) := by decide +kernel
theorem dX5_commit_70 : decode cX5_commit 70 = .ok (.iload 4, 2) := by decide +kernel
theorem dX5_commit_72 : decode cX5_commit 72 = .ok (.invokestatic 97, 3) := by decide +kernel
theorem dX5_commit_75 : decode cX5_commit 75 = .ok (.istore 5, 2) := by decide +kernel
theorem dX5_commit_77 : decode cX5_commit 77 = .ok (.aload_n 0, 1) := by decide +kernel
theorem dX5_commit_78 : decode cX5_commit 78 = .ok (.getfield 21, 3) := by decide +kernel
theorem dX5_commit_81 : decode cX5_commit 81 = .ok (.iload 5, 2) := by decide +kernel
theorem dX5_commit_83 : decode cX5_commit 83 = .ok (.invokevirtual 101, 3) := by decide +kernel
theorem dX5_commit_86 : decode cX5_commit 86 = .ok (.istore 6, 2) := by decide +kernel
theorem dX5_commit_88 : decode cX5_commit 88 = .ok (.iload 6, 2) := by decide +kernel
theorem dX5_commit_90 : decode cX5_commit 90 = .ok (.bipush (-2), 2) := by decide +kernel
theorem dX5_commit_92 : decode cX5_commit 92 = .ok (.if_icmp .ne 6, 3) := by decide +kernel
theorem dX5_commit_95 : decode cX5_commit 95 = .ok (.bipush (-3), 2) := by decide +kernel
theorem dX5_commit_97 : decode cX5_commit 97 = .ok (.ireturn, 1) := by decide +kernel
theorem dX5_commit_98 : decode cX5_commit 98 = .ok (.aload_n 0, 1) := by decide +kernel
theorem dX5_commit_99 : decode cX5_commit 99 = .ok (.iload_n 3, 1) := by decide +kernel
theorem dX5_commit_100 : decode cX5_commit 100 = .ok (.iload 6, 2) := by decide +kernel
theorem dX5_commit_102 : decode cX5_commit 102 = .ok (.iload 5, 2) := by decide +kernel
theorem dX5_commit_104 : decode cX5_commit 104 = .ok (.iload 4, 2) := by decide +kernel
theorem dX5_commit_106 : decode cX5_commit 106 = .ok (.invokevirtual 104, 3) := by decide +kernel
theorem dX5_commit_109 : decode cX5_commit 109 = .ok (.aload_n 0, 1) := by decide +kernel
theorem dX5_commit_110 : decode cX5_commit 110 = .ok (.iload_n 3, 1) := by decide +kernel
theorem dX5_commit_111 : decode cX5_commit 111 = .ok (.invokevirtual 108, 3) := by decide +kernel
theorem dX5_commit_114 : decode cX5_commit 114 = .ok (.aload_n 0, 1) := by decide +kernel
theorem dX5_commit_115 : decode cX5_commit 115 = .ok (.invokevirtual 112, 3) := by decide +kernel
theorem dX5_commit_118 : decode cX5_commit 118 = .ok (.iload_n 1, 1) := by decide +kernel
theorem dX5_commit_119 : decode cX5_commit 119 = .ok (.ifCond .lt 35, 3) := by decide +kernel
theorem dX5_commit_122 : decode cX5_commit 122 = .ok (.iload_n 1, 1) := by decide +kernel
theorem dX5_commit_123 : decode cX5_commit 123 = .ok (.aload_n 0, 1) := by decide +kernel
theorem dX5_commit_124 : decode cX5_commit 124 = .ok (.getfield 28, 3) := by decide +kernel
theorem dX5_commit_127 : decode cX5_commit 127 = .ok (.invokevirtual 83, 3) := by decide +kernel
theorem dX5_commit_130 : decode cX5_commit 130 = .ok (.if_icmp .ge 24, 3) := by decide +kernel
theorem dX5_commit_133 : decode cX5_commit 133 = .ok (.aload_n 0, 1) := by decide +kernel
theorem dX5_commit_134 : decode cX5_commit 134 = .ok (.getfield 28, 3) := by decide +kernel
theorem dX5_commit_137 : decode cX5_commit 137 = .ok (.aload_n 0, 1) := by decide +kernel
theorem dX5_commit_138 : decode cX5_commit 138 = .ok (.getfield 14, 3) := by decide +kernel
theorem dX5_commit_141 : decode cX5_commit 141 = .ok (.iload_n 1, 1) := by decide +kernel
theorem dX5_commit_142 : decode cX5_commit 142 = .ok (.invokevirtual 86, 3) := by decide +kernel
theorem dX5_commit_145 : decode cX5_commit 145 = .ok (.pop, 1) := by decide +kernel
theorem dX5_commit_146 : decode cX5_commit 146 = .ok (.aload_n 0, 1) := by decide +kernel
theorem dX5_commit_147 : decode cX5_commit 147 = .ok (.iconst 0, 1) := by decide +kernel
theorem dX5_commit_148 : decode cX5_commit 148 = .ok (.putfield 49, 3) := by decide +kernel
theorem dX5_commit_151 : decode cX5_commit 151 = .ok (.bipush (-2), 2) := by decide +kernel
theorem dX5_commit_153 : decode cX5_commit 153 = .ok (.ireturn, 1) := by decide +kernel
theorem dX5_commit_154 : decode cX5_commit 154 = .ok (.aload_n 0, 1) := by decide +kernel
theorem dX5_commit_155 : decode cX5_commit 155 = .ok (.getfield 28, 3) := by decide +kernel
theorem dX5_commit_158 : decode cX5_commit 158 = .ok (.aload_n 0, 1) := by decide +kernel
theorem dX5_commit_159 : decode cX5_commit 159 = .ok (.getfield 14, 3) := by decide +kernel
theorem dX5_commit_162 : decode cX5_commit 162 = .ok (.aload_n 0, 1) := by decide +kernel
theorem dX5_commit_163 : decode cX5_commit 163 = .ok (.getfield 28, 3) := by decide +kernel
theorem dX5_commit_166 : decode cX5_commit 166 = .ok (.invokevirtual 83, 3) := by decide +kernel
theorem dX5_commit_169 : decode cX5_commit 169 = .ok (.invokevirtual 86, 3) := by decide +kernel
theorem dX5_commit_172 : decode cX5_commit 172 = .ok (.pop, 1) := by decide +kernel
theorem dX5_commit_173 : decode cX5_commit 173 = .ok (.aload_n 0, 1) := by decide +kernel
theorem dX5_commit_174 : decode cX5_commit 174 = .ok (.iload_n 3, 1) := by decide +kernel
theorem dX5_commit_175 : decode cX5_commit 175 = .ok (.invokevirtual 115, 3) := by decide +kernel
theorem dX5_commit_178 : decode cX5_commit 178 = .ok (.aload_n 0, 1) := by decide +kernel
theorem dX5_commit_179 : decode cX5_commit 179 = .ok (.getfield 42, 3) := by decide +kernel
theorem dX5_commit_182 : decode cX5_commit 182 = .ok (.getfield 118, 3) := by decide +kernel
theorem dX5_commit_185 : decode cX5_commit 185 = .ok (.ireturn, 1) := by decide +kernel
theorem dX5_crash_0 : decode cX5_crash 0 = .ok (.iload_n 1, 1) := by decide +kernel
theorem dX5_crash_1 : decode cX5_crash 1 = .ok (.ifCond .ge 5, 3) := by decide +kernel
theorem dX5_crash_4 : decode cX5_crash 4 = .ok (.iconst (-1), 1) := by decide +kernel
theorem dX5_crash_5 : decode cX5_crash 5 = .ok (.ireturn, 1) := by decide +kernel
theorem dX5_crash_6 : decode cX5_crash 6 = .ok (.aload_n 0, 1) := by decide +kernel
theorem dX5_crash_7 : decode cX5_crash 7 = .ok (.getfield 49, 3) := by decide +kernel
theorem dX5_crash_10 : decode cX5_crash 10 = .ok (.ifCond .ne 6, 3) := by decide +kernel
theorem dX5_crash_13 : decode cX5_crash 13 = .ok (.bipush (-4), 2) := by decide +kernel
theorem dX5_crash_15 : decode cX5_crash 15 = .ok (.ireturn, 1) := by decide +kernel
theorem dX5_crash_16 : decode cX5_crash 16 = .ok (.aload_n 0, 1) := by decide +kernel
theorem dX5_crash_17 : decode cX5_crash 17 = .ok (.iconst 0, 1) := by decide +kernel
theorem dX5_crash_18 : decode cX5_crash 18 = .ok (.putfield 49, 3) := by decide +kernel
theorem dX5_crash_21 : decode cX5_crash 21 = .ok (.aload_n 0, 1) := by decide +kernel
theorem dX5_crash_22 : decode cX5_crash 22 = .ok (.getfield 28, 3) := by decide +kernel
theorem dX5_crash_25 : decode cX5_crash 25 = .ok (.aload_n 0, 1) := by decide +kernel
theorem dX5_crash_26 : decode cX5_crash 26 = .ok (.getfield 14, 3) := by decide +kernel
theorem dX5_crash_29 : decode cX5_crash 29 = .ok (.iload_n 1, 1) := by decide +kernel
theorem dX5_crash_30 : decode cX5_crash 30 = .ok (.invokevirtual 86, 3) := by decide +kernel
theorem dX5_crash_33 : decode cX5_crash 33 = .ok (.ireturn, 1) := by decide +kernel
theorem dX5_open_0 : decode cX5_open 0 = .ok (.aload_n 0, 1) := by decide +kernel
theorem dX5_open_1 : decode cX5_open 1 = .ok (.getfield 49, 3) := by decide +kernel
theorem dX5_open_4 : decode cX5_open 4 = .ok (.ifCond .eq 6, 3) := by decide +kernel
theorem dX5_open_7 : decode cX5_open 7 = .ok (.bipush (-5), 2) := by decide +kernel
theorem dX5_open_9 : decode cX5_open 9 = .ok (.ireturn, 1) := by decide +kernel
theorem dX5_open_10 : decode cX5_open 10 = .ok (.aload_n 0, 1) := by decide +kernel
theorem dX5_open_11 : decode cX5_open 11 = .ok (.invokevirtual 121, 3) := by decide +kernel
theorem dX5_open_14 : decode cX5_open 14 = .ok (.aload_n 0, 1) := by decide +kernel
theorem dX5_open_15 : decode cX5_open 15 = .ok (.invokevirtual 124, 3) := by decide +kernel
theorem dX5_open_18 : decode cX5_open 18 = .ok (.istore_n 1, 1) := by decide +kernel
theorem dX5_open_19 : decode cX5_open 19 = .ok (.iload_n 1, 1) := by decide +kernel
theorem dX5_open_20 : decode cX5_open 20 = .ok (.bipush (-2), 2) := by decide +kernel
theorem dX5_open_22 : decode cX5_open 22 = .ok (.if_icmp .eq 8, 3) := by decide +kernel
theorem dX5_open_25 : decode cX5_open 25 = .ok (.bipush (-10), 2) := by decide +kernel
theorem dX5_open_27 : decode cX5_open 27 = .ok (.iload_n 1, 1) := by decide +kernel
theorem dX5_open_28 : decode cX5_open 28 = .ok (.isub, 1) := by decide +kernel
theorem dX5_open_29 : decode cX5_open 29 = .ok (.ireturn, 1) := by decide +kernel
theorem dX5_open_30 : decode cX5_open 30 = .ok (.aload_n 0, 1) := by decide +kernel
theorem dX5_open_31 : decode cX5_open 31 = .ok (.invokevirtual 63, 3) := by decide +kernel
theorem dX5_open_34 : decode cX5_open 34 = .ok (.iconst 0, 1) := by decide +kernel
theorem dX5_open_35 : decode cX5_open 35 = .ok (.istore_n 2, 1) := by decide +kernel
theorem dX5_open_36 : decode cX5_open 36 = .ok (.iload_n 2, 1) := by decide +kernel
theorem dX5_open_37 : decode cX5_open 37 = .ok (.aload_n 0, 1) := by decide +kernel
theorem dX5_open_38 : decode cX5_open 38 = .ok (.getfield 42, 3) := by decide +kernel
theorem dX5_open_41 : decode cX5_open 41 = .ok (.getfield 91, 3) := by decide +kernel
theorem dX5_open_44 : decode cX5_open 44 = .ok (.if_icmp .ge 14, 3) := by decide +kernel
theorem dX5_open_47 : decode cX5_open 47 = .ok (.aload_n 0, 1) := by decide +kernel
theorem dX5_open_48 : decode cX5_open 48 = .ok (.iload_n 2, 1) := by decide +kernel
theorem dX5_open_49 : decode cX5_open 49 = .ok (.invokevirtual 127, 3) := by decide +kernel
theorem dX5_open_52 : decode cX5_open 52 = .ok (.iinc 2 1, 3) := by decide +kernel
theorem dX5_open_55 : decode cX5_open 55 = .ok (.goto (-19), 3) := by decide +kernel
theorem dX5_open_58 : decode cX5_open 58 = .ok (.aload_n 0, 1) := by decide +kernel
theorem dX5_open_59 : decode cX5_open 59 = .ok (.invokevirtual 130, 3) := by decide +kernel
theorem dX5_open_62 : decode cX5_open 62 = .ok (.aload_n 0, 1) := by decide +kernel
theorem dX5_open_63 : decode cX5_open 63 = .ok (.aload_n 0, 1) := by decide +kernel
theorem dX5_open_64 : decode cX5_open 64 = .ok (.getfield 53, 3) := by decide +kernel
theorem dX5_open_67 : decode cX5_open 67 = .ok (.iconst 1, 1) := by decide +kernel
theorem dX5_open_68 : decode cX5_open 68 = .ok (.isub, 1) := by decide +kernel
theorem dX5_open_69 : decode cX5_open 69 = .ok (.putfield 80, 3) := by decide +kernel
theorem dX5_open_72 : decode cX5_open 72 = .ok (.aload_n 0, 1) := by decide +kernel
theorem dX5_open_73 : decode cX5_open 73 = .ok (.iconst 1, 1) := by decide +kernel
theorem dX5_open_74 : decode cX5_open 74 = .ok (.putfield 49, 3) := by decide +kernel
theorem dX5_open_77 : decode cX5_open 77 = .ok (.aload_n 0, 1) := by decide +kernel
theorem dX5_open_78 : decode cX5_open 78 = .ok (.getfield 35, 3) := by decide +kernel
theorem dX5_open_81 : decode cX5_open 81 = .ok (.getfield 94, 3) := by decide +kernel
theorem dX5_open_84 : decode cX5_open 84 = .ok (.ireturn, 1) := by decide +kernel
theorem dX5_acknowledged_0 : decode cX5_acknowledged 0 = .ok (.aload_n 0, 1) := by decide +kernel
theorem dX5_acknowledged_1 : decode cX5_acknowledged 1 = .ok (.getfield 49, 3) := by decide +kernel
theorem dX5_acknowledged_4 : decode cX5_acknowledged 4 = .ok (.ifCond .eq 10, 3) := by decide +kernel
theorem dX5_acknowledged_7 : decode cX5_acknowledged 7 = .ok (.aload_n 0, 1) := by decide +kernel
theorem dX5_acknowledged_8 : decode cX5_acknowledged 8 = .ok (.getfield 80, 3) := by decide +kernel
theorem dX5_acknowledged_11 : decode cX5_acknowledged 11 = .ok (.goto 5, 3) := by decide +kernel
theorem dX5_acknowledged_14 : decode cX5_acknowledged 14 = .ok (.bipush (-4), 2) := by decide +kernel
theorem dX5_acknowledged_16 : decode cX5_acknowledged 16 = .ok (.ireturn, 1) := by decide +kernel
theorem dX5_get_0 : decode cX5_get 0 = .ok (.aload_n 0, 1) := by decide +kernel
theorem dX5_get_1 : decode cX5_get 1 = .ok (.getfield 35, 3) := by decide +kernel
theorem dX5_get_4 : decode cX5_get 4 = .ok (.lload_n 1, 1) := by decide +kernel
theorem dX5_get_5 : decode cX5_get 5 = .ok (.invokevirtual 133, 3) := by decide +kernel
theorem dX5_get_8 : decode cX5_get 8 = .ok (.istore_n 3, 1) := by decide +kernel
theorem dX5_get_9 : decode cX5_get 9 = .ok (.aload_n 0, 1) := by decide +kernel
theorem dX5_get_10 : decode cX5_get 10 = .ok (.getfield 49, 3) := by decide +kernel
theorem dX5_get_13 : decode cX5_get 13 = .ok (.ifCond .eq 19, 3) := by decide +kernel
theorem dX5_get_16 : decode cX5_get 16 = .ok (.iload_n 3, 1) := by decide +kernel
theorem dX5_get_17 : decode cX5_get 17 = .ok (.aload_n 0, 1) := by decide +kernel
theorem dX5_get_18 : decode cX5_get 18 = .ok (.getfield 35, 3) := by decide +kernel
theorem dX5_get_21 : decode cX5_get 21 = .ok (.lload_n 1, 1) := by decide +kernel
theorem dX5_get_22 : decode cX5_get 22 = .ok (.invokevirtual 137, 3) := by decide +kernel
theorem dX5_get_25 : decode cX5_get 25 = .ok (.if_icmp .le 7, 3) := by decide +kernel
theorem dX5_get_28 : decode cX5_get 28 = .ok (.iconst 1, 1) := by decide +kernel
theorem dX5_get_29 : decode cX5_get 29 = .ok (.goto 4, 3) := by decide +kernel
theorem dX5_get_32 : decode cX5_get 32 = .ok (.iconst 0, 1) := by decide +kernel
theorem dX5_get_33 : decode cX5_get 33 = .ok (.istore 4, 2) := by decide +kernel
theorem dX5_get_35 : decode cX5_get 35 = .ok (.iload 4, 2) := by decide +kernel
theorem dX5_get_37 : decode cX5_get 37 = .ok (.ifCond .eq 16, 3) := by decide +kernel
theorem dX5_get_40 : decode cX5_get 40 = .ok (.aload_n 0, 1) := by decide +kernel
theorem dX5_get_41 : decode cX5_get 41 = .ok (.getfield 35, 3) := by decide +kernel
theorem dX5_get_44 : decode cX5_get 44 = .ok (.iload_n 3, 1) := by decide +kernel
theorem dX5_get_45 : decode cX5_get 45 = .ok (.iconst 1, 1) := by decide +kernel
theorem dX5_get_46 : decode cX5_get 46 = .ok (.isub, 1) := by decide +kernel
theorem dX5_get_47 : decode cX5_get 47 = .ok (.invokevirtual 140, 3) := by decide +kernel
theorem dX5_get_50 : decode cX5_get 50 = .ok (.goto 4, 3) := by decide +kernel
theorem dX5_get_53 : decode cX5_get 53 = .ok (.lconst 0, 1) := by decide +kernel
theorem dX5_get_54 : decode cX5_get 54 = .ok (.lreturn, 1) := by decide +kernel
theorem dX5_times_0 : decode cX5_times 0 = .ok (.aload_n 0, 1) := by decide +kernel
theorem dX5_times_1 : decode cX5_times 1 = .ok (.getfield 49, 3) := by decide +kernel
theorem dX5_times_4 : decode cX5_times 4 = .ok (.ifCond .eq 23, 3) := by decide +kernel
theorem dX5_times_7 : decode cX5_times 7 = .ok (.aload_n 0, 1) := by decide +kernel
theorem dX5_times_8 : decode cX5_times 8 = .ok (.getfield 35, 3) := by decide +kernel
theorem dX5_times_11 : decode cX5_times 11 = .ok (.lload_n 1, 1) := by decide +kernel
theorem dX5_times_12 : decode cX5_times 12 = .ok (.invokevirtual 133, 3) := by decide +kernel
theorem dX5_times_15 : decode cX5_times 15 = .ok (.aload_n 0, 1) := by decide +kernel
theorem dX5_times_16 : decode cX5_times 16 = .ok (.getfield 35, 3) := by decide +kernel
theorem dX5_times_19 : decode cX5_times 19 = .ok (.lload_n 1, 1) := by decide +kernel
theorem dX5_times_20 : decode cX5_times 20 = .ok (.invokevirtual 137, 3) := by decide +kernel
theorem dX5_times_23 : decode cX5_times 23 = .ok (.isub, 1) := by decide +kernel
theorem dX5_times_24 : decode cX5_times 24 = .ok (.goto 5, 3) := by decide +kernel
theorem dX5_times_27 : decode cX5_times 27 = .ok (.bipush (-4), 2) := by decide +kernel
theorem dX5_times_29 : decode cX5_times 29 = .ok (.ireturn, 1) := by decide +kernel
theorem dX5_record_0 : decode cX5_record 0 = .ok (.aload_n 0, 1) := by decide +kernel
theorem dX5_record_1 : decode cX5_record 1 = .ok (.getfield 49, 3) := by decide +kernel
theorem dX5_record_4 : decode cX5_record 4 = .ok (.ifCond .eq 14, 3) := by decide +kernel
theorem dX5_record_7 : decode cX5_record 7 = .ok (.aload_n 0, 1) := by decide +kernel
theorem dX5_record_8 : decode cX5_record 8 = .ok (.getfield 35, 3) := by decide +kernel
theorem dX5_record_11 : decode cX5_record 11 = .ok (.iload_n 1, 1) := by decide +kernel
theorem dX5_record_12 : decode cX5_record 12 = .ok (.invokevirtual 144, 3) := by decide +kernel
theorem dX5_record_15 : decode cX5_record 15 = .ok (.ifCond .ne 5, 3) := by decide +kernel
theorem dX5_record_18 : decode cX5_record 18 = .ok (.lconst 0, 1) := by decide +kernel
theorem dX5_record_19 : decode cX5_record 19 = .ok (.lreturn, 1) := by decide +kernel
theorem dX5_record_20 : decode cX5_record 20 = .ok (.iload_n 2, 1) := by decide +kernel
theorem dX5_record_21 : decode cX5_record 21 = .ok (.tableswitch 59 0 2 #[27, 36, 45], 27) := by decide +kernel
theorem dX5_record_48 : decode cX5_record 48 = .ok (.aload_n 0, 1) := by decide +kernel
theorem dX5_record_49 : decode cX5_record 49 = .ok (.getfield 35, 3) := by decide +kernel
theorem dX5_record_52 : decode cX5_record 52 = .ok (.iload_n 1, 1) := by decide +kernel
theorem dX5_record_53 : decode cX5_record 53 = .ok (.invokevirtual 148, 3) := by decide +kernel
theorem dX5_record_56 : decode cX5_record 56 = .ok (.lreturn, 1) := by decide +kernel
theorem dX5_record_57 : decode cX5_record 57 = .ok (.aload_n 0, 1) := by decide +kernel
theorem dX5_record_58 : decode cX5_record 58 = .ok (.getfield 35, 3) := by decide +kernel
theorem dX5_record_61 : decode cX5_record 61 = .ok (.iload_n 1, 1) := by decide +kernel
theorem dX5_record_62 : decode cX5_record 62 = .ok (.invokevirtual 140, 3) := by decide +kernel
theorem dX5_record_65 : decode cX5_record 65 = .ok (.lreturn, 1) := by decide +kernel
theorem dX5_record_66 : decode cX5_record 66 = .ok (.aload_n 0, 1) := by decide +kernel
theorem dX5_record_67 : decode cX5_record 67 = .ok (.aload_n 0, 1) := by decide +kernel
theorem dX5_record_68 : decode cX5_record 68 = .ok (.getfield 35, 3) := by decide +kernel
theorem dX5_record_71 : decode cX5_record 71 = .ok (.iload_n 1, 1) := by decide +kernel
theorem dX5_record_72 : decode cX5_record 72 = .ok (.invokevirtual 151, 3) := by decide +kernel
theorem dX5_record_75 : decode cX5_record 75 = .ok (.invokevirtual 154, 3) := by decide +kernel
theorem dX5_record_78 : decode cX5_record 78 = .ok (.i2l, 1) := by decide +kernel
theorem dX5_record_79 : decode cX5_record 79 = .ok (.lreturn, 1) := by decide +kernel
theorem dX5_record_80 : decode cX5_record 80 = .ok (.lconst 0, 1) := by decide +kernel
theorem dX5_record_81 : decode cX5_record 81 = .ok (.lreturn, 1) := by decide +kernel
theorem dX5_file_0 : decode cX5_file 0 = .ok (.iload_n 1, 1) := by decide +kernel
theorem dX5_file_1 : decode cX5_file 1 = .ok (.ifCond .lt 17, 3) := by decide +kernel
theorem dX5_file_4 : decode cX5_file 4 = .ok (.iload_n 1, 1) := by decide +kernel
theorem dX5_file_5 : decode cX5_file 5 = .ok (.iconst 5, 1) := by decide +kernel
theorem dX5_file_6 : decode cX5_file 6 = .ok (.if_icmp .ge 12, 3) := by decide +kernel
theorem dX5_file_9 : decode cX5_file 9 = .ok (.iload_n 2, 1) := by decide +kernel
theorem dX5_file_10 : decode cX5_file 10 = .ok (.ifCond .lt 8, 3) := by decide +kernel
theorem dX5_file_13 : decode cX5_file 13 = .ok (.iload_n 2, 1) := by decide +kernel
theorem dX5_file_14 : decode cX5_file 14 = .ok (.iconst 4, 1) := by decide +kernel
theorem dX5_file_15 : decode cX5_file 15 = .ok (.if_icmp .lt 5, 3) := by decide +kernel
theorem dX5_file_18 : decode cX5_file 18 = .ok (.iconst (-1), 1) := by decide +kernel
theorem dX5_file_19 : decode cX5_file 19 = .ok (.ireturn, 1) := by decide +kernel
theorem dX5_file_20 : decode cX5_file 20 = .ok (.aload_n 0, 1) := by decide +kernel
theorem dX5_file_21 : decode cX5_file 21 = .ok (.getfield 49, 3) := by decide +kernel
theorem dX5_file_24 : decode cX5_file 24 = .ok (.ifCond .ne 6, 3) := by decide +kernel
theorem dX5_file_27 : decode cX5_file 27 = .ok (.bipush (-4), 2) := by decide +kernel
theorem dX5_file_29 : decode cX5_file 29 = .ok (.ireturn, 1) := by decide +kernel
theorem dX5_file_30 : decode cX5_file 30 = .ok (.iload_n 1, 1) := by decide +kernel
theorem dX5_file_31 : decode cX5_file 31 = .ok (.aload_n 0, 1) := by decide +kernel
theorem dX5_file_32 : decode cX5_file 32 = .ok (.getfield 42, 3) := by decide +kernel
theorem dX5_file_35 : decode cX5_file 35 = .ok (.getfield 91, 3) := by decide +kernel
theorem dX5_file_38 : decode cX5_file 38 = .ok (.if_icmp .ge 15, 3) := by decide +kernel
theorem dX5_file_41 : decode cX5_file 41 = .ok (.aload_n 0, 1) := by decide +kernel
theorem dX5_file_42 : decode cX5_file 42 = .ok (.getfield 42, 3) := by decide +kernel
theorem dX5_file_45 : decode cX5_file 45 = .ok (.iload_n 1, 1) := by decide +kernel
theorem dX5_file_46 : decode cX5_file 46 = .ok (.iload_n 2, 1) := by decide +kernel
theorem dX5_file_47 : decode cX5_file 47 = .ok (.invokevirtual 157, 3) := by decide +kernel
theorem dX5_file_50 : decode cX5_file 50 = .ok (.goto 4, 3) := by decide +kernel
theorem dX5_file_53 : decode cX5_file 53 = .ok (.iconst (-1), 1) := by decide +kernel
theorem dX5_file_54 : decode cX5_file 54 = .ok (.ireturn, 1) := by decide +kernel
theorem dX5_use_0 : decode cX5_use 0 = .ok (.aload_n 0, 1) := by decide +kernel
theorem dX5_use_1 : decode cX5_use 1 = .ok (.getfield 14, 3) := by decide +kernel
theorem dX5_use_4 : decode cX5_use 4 = .ok (.iload_n 1, 1) := by decide +kernel
theorem dX5_use_5 : decode cX5_use 5 = .ok (.iconst 0, 1) := by decide +kernel
theorem dX5_use_6 : decode cX5_use 6 = .ok (.invokevirtual 161, 3) := by decide +kernel
theorem dX5_use_9 : decode cX5_use 9 = .ok (.ifCond .ne 5, 3) := by decide +kernel
theorem dX5_use_12 : decode cX5_use 12 = .ok (.iconst (-1), 1) := by decide +kernel
theorem dX5_use_13 : decode cX5_use 13 = .ok (.ireturn, 1) := by decide +kernel
theorem dX5_use_14 : decode cX5_use 14 = .ok (.aload_n 0, 1) := by decide +kernel
theorem dX5_use_15 : decode cX5_use 15 = .ok (.getfield 49, 3) := by decide +kernel
theorem dX5_use_18 : decode cX5_use 18 = .ok (.ifCond .eq 14, 3) := by decide +kernel
theorem dX5_use_21 : decode cX5_use 21 = .ok (.aload_n 0, 1) := by decide +kernel
theorem dX5_use_22 : decode cX5_use 22 = .ok (.getfield 21, 3) := by decide +kernel
theorem dX5_use_25 : decode cX5_use 25 = .ok (.iload_n 1, 1) := by decide +kernel
theorem dX5_use_26 : decode cX5_use 26 = .ok (.invokevirtual 164, 3) := by decide +kernel
theorem dX5_use_29 : decode cX5_use 29 = .ok (.goto 5, 3) := by decide +kernel
theorem dX5_use_32 : decode cX5_use 32 = .ok (.bipush (-4), 2) := by decide +kernel
theorem dX5_use_34 : decode cX5_use 34 = .ok (.ireturn, 1) := by decide +kernel
theorem dX5_octet_0 : decode cX5_octet 0 = .ok (.aload_n 0, 1) := by decide +kernel
theorem dX5_octet_1 : decode cX5_octet 1 = .ok (.getfield 14, 3) := by decide +kernel
theorem dX5_octet_4 : decode cX5_octet 4 = .ok (.iload_n 1, 1) := by decide +kernel
theorem dX5_octet_5 : decode cX5_octet 5 = .ok (.iload_n 2, 1) := by decide +kernel
theorem dX5_octet_6 : decode cX5_octet 6 = .ok (.invokevirtual 161, 3) := by decide +kernel
theorem dX5_octet_9 : decode cX5_octet 9 = .ok (.ifCond .eq 15, 3) := by decide +kernel
theorem dX5_octet_12 : decode cX5_octet 12 = .ok (.aload_n 0, 1) := by decide +kernel
theorem dX5_octet_13 : decode cX5_octet 13 = .ok (.getfield 14, 3) := by decide +kernel
theorem dX5_octet_16 : decode cX5_octet 16 = .ok (.iload_n 1, 1) := by decide +kernel
theorem dX5_octet_17 : decode cX5_octet 17 = .ok (.iload_n 2, 1) := by decide +kernel
theorem dX5_octet_18 : decode cX5_octet 18 = .ok (.invokevirtual 167, 3) := by decide +kernel
theorem dX5_octet_21 : decode cX5_octet 21 = .ok (.goto 4, 3) := by decide +kernel
theorem dX5_octet_24 : decode cX5_octet 24 = .ok (.iconst (-1), 1) := by decide +kernel
theorem dX5_octet_25 : decode cX5_octet 25 = .ok (.ireturn, 1) := by decide +kernel
theorem dX5_poke_0 : decode cX5_poke 0 = .ok (.aload_n 0, 1) := by decide +kernel
theorem dX5_poke_1 : decode cX5_poke 1 = .ok (.getfield 14, 3) := by decide +kernel
theorem dX5_poke_4 : decode cX5_poke 4 = .ok (.iload_n 1, 1) := by decide +kernel
theorem dX5_poke_5 : decode cX5_poke 5 = .ok (.iload_n 2, 1) := by decide +kernel
theorem dX5_poke_6 : decode cX5_poke 6 = .ok (.invokevirtual 161, 3) := by decide +kernel
theorem dX5_poke_9 : decode cX5_poke 9 = .ok (.ifCond .eq 15, 3) := by decide +kernel
theorem dX5_poke_12 : decode cX5_poke 12 = .ok (.iload_n 3, 1) := by decide +kernel
theorem dX5_poke_13 : decode cX5_poke 13 = .ok (.iconst 1, 1) := by decide +kernel
theorem dX5_poke_14 : decode cX5_poke 14 = .ok (.if_icmp .lt 10, 3) := by decide +kernel
theorem dX5_poke_17 : decode cX5_poke 17 = .ok (.iload_n 3, 1) := by decide +kernel
theorem dX5_poke_18 : decode cX5_poke 18 = .ok (.sipush 255, 3) := by decide +kernel
theorem dX5_poke_21 : decode cX5_poke 21 = .ok (.if_icmp .le 5, 3) := by decide +kernel
theorem dX5_poke_24 : decode cX5_poke 24 = .ok (.iconst (-1), 1) := by decide +kernel
theorem dX5_poke_25 : decode cX5_poke 25 = .ok (.ireturn, 1) := by decide +kernel
theorem dX5_poke_26 : decode cX5_poke 26 = .ok (.aload_n 0, 1) := by decide +kernel
theorem dX5_poke_27 : decode cX5_poke 27 = .ok (.getfield 14, 3) := by decide +kernel
theorem dX5_poke_30 : decode cX5_poke 30 = .ok (.iload_n 1, 1) := by decide +kernel
theorem dX5_poke_31 : decode cX5_poke 31 = .ok (.iload_n 2, 1) := by decide +kernel
theorem dX5_poke_32 : decode cX5_poke 32 = .ok (.aload_n 0, 1) := by decide +kernel
theorem dX5_poke_33 : decode cX5_poke 33 = .ok (.getfield 14, 3) := by decide +kernel
theorem dX5_poke_36 : decode cX5_poke 36 = .ok (.iload_n 1, 1) := by decide +kernel
theorem dX5_poke_37 : decode cX5_poke 37 = .ok (.iload_n 2, 1) := by decide +kernel
theorem dX5_poke_38 : decode cX5_poke 38 = .ok (.invokevirtual 167, 3) := by decide +kernel
theorem dX5_poke_41 : decode cX5_poke 41 = .ok (.iload_n 3, 1) := by decide +kernel
theorem dX5_poke_42 : decode cX5_poke 42 = .ok (.ixor, 1) := by decide +kernel
theorem dX5_poke_43 : decode cX5_poke 43 = .ok (.invokevirtual 169, 3) := by decide +kernel
theorem dX5_poke_46 : decode cX5_poke 46 = .ok (.aload_n 0, 1) := by decide +kernel
theorem dX5_poke_47 : decode cX5_poke 47 = .ok (.getfield 14, 3) := by decide +kernel
theorem dX5_poke_50 : decode cX5_poke 50 = .ok (.iload_n 1, 1) := by decide +kernel
theorem dX5_poke_51 : decode cX5_poke 51 = .ok (.iload_n 2, 1) := by decide +kernel
theorem dX5_poke_52 : decode cX5_poke 52 = .ok (.invokevirtual 167, 3) := by decide +kernel
theorem dX5_poke_55 : decode cX5_poke 55 = .ok (.ireturn, 1) := by decide +kernel
theorem dX5_bad_0 : decode cX5_bad 0 = .ok (.aload_n 0, 1) := by decide +kernel
theorem dX5_bad_1 : decode cX5_bad 1 = .ok (.getfield 49, 3) := by decide +kernel
theorem dX5_bad_4 : decode cX5_bad 4 = .ok (.ifCond .ne 6, 3) := by decide +kernel
theorem dX5_bad_7 : decode cX5_bad 7 = .ok (.bipush (-4), 2) := by decide +kernel
theorem dX5_bad_9 : decode cX5_bad 9 = .ok (.ireturn, 1) := by decide +kernel
theorem dX5_bad_10 : decode cX5_bad 10 = .ok (.iconst 0, 1) := by decide +kernel
theorem dX5_bad_11 : decode cX5_bad 11 = .ok (.istore_n 1, 1) := by decide +kernel
theorem dX5_bad_12 : decode cX5_bad 12 = .ok (.iload_n 1, 1) := by decide +kernel
theorem dX5_bad_13 : decode cX5_bad 13 = .ok (.aload_n 0, 1) := by decide +kernel
theorem dX5_bad_14 : decode cX5_bad 14 = .ok (.getfield 14, 3) := by decide +kernel
theorem dX5_bad_17 : decode cX5_bad 17 = .ok (.getfield 173, 3) := by decide +kernel
theorem dX5_bad_20 : decode cX5_bad 20 = .ok (.if_icmp .ge 30, 3) := by decide +kernel
theorem dX5_bad_23 : decode cX5_bad 23 = .ok (.aload_n 0, 1) := by decide +kernel
theorem dX5_bad_24 : decode cX5_bad 24 = .ok (.iload_n 1, 1) := by decide +kernel
theorem dX5_bad_25 : decode cX5_bad 25 = .ok (.invokevirtual 174, 3) := by decide +kernel
theorem dX5_bad_28 : decode cX5_bad 28 = .ok (.ifCond .eq 16, 3) := by decide +kernel
theorem dX5_bad_31 : decode cX5_bad 31 = .ok (.aload_n 0, 1) := by decide +kernel
theorem dX5_bad_32 : decode cX5_bad 32 = .ok (.getfield 14, 3) := by decide +kernel
theorem dX5_bad_35 : decode cX5_bad 35 = .ok (.iload_n 1, 1) := by decide +kernel
theorem dX5_bad_36 : decode cX5_bad 36 = .ok (.invokevirtual 177, 3) := by decide +kernel
theorem dX5_bad_39 : decode cX5_bad 39 = .ok (.ifCond .ne 5, 3) := by decide +kernel
theorem dX5_bad_42 : decode cX5_bad 42 = .ok (.iload_n 1, 1) := by decide +kernel
theorem dX5_bad_43 : decode cX5_bad 43 = .ok (.ireturn, 1) := by decide +kernel
theorem dX5_bad_44 : decode cX5_bad 44 = .ok (.iinc 1 1, 3) := by decide +kernel
theorem dX5_bad_47 : decode cX5_bad 47 = .ok (.goto (-35), 3) := by decide +kernel
theorem dX5_bad_50 : decode cX5_bad 50 = .ok (.bipush (-2), 2) := by decide +kernel
theorem dX5_bad_52 : decode cX5_bad 52 = .ok (.ireturn, 1) := by decide +kernel
theorem dX5_queued_0 : decode cX5_queued 0 = .ok (.aload_n 0, 1) := by decide +kernel
theorem dX5_queued_1 : decode cX5_queued 1 = .ok (.getfield 49, 3) := by decide +kernel
theorem dX5_queued_4 : decode cX5_queued 4 = .ok (.ifCond .eq 14, 3) := by decide +kernel
theorem dX5_queued_7 : decode cX5_queued 7 = .ok (.aload_n 0, 1) := by decide +kernel
theorem dX5_queued_8 : decode cX5_queued 8 = .ok (.getfield 28, 3) := by decide +kernel
theorem dX5_queued_11 : decode cX5_queued 11 = .ok (.iload_n 1, 1) := by decide +kernel
theorem dX5_queued_12 : decode cX5_queued 12 = .ok (.invokevirtual 180, 3) := by decide +kernel
theorem dX5_queued_15 : decode cX5_queued 15 = .ok (.goto 5, 3) := by decide +kernel
theorem dX5_queued_18 : decode cX5_queued 18 = .ok (.bipush (-4), 2) := by decide +kernel
theorem dX5_queued_20 : decode cX5_queued 20 = .ok (.ireturn, 1) := by decide +kernel
theorem dX5_count_0 : decode cX5_count 0 = .ok (.iload_n 1, 1) := by decide +kernel
theorem dX5_count_1 : decode cX5_count 1 = .ok (.ifCond .lt 9, 3) := by decide +kernel
theorem dX5_count_4 : decode cX5_count 4 = .ok (.iload_n 1, 1) := by decide +kernel
theorem dX5_count_5 : decode cX5_count 5 = .ok (.bipush 10, 2) := by decide +kernel
theorem dX5_count_7 : decode cX5_count 7 = .ok (.if_icmp .le 5, 3) := by decide +kernel
theorem dX5_count_10 : decode cX5_count 10 = .ok (.iconst (-1), 1) := by decide +kernel
theorem dX5_count_11 : decode cX5_count 11 = .ok (.ireturn, 1) := by decide +kernel
theorem dX5_count_12 : decode cX5_count 12 = .ok (.iload_n 1, 1) := by decide +kernel
theorem dX5_count_13 : decode cX5_count 13 = .ok (.ifCond .ne 11, 3) := by decide +kernel
theorem dX5_count_16 : decode cX5_count 16 = .ok (.aload_n 0, 1) := by decide +kernel
theorem dX5_count_17 : decode cX5_count 17 = .ok (.getfield 14, 3) := by decide +kernel
theorem dX5_count_20 : decode cX5_count 20 = .ok (.getfield 173, 3) := by decide +kernel
theorem dX5_count_23 : decode cX5_count 23 = .ok (.ireturn, 1) := by decide +kernel
theorem dX5_count_24 : decode cX5_count 24 = .ok (.aload_n 0, 1) := by decide +kernel
theorem dX5_count_25 : decode cX5_count 25 = .ok (.getfield 49, 3) := by decide +kernel
theorem dX5_count_28 : decode cX5_count 28 = .ok (.ifCond .eq 11, 3) := by decide +kernel
theorem dX5_count_31 : decode cX5_count 31 = .ok (.aload_n 0, 1) := by decide +kernel
theorem dX5_count_32 : decode cX5_count 32 = .ok (.iload_n 1, 1) := by decide +kernel
theorem dX5_count_33 : decode cX5_count 33 = .ok (.invokevirtual 183, 3) := by decide +kernel
theorem dX5_count_36 : decode cX5_count 36 = .ok (.goto 4, 3) := by decide +kernel
theorem dX5_count_39 : decode cX5_count 39 = .ok (.iconst 0, 1) := by decide +kernel
theorem dX5_count_40 : decode cX5_count 40 = .ok (.ireturn, 1) := by decide +kernel
theorem dX5_countOpen_0 : decode cX5_countOpen 0 = .ok (.iload_n 1, 1) := by decide +kernel
theorem dX5_countOpen_1 : decode cX5_countOpen 1 = .ok (.tableswitch 113 1 9 #[51, 60, 68, 76, 81, 90, 98, 106, 111], 51) := by decide +kernel
theorem dX5_countOpen_52 : decode cX5_countOpen 52 = .ok (.aload_n 0, 1) := by decide +kernel
theorem dX5_countOpen_53 : decode cX5_countOpen 53 = .ok (.getfield 21, 3) := by decide +kernel
theorem dX5_countOpen_56 : decode cX5_countOpen 56 = .ok (.iconst 0, 1) := by decide +kernel
theorem dX5_countOpen_57 : decode cX5_countOpen 57 = .ok (.invokevirtual 186, 3) := by decide +kernel
theorem dX5_countOpen_60 : decode cX5_countOpen 60 = .ok (.ireturn, 1) := by decide +kernel
theorem dX5_countOpen_61 : decode cX5_countOpen 61 = .ok (.aload_n 0, 1) := by decide +kernel
theorem dX5_countOpen_62 : decode cX5_countOpen 62 = .ok (.getfield 42, 3) := by decide +kernel
theorem dX5_countOpen_65 : decode cX5_countOpen 65 = .ok (.getfield 91, 3) := by decide +kernel
theorem dX5_countOpen_68 : decode cX5_countOpen 68 = .ok (.ireturn, 1) := by decide +kernel
theorem dX5_countOpen_69 : decode cX5_countOpen 69 = .ok (.aload_n 0, 1) := by decide +kernel
theorem dX5_countOpen_70 : decode cX5_countOpen 70 = .ok (.getfield 35, 3) := by decide +kernel
theorem dX5_countOpen_73 : decode cX5_countOpen 73 = .ok (.getfield 94, 3) := by decide +kernel
theorem dX5_countOpen_76 : decode cX5_countOpen 76 = .ok (.ireturn, 1) := by decide +kernel
theorem dX5_countOpen_77 : decode cX5_countOpen 77 = .ok (.aload_n 0, 1) := by decide +kernel
theorem dX5_countOpen_78 : decode cX5_countOpen 78 = .ok (.getfield 66, 3) := by decide +kernel
theorem dX5_countOpen_81 : decode cX5_countOpen 81 = .ok (.ireturn, 1) := by decide +kernel
theorem dX5_countOpen_82 : decode cX5_countOpen 82 = .ok (.aload_n 0, 1) := by decide +kernel
theorem dX5_countOpen_83 : decode cX5_countOpen 83 = .ok (.getfield 21, 3) := by decide +kernel
theorem dX5_countOpen_86 : decode cX5_countOpen 86 = .ok (.iconst 1, 1) := by decide +kernel
theorem dX5_countOpen_87 : decode cX5_countOpen 87 = .ok (.invokevirtual 186, 3) := by decide +kernel
theorem dX5_countOpen_90 : decode cX5_countOpen 90 = .ok (.ireturn, 1) := by decide +kernel
theorem dX5_countOpen_91 : decode cX5_countOpen 91 = .ok (.aload_n 0, 1) := by decide +kernel
theorem dX5_countOpen_92 : decode cX5_countOpen 92 = .ok (.getfield 28, 3) := by decide +kernel
theorem dX5_countOpen_95 : decode cX5_countOpen 95 = .ok (.getfield 189, 3) := by decide +kernel
theorem dX5_countOpen_98 : decode cX5_countOpen 98 = .ok (.ireturn, 1) := by decide +kernel
theorem dX5_countOpen_99 : decode cX5_countOpen 99 = .ok (.aload_n 0, 1) := by decide +kernel
theorem dX5_countOpen_100 : decode cX5_countOpen 100 = .ok (.getfield 42, 3) := by decide +kernel
theorem dX5_countOpen_103 : decode cX5_countOpen 103 = .ok (.getfield 118, 3) := by decide +kernel
theorem dX5_countOpen_106 : decode cX5_countOpen 106 = .ok (.ireturn, 1) := by decide +kernel
theorem dX5_countOpen_107 : decode cX5_countOpen 107 = .ok (.aload_n 0, 1) := by decide +kernel
theorem dX5_countOpen_108 : decode cX5_countOpen 108 = .ok (.getfield 53, 3) := by decide +kernel
theorem dX5_countOpen_111 : decode cX5_countOpen 111 = .ok (.ireturn, 1) := by decide +kernel
theorem dX5_countOpen_112 : decode cX5_countOpen 112 = .ok (.iconst 1, 1) := by decide +kernel
theorem dX5_countOpen_113 : decode cX5_countOpen 113 = .ok (.ireturn, 1) := by decide +kernel
theorem dX5_countOpen_114 : decode cX5_countOpen 114 = .ok (.aload_n 0, 1) := by decide +kernel
theorem dX5_countOpen_115 : decode cX5_countOpen 115 = .ok (.getfield 190, 3) := by decide +kernel
theorem dX5_countOpen_118 : decode cX5_countOpen 118 = .ok (.ireturn, 1) := by decide +kernel
theorem dX5_forget_0 : decode cX5_forget 0 = .ok (.aload_n 0, 1) := by decide +kernel
theorem dX5_forget_1 : decode cX5_forget 1 = .ok (.getfield 21, 3) := by decide +kernel
theorem dX5_forget_4 : decode cX5_forget 4 = .ok (.aload_n 0, 1) := by decide +kernel
theorem dX5_forget_5 : decode cX5_forget 5 = .ok (.getfield 14, 3) := by decide +kernel
theorem dX5_forget_8 : decode cX5_forget 8 = .ok (.getfield 173, 3) := by decide +kernel
theorem dX5_forget_11 : decode cX5_forget 11 = .ok (.invokevirtual 193, 3) := by decide +kernel
theorem dX5_forget_14 : decode cX5_forget 14 = .ok (.aload_n 0, 1) := by decide +kernel
theorem dX5_forget_15 : decode cX5_forget 15 = .ok (.getfield 28, 3) := by decide +kernel
theorem dX5_forget_18 : decode cX5_forget 18 = .ok (.invokevirtual 195, 3) := by decide +kernel
theorem dX5_forget_21 : decode cX5_forget 21 = .ok (.aload_n 0, 1) := by decide +kernel
theorem dX5_forget_22 : decode cX5_forget 22 = .ok (.getfield 35, 3) := by decide +kernel
theorem dX5_forget_25 : decode cX5_forget 25 = .ok (.invokevirtual 196, 3) := by decide +kernel
theorem dX5_forget_28 : decode cX5_forget 28 = .ok (.aload_n 0, 1) := by decide +kernel
theorem dX5_forget_29 : decode cX5_forget 29 = .ok (.aload_n 0, 1) := by decide +kernel
theorem dX5_forget_30 : decode cX5_forget 30 = .ok (.getfield 42, 3) := by decide +kernel
theorem dX5_forget_33 : decode cX5_forget 33 = .ok (.getfield 90, 3) := by decide +kernel
theorem dX5_forget_36 : decode cX5_forget 36 = .ok (.putfield 53, 3) := by decide +kernel
theorem dX5_forget_39 : decode cX5_forget 39 = .ok (.aload_n 0, 1) := by decide +kernel
theorem dX5_forget_40 : decode cX5_forget 40 = .ok (.iconst 0, 1) := by decide +kernel
theorem dX5_forget_41 : decode cX5_forget 41 = .ok (.putfield 66, 3) := by decide +kernel
theorem dX5_forget_44 : decode cX5_forget 44 = .ok (.aload_n 0, 1) := by decide +kernel
theorem dX5_forget_45 : decode cX5_forget 45 = .ok (.iconst 0, 1) := by decide +kernel
theorem dX5_forget_46 : decode cX5_forget 46 = .ok (.putfield 80, 3) := by decide +kernel
theorem dX5_forget_49 : decode cX5_forget 49 = .ok (.aload_n 0, 1) := by decide +kernel
theorem dX5_forget_50 : decode cX5_forget 50 = .ok (.iconst 0, 1) := by decide +kernel
theorem dX5_forget_51 : decode cX5_forget 51 = .ok (.putfield 190, 3) := by decide +kernel
theorem dX5_forget_54 : decode cX5_forget 54 = .ok (.return_, 1) := by decide +kernel
theorem dX5_placeOf_0 : decode cX5_placeOf 0 = .ok (.iload_n 1, 1) := by decide +kernel
theorem dX5_placeOf_1 : decode cX5_placeOf 1 = .ok (.ifCond .ne 5, 3) := by decide +kernel
theorem dX5_placeOf_4 : decode cX5_placeOf 4 = .ok (.iconst 0, 1) := by decide +kernel
theorem dX5_placeOf_5 : decode cX5_placeOf 5 = .ok (.ireturn, 1) := by decide +kernel
theorem dX5_placeOf_6 : decode cX5_placeOf 6 = .ok (.iload_n 1, 1) := by decide +kernel
theorem dX5_placeOf_7 : decode cX5_placeOf 7 = .ok (.aload_n 0, 1) := by decide +kernel
theorem dX5_placeOf_8 : decode cX5_placeOf 8 = .ok (.getfield 53, 3) := by decide +kernel
theorem dX5_placeOf_11 : decode cX5_placeOf 11 = .ok (.aload_n 0, 1) := by decide +kernel
theorem dX5_placeOf_12 : decode cX5_placeOf 12 = .ok (.getfield 66, 3) := by decide +kernel
theorem dX5_placeOf_15 : decode cX5_placeOf 15 = .ok (.isub, 1) := by decide +kernel
theorem dX5_placeOf_16 : decode cX5_placeOf 16 = .ok (.if_icmp .ge 7, 3) := by decide +kernel
theorem dX5_placeOf_19 : decode cX5_placeOf 19 = .ok (.iconst 1, 1) := by decide +kernel
theorem dX5_placeOf_20 : decode cX5_placeOf 20 = .ok (.goto 4, 3) := by decide +kernel
theorem dX5_placeOf_23 : decode cX5_placeOf 23 = .ok (.iconst 2, 1) := by decide +kernel
theorem dX5_placeOf_24 : decode cX5_placeOf 24 = .ok (.ireturn, 1) := by decide +kernel
theorem dX5_shouldBeWhole_0 : decode cX5_shouldBeWhole 0 = .ok (.aload_n 0, 1) := by decide +kernel
theorem dX5_shouldBeWhole_1 : decode cX5_shouldBeWhole 1 = .ok (.getfield 21, 3) := by decide +kernel
theorem dX5_shouldBeWhole_4 : decode cX5_shouldBeWhole 4 = .ok (.iload_n 1, 1) := by decide +kernel
theorem dX5_shouldBeWhole_5 : decode cX5_shouldBeWhole 5 = .ok (.invokevirtual 164, 3) := by decide +kernel
theorem dX5_shouldBeWhole_8 : decode cX5_shouldBeWhole 8 = .ok (.tableswitch 76 1 3 #[28, 45, 47], 28) := by decide +kernel
theorem dX5_shouldBeWhole_36 : decode cX5_shouldBeWhole 36 = .ok (.aload_n 0, 1) := by decide +kernel
theorem dX5_shouldBeWhole_37 : decode cX5_shouldBeWhole 37 = .ok (.getfield 28, 3) := by decide +kernel
theorem dX5_shouldBeWhole_40 : decode cX5_shouldBeWhole 40 = .ok (.iload_n 1, 1) := by decide +kernel
theorem dX5_shouldBeWhole_41 : decode cX5_shouldBeWhole 41 = .ok (.invokevirtual 197, 3) := by decide +kernel
theorem dX5_shouldBeWhole_44 : decode cX5_shouldBeWhole 44 = .ok (.ifCond .ne 7, 3) := by decide +kernel
theorem dX5_shouldBeWhole_47 : decode cX5_shouldBeWhole 47 = .ok (.iconst 1, 1) := by decide +kernel
theorem dX5_shouldBeWhole_48 : decode cX5_shouldBeWhole 48 = .ok (.goto 4, 3) := by decide +kernel
theorem dX5_shouldBeWhole_51 : decode cX5_shouldBeWhole 51 = .ok (.iconst 0, 1) := by decide +kernel
theorem dX5_shouldBeWhole_52 : decode cX5_shouldBeWhole 52 = .ok (.ireturn, 1) := by decide +kernel
theorem dX5_shouldBeWhole_53 : decode cX5_shouldBeWhole 53 = .ok (.iconst 1, 1) := by decide +kernel
theorem dX5_shouldBeWhole_54 : decode cX5_shouldBeWhole 54 = .ok (.ireturn, 1) := by decide +kernel
theorem dX5_shouldBeWhole_55 : decode cX5_shouldBeWhole 55 = .ok (.aload_n 0, 1) := by decide +kernel
theorem dX5_shouldBeWhole_56 : decode cX5_shouldBeWhole 56 = .ok (.getfield 42, 3) := by decide +kernel
theorem dX5_shouldBeWhole_59 : decode cX5_shouldBeWhole 59 = .ok (.getfield 118, 3) := by decide +kernel
theorem dX5_shouldBeWhole_62 : decode cX5_shouldBeWhole 62 = .ok (.ifCond .le 20, 3) := by decide +kernel
theorem dX5_shouldBeWhole_65 : decode cX5_shouldBeWhole 65 = .ok (.aload_n 0, 1) := by decide +kernel
theorem dX5_shouldBeWhole_66 : decode cX5_shouldBeWhole 66 = .ok (.getfield 42, 3) := by decide +kernel
theorem dX5_shouldBeWhole_69 : decode cX5_shouldBeWhole 69 = .ok (.getfield 118, 3) := by decide +kernel
theorem dX5_shouldBeWhole_72 : decode cX5_shouldBeWhole 72 = .ok (.iconst 2, 1) := by decide +kernel
theorem dX5_shouldBeWhole_73 : decode cX5_shouldBeWhole 73 = .ok (.irem, 1) := by decide +kernel
theorem dX5_shouldBeWhole_74 : decode cX5_shouldBeWhole 74 = .ok (.iload_n 1, 1) := by decide +kernel
theorem dX5_shouldBeWhole_75 : decode cX5_shouldBeWhole 75 = .ok (.if_icmp .ne 7, 3) := by decide +kernel
theorem dX5_shouldBeWhole_78 : decode cX5_shouldBeWhole 78 = .ok (.iconst 1, 1) := by decide +kernel
theorem dX5_shouldBeWhole_79 : decode cX5_shouldBeWhole 79 = .ok (.goto 4, 3) := by decide +kernel
theorem dX5_shouldBeWhole_82 : decode cX5_shouldBeWhole 82 = .ok (.iconst 0, 1) := by decide +kernel
theorem dX5_shouldBeWhole_83 : decode cX5_shouldBeWhole 83 = .ok (.ireturn, 1) := by decide +kernel
theorem dX5_shouldBeWhole_84 : decode cX5_shouldBeWhole 84 = .ok (.iconst 0, 1) := by decide +kernel
theorem dX5_shouldBeWhole_85 : decode cX5_shouldBeWhole 85 = .ok (.ireturn, 1) := by decide +kernel
theorem dX5_blocksFor_0 : decode cX5_blocksFor 0 = .ok (.iload_n 0, 1) := by decide +kernel
theorem dX5_blocksFor_1 : decode cX5_blocksFor 1 = .ok (.iconst 3, 1) := by decide +kernel
theorem dX5_blocksFor_2 : decode cX5_blocksFor 2 = .ok (.iadd, 1) := by decide +kernel
theorem dX5_blocksFor_3 : decode cX5_blocksFor 3 = .ok (.iconst 1, 1) := by decide +kernel
theorem dX5_blocksFor_4 : decode cX5_blocksFor 4 = .ok (.isub, 1) := by decide +kernel
theorem dX5_blocksFor_5 : decode cX5_blocksFor 5 = .ok (.iconst 3, 1) := by decide +kernel
theorem dX5_blocksFor_6 : decode cX5_blocksFor 6 = .ok (.idiv, 1) := by decide +kernel
theorem dX5_blocksFor_7 : decode cX5_blocksFor 7 = .ok (.ireturn, 1) := by decide +kernel
theorem dX5_recordsAt_0 : decode cX5_recordsAt 0 = .ok (.iconst 3, 1) := by decide +kernel
theorem dX5_recordsAt_1 : decode cX5_recordsAt 1 = .ok (.iload_n 1, 1) := by decide +kernel
theorem dX5_recordsAt_2 : decode cX5_recordsAt 2 = .ok (.iload_n 0, 1) := by decide +kernel
theorem dX5_recordsAt_3 : decode cX5_recordsAt 3 = .ok (.iconst 3, 1) := by decide +kernel
theorem dX5_recordsAt_4 : decode cX5_recordsAt 4 = .ok (.imul, 1) := by decide +kernel
theorem dX5_recordsAt_5 : decode cX5_recordsAt 5 = .ok (.isub, 1) := by decide +kernel
theorem dX5_recordsAt_6 : decode cX5_recordsAt 6 = .ok (.invokestatic 200, 3) := by decide +kernel
theorem dX5_recordsAt_9 : decode cX5_recordsAt 9 = .ok (.ireturn, 1) := by decide +kernel
theorem dX5_queueLog_0 : decode cX5_queueLog 0 = .ok (.aload_n 0, 1) := by decide +kernel
theorem dX5_queueLog_1 : decode cX5_queueLog 1 = .ok (.getfield 53, 3) := by decide +kernel
theorem dX5_queueLog_4 : decode cX5_queueLog 4 = .ok (.aload_n 0, 1) := by decide +kernel
theorem dX5_queueLog_5 : decode cX5_queueLog 5 = .ok (.getfield 66, 3) := by decide +kernel
theorem dX5_queueLog_8 : decode cX5_queueLog 8 = .ok (.isub, 1) := by decide +kernel
theorem dX5_queueLog_9 : decode cX5_queueLog 9 = .ok (.istore_n 2, 1) := by decide +kernel
theorem dX5_queueLog_10 : decode cX5_queueLog 10 = .ok (.aload_n 0, 1) := by decide +kernel
theorem dX5_queueLog_11 : decode cX5_queueLog 11 = .ok (.getfield 28, 3) := by decide +kernel
theorem dX5_queueLog_14 : decode cX5_queueLog 14 = .ok (.iload_n 1, 1) := by decide +kernel
theorem dX5_queueLog_15 : decode cX5_queueLog 15 = .ok (.iconst 1, 1) := by decide +kernel
theorem dX5_queueLog_16 : decode cX5_queueLog 16 = .ok (.aload_n 0, 1) := by decide +kernel
theorem dX5_queueLog_17 : decode cX5_queueLog 17 = .ok (.getfield 66, 3) := by decide +kernel
theorem dX5_queueLog_20 : decode cX5_queueLog 20 = .ok (.invokevirtual 205, 3) := by decide +kernel
theorem dX5_queueLog_23 : decode cX5_queueLog 23 = .ok (.istore_n 3, 1) := by decide +kernel
theorem dX5_queueLog_24 : decode cX5_queueLog 24 = .ok (.aload_n 0, 1) := by decide +kernel
theorem dX5_queueLog_25 : decode cX5_queueLog 25 = .ok (.getfield 28, 3) := by decide +kernel
theorem dX5_queueLog_28 : decode cX5_queueLog 28 = .ok (.getfield 209, 3) := by decide +kernel
theorem dX5_queueLog_31 : decode cX5_queueLog 31 = .ok (.iload_n 3, 1) := by decide +kernel
theorem dX5_queueLog_32 : decode cX5_queueLog 32 = .ok (.iconst 2, 1) := by decide +kernel
theorem dX5_queueLog_33 : decode cX5_queueLog 33 = .ok (.bipush 6, 2) := by decide +kernel
theorem dX5_queueLog_35 : decode cX5_queueLog 35 = .ok (.iload_n 2, 1) := by decide +kernel
theorem dX5_queueLog_36 : decode cX5_queueLog 36 = .ok (.i2l, 1) := by decide +kernel
theorem dX5_queueLog_37 : decode cX5_queueLog 37 = .ok (.invokevirtual 212, 3) := by decide +kernel
theorem dX5_queueLog_40 : decode cX5_queueLog 40 = .ok (.iconst 0, 1) := by decide +kernel
theorem dX5_queueLog_41 : decode cX5_queueLog 41 = .ok (.istore 4, 2) := by decide +kernel
theorem dX5_queueLog_43 : decode cX5_queueLog 43 = .ok (.iload 4, 2) := by decide +kernel
theorem dX5_queueLog_45 : decode cX5_queueLog 45 = .ok (.aload_n 0, 1) := by decide +kernel
theorem dX5_queueLog_46 : decode cX5_queueLog 46 = .ok (.getfield 66, 3) := by decide +kernel
theorem dX5_queueLog_49 : decode cX5_queueLog 49 = .ok (.if_icmp .ge 27, 3) := by decide +kernel
theorem dX5_queueLog_52 : decode cX5_queueLog 52 = .ok (.aload_n 0, 1) := by decide +kernel
theorem dX5_queueLog_53 : decode cX5_queueLog 53 = .ok (.iload_n 3, 1) := by decide +kernel
theorem dX5_queueLog_54 : decode cX5_queueLog 54 = .ok (.iload 4, 2) := by decide +kernel
theorem dX5_queueLog_56 : decode cX5_queueLog 56 = .ok (.aload_n 0, 1) := by decide +kernel
theorem dX5_queueLog_57 : decode cX5_queueLog 57 = .ok (.getfield 35, 3) := by decide +kernel
theorem dX5_queueLog_60 : decode cX5_queueLog 60 = .ok (.iload_n 2, 1) := by decide +kernel
theorem dX5_queueLog_61 : decode cX5_queueLog 61 = .ok (.iload 4, 2) := by decide +kernel
theorem dX5_queueLog_63 : decode cX5_queueLog 63 = .ok (.iadd, 1) := by decide +kernel
theorem dX5_queueLog_64 : decode cX5_queueLog 64 = .ok (.invokevirtual 216, 3) := by decide +kernel
theorem dX5_queueLog_67 : decode cX5_queueLog 67 = .ok (.invokevirtual 219, 3) := by decide +kernel
theorem dX5_queueLog_70 : decode cX5_queueLog 70 = .ok (.iinc 4 1, 3) := by decide +kernel
theorem dX5_queueLog_73 : decode cX5_queueLog 73 = .ok (.goto (-30), 3) := by decide +kernel
theorem dX5_queueLog_76 : decode cX5_queueLog 76 = .ok (.aload_n 0, 1) := by decide +kernel
theorem dX5_queueLog_77 : decode cX5_queueLog 77 = .ok (.getfield 28, 3) := by decide +kernel
theorem dX5_queueLog_80 : decode cX5_queueLog 80 = .ok (.iload_n 3, 1) := by decide +kernel
theorem dX5_queueLog_81 : decode cX5_queueLog 81 = .ok (.invokevirtual 222, 3) := by decide +kernel
theorem dX5_queueLog_84 : decode cX5_queueLog 84 = .ok (.aload_n 0, 1) := by decide +kernel
theorem dX5_queueLog_85 : decode cX5_queueLog 85 = .ok (.getfield 21, 3) := by decide +kernel
theorem dX5_queueLog_88 : decode cX5_queueLog 88 = .ok (.iload_n 1, 1) := by decide +kernel
theorem dX5_queueLog_89 : decode cX5_queueLog 89 = .ok (.iconst 1, 1) := by decide +kernel
theorem dX5_queueLog_90 : decode cX5_queueLog 90 = .ok (.iconst 1, 1) := by decide +kernel
theorem dX5_queueLog_91 : decode cX5_queueLog 91 = .ok (.invokevirtual 225, 3) := by decide +kernel
theorem dX5_queueLog_94 : decode cX5_queueLog 94 = .ok (.aload_n 0, 1) := by decide +kernel
theorem dX5_queueLog_95 : decode cX5_queueLog 95 = .ok (.iconst 0, 1) := by decide +kernel
theorem dX5_queueLog_96 : decode cX5_queueLog 96 = .ok (.putfield 66, 3) := by decide +kernel
theorem dX5_queueLog_99 : decode cX5_queueLog 99 = .ok (.return_, 1) := by decide +kernel
theorem dX5_queueRecord_0 : decode cX5_queueRecord 0 = .ok (.bipush 8, 2) := by decide +kernel
theorem dX5_queueRecord_2 : decode cX5_queueRecord 2 = .ok (.iload_n 2, 1) := by decide +kernel
theorem dX5_queueRecord_3 : decode cX5_queueRecord 3 = .ok (.bipush 16, 2) := by decide +kernel
theorem dX5_queueRecord_5 : decode cX5_queueRecord 5 = .ok (.imul, 1) := by decide +kernel
theorem dX5_queueRecord_6 : decode cX5_queueRecord 6 = .ok (.iadd, 1) := by decide +kernel
theorem dX5_queueRecord_7 : decode cX5_queueRecord 7 = .ok (.istore 4, 2) := by decide +kernel
theorem dX5_queueRecord_9 : decode cX5_queueRecord 9 = .ok (.aload_n 0, 1) := by decide +kernel
theorem dX5_queueRecord_10 : decode cX5_queueRecord 10 = .ok (.getfield 28, 3) := by decide +kernel
theorem dX5_queueRecord_13 : decode cX5_queueRecord 13 = .ok (.getfield 209, 3) := by decide +kernel
theorem dX5_queueRecord_16 : decode cX5_queueRecord 16 = .ok (.iload_n 1, 1) := by decide +kernel
theorem dX5_queueRecord_17 : decode cX5_queueRecord 17 = .ok (.iload 4, 2) := by decide +kernel
theorem dX5_queueRecord_19 : decode cX5_queueRecord 19 = .ok (.bipush 8, 2) := by decide +kernel
theorem dX5_queueRecord_21 : decode cX5_queueRecord 21 = .ok (.aload_n 0, 1) := by decide +kernel
theorem dX5_queueRecord_22 : decode cX5_queueRecord 22 = .ok (.getfield 35, 3) := by decide +kernel
theorem dX5_queueRecord_25 : decode cX5_queueRecord 25 = .ok (.iload_n 3, 1) := by decide +kernel
theorem dX5_queueRecord_26 : decode cX5_queueRecord 26 = .ok (.invokevirtual 148, 3) := by decide +kernel
theorem dX5_queueRecord_29 : decode cX5_queueRecord 29 = .ok (.invokevirtual 212, 3) := by decide +kernel
theorem dX5_queueRecord_32 : decode cX5_queueRecord 32 = .ok (.aload_n 0, 1) := by decide +kernel
theorem dX5_queueRecord_33 : decode cX5_queueRecord 33 = .ok (.getfield 28, 3) := by decide +kernel
theorem dX5_queueRecord_36 : decode cX5_queueRecord 36 = .ok (.getfield 209, 3) := by decide +kernel
theorem dX5_queueRecord_39 : decode cX5_queueRecord 39 = .ok (.iload_n 1, 1) := by decide +kernel
theorem dX5_queueRecord_40 : decode cX5_queueRecord 40 = .ok (.iload 4, 2) := by decide +kernel
theorem dX5_queueRecord_42 : decode cX5_queueRecord 42 = .ok (.bipush 8, 2) := by decide +kernel
theorem dX5_queueRecord_44 : decode cX5_queueRecord 44 = .ok (.iadd, 1) := by decide +kernel
theorem dX5_queueRecord_45 : decode cX5_queueRecord 45 = .ok (.bipush 8, 2) := by decide +kernel
theorem dX5_queueRecord_47 : decode cX5_queueRecord 47 = .ok (.aload_n 0, 1) := by decide +kernel
theorem dX5_queueRecord_48 : decode cX5_queueRecord 48 = .ok (.getfield 35, 3) := by decide +kernel
theorem dX5_queueRecord_51 : decode cX5_queueRecord 51 = .ok (.iload_n 3, 1) := by decide +kernel
theorem dX5_queueRecord_52 : decode cX5_queueRecord 52 = .ok (.invokevirtual 140, 3) := by decide +kernel
theorem dX5_queueRecord_55 : decode cX5_queueRecord 55 = .ok (.invokevirtual 212, 3) := by decide +kernel
theorem dX5_queueRecord_58 : decode cX5_queueRecord 58 = .ok (.return_, 1) := by decide +kernel
theorem dX5_planHead_0 : decode cX5_planHead 0 = .ok (.aload_n 0, 1) := by decide +kernel
theorem dX5_planHead_1 : decode cX5_planHead 1 = .ok (.getfield 46, 3) := by decide +kernel
theorem dX5_planHead_4 : decode cX5_planHead 4 = .ok (.invokevirtual 60, 3) := by decide +kernel
theorem dX5_planHead_7 : decode cX5_planHead 7 = .ok (.iload_n 1, 1) := by decide +kernel
theorem dX5_planHead_8 : decode cX5_planHead 8 = .ok (.ifCond .ne 14, 3) := by decide +kernel
theorem dX5_planHead_11 : decode cX5_planHead 11 = .ok (.aload_n 0, 1) := by decide +kernel
theorem dX5_planHead_12 : decode cX5_planHead 12 = .ok (.getfield 46, 3) := by decide +kernel
theorem dX5_planHead_15 : decode cX5_planHead 15 = .ok (.aload_n 0, 1) := by decide +kernel
theorem dX5_planHead_16 : decode cX5_planHead 16 = .ok (.getfield 42, 3) := by decide +kernel
theorem dX5_planHead_19 : decode cX5_planHead 19 = .ok (.invokevirtual 228, 3) := by decide +kernel
theorem dX5_planHead_22 : decode cX5_planHead 22 = .ok (.aload_n 0, 1) := by decide +kernel
theorem dX5_planHead_23 : decode cX5_planHead 23 = .ok (.getfield 46, 3) := by decide +kernel
theorem dX5_planHead_26 : decode cX5_planHead 26 = .ok (.aload_n 0, 1) := by decide +kernel
theorem dX5_planHead_27 : decode cX5_planHead 27 = .ok (.getfield 190, 3) := by decide +kernel
theorem dX5_planHead_30 : decode cX5_planHead 30 = .ok (.iconst 1, 1) := by decide +kernel
theorem dX5_planHead_31 : decode cX5_planHead 31 = .ok (.iadd, 1) := by decide +kernel
theorem dX5_planHead_32 : decode cX5_planHead 32 = .ok (.iload_n 2, 1) := by decide +kernel
theorem dX5_planHead_33 : decode cX5_planHead 33 = .ok (.iload_n 3, 1) := by decide +kernel
theorem dX5_planHead_34 : decode cX5_planHead 34 = .ok (.iload 4, 2) := by decide +kernel
theorem dX5_planHead_36 : decode cX5_planHead 36 = .ok (.invokevirtual 232, 3) := by decide +kernel
theorem dX5_planHead_39 : decode cX5_planHead 39 = .ok (.aload_n 0, 1) := by decide +kernel
theorem dX5_planHead_40 : decode cX5_planHead 40 = .ok (.getfield 46, 3) := by decide +kernel
theorem dX5_planHead_43 : decode cX5_planHead 43 = .ok (.aload_n 0, 1) := by decide +kernel
theorem dX5_planHead_44 : decode cX5_planHead 44 = .ok (.getfield 42, 3) := by decide +kernel
theorem dX5_planHead_47 : decode cX5_planHead 47 = .ok (.getfield 118, 3) := by decide +kernel
theorem dX5_planHead_50 : decode cX5_planHead 50 = .ok (.iconst 1, 1) := by decide +kernel
theorem dX5_planHead_51 : decode cX5_planHead 51 = .ok (.iadd, 1) := by decide +kernel
theorem dX5_planHead_52 : decode cX5_planHead 52 = .ok (.putfield 118, 3) := by decide +kernel
theorem dX5_planHead_55 : decode cX5_planHead 55 = .ok (.aload_n 0, 1) := by decide +kernel
theorem dX5_planHead_56 : decode cX5_planHead 56 = .ok (.getfield 46, 3) := by decide +kernel
theorem dX5_planHead_59 : decode cX5_planHead 59 = .ok (.aload_n 0, 1) := by decide +kernel
theorem dX5_planHead_60 : decode cX5_planHead 60 = .ok (.getfield 53, 3) := by decide +kernel
theorem dX5_planHead_63 : decode cX5_planHead 63 = .ok (.putfield 90, 3) := by decide +kernel
theorem dX5_planHead_66 : decode cX5_planHead 66 = .ok (.return_, 1) := by decide +kernel
theorem dX5_queueFile_0 : decode cX5_queueFile 0 = .ok (.aload_n 0, 1) := by decide +kernel
theorem dX5_queueFile_1 : decode cX5_queueFile 1 = .ok (.getfield 46, 3) := by decide +kernel
theorem dX5_queueFile_4 : decode cX5_queueFile 4 = .ok (.getfield 91, 3) := by decide +kernel
theorem dX5_queueFile_7 : decode cX5_queueFile 7 = .ok (.iconst 1, 1) := by decide +kernel
theorem dX5_queueFile_8 : decode cX5_queueFile 8 = .ok (.isub, 1) := by decide +kernel
theorem dX5_queueFile_9 : decode cX5_queueFile 9 = .ok (.istore_n 2, 1) := by decide +kernel
theorem dX5_queueFile_10 : decode cX5_queueFile 10 = .ok (.aload_n 0, 1) := by decide +kernel
theorem dX5_queueFile_11 : decode cX5_queueFile 11 = .ok (.getfield 46, 3) := by decide +kernel
theorem dX5_queueFile_14 : decode cX5_queueFile 14 = .ok (.iload_n 2, 1) := by decide +kernel
theorem dX5_queueFile_15 : decode cX5_queueFile 15 = .ok (.iconst 2, 1) := by decide +kernel
theorem dX5_queueFile_16 : decode cX5_queueFile 16 = .ok (.invokevirtual 157, 3) := by decide +kernel
theorem dX5_queueFile_19 : decode cX5_queueFile 19 = .ok (.istore_n 3, 1) := by decide +kernel
theorem dX5_queueFile_20 : decode cX5_queueFile 20 = .ok (.aload_n 0, 1) := by decide +kernel
theorem dX5_queueFile_21 : decode cX5_queueFile 21 = .ok (.getfield 28, 3) := by decide +kernel
theorem dX5_queueFile_24 : decode cX5_queueFile 24 = .ok (.getfield 189, 3) := by decide +kernel
theorem dX5_queueFile_27 : decode cX5_queueFile 27 = .ok (.istore 4, 2) := by decide +kernel
theorem dX5_queueFile_29 : decode cX5_queueFile 29 = .ok (.iconst 0, 1) := by decide +kernel
theorem dX5_queueFile_30 : decode cX5_queueFile 30 = .ok (.istore 5, 2) := by decide +kernel
theorem dX5_queueFile_32 : decode cX5_queueFile 32 = .ok (.iload 5, 2) := by decide +kernel
theorem dX5_queueFile_34 : decode cX5_queueFile 34 = .ok (.iload_n 3, 1) := by decide +kernel
theorem dX5_queueFile_35 : decode cX5_queueFile 35 = .ok (.if_icmp .ge 107, 3) := by decide +kernel
theorem dX5_queueFile_38 : decode cX5_queueFile 38 = .ok (.iload 5, 2) := by decide +kernel
theorem dX5_queueFile_40 : decode cX5_queueFile 40 = .ok (.aload_n 0, 1) := by decide +kernel
theorem dX5_queueFile_41 : decode cX5_queueFile 41 = .ok (.getfield 46, 3) := by decide +kernel
theorem dX5_queueFile_44 : decode cX5_queueFile 44 = .ok (.iload_n 2, 1) := by decide +kernel
theorem dX5_queueFile_45 : decode cX5_queueFile 45 = .ok (.iconst 3, 1) := by decide +kernel
theorem dX5_queueFile_46 : decode cX5_queueFile 46 = .ok (.invokevirtual 157, 3) := by decide +kernel
theorem dX5_queueFile_49 : decode cX5_queueFile 49 = .ok (.invokestatic 235, 3) := by decide +kernel
theorem dX5_queueFile_52 : decode cX5_queueFile 52 = .ok (.istore 6, 2) := by decide +kernel
theorem dX5_queueFile_54 : decode cX5_queueFile 54 = .ok (.aload_n 0, 1) := by decide +kernel
theorem dX5_queueFile_55 : decode cX5_queueFile 55 = .ok (.getfield 28, 3) := by decide +kernel
theorem dX5_queueFile_58 : decode cX5_queueFile 58 = .ok (.aload_n 0, 1) := by decide +kernel
theorem dX5_queueFile_59 : decode cX5_queueFile 59 = .ok (.getfield 46, 3) := by decide +kernel
theorem dX5_queueFile_62 : decode cX5_queueFile 62 = .ok (.iload_n 2, 1) := by decide +kernel
theorem dX5_queueFile_63 : decode cX5_queueFile 63 = .ok (.iconst 1, 1) := by decide +kernel
theorem dX5_queueFile_64 : decode cX5_queueFile 64 = .ok (.invokevirtual 157, 3) := by decide +kernel
theorem dX5_queueFile_67 : decode cX5_queueFile 67 = .ok (.iload 5, 2) := by decide +kernel
theorem dX5_queueFile_69 : decode cX5_queueFile 69 = .ok (.iadd, 1) := by decide +kernel
theorem dX5_queueFile_70 : decode cX5_queueFile 70 = .ok (.iconst 2, 1) := by decide +kernel
theorem dX5_queueFile_71 : decode cX5_queueFile 71 = .ok (.iload 6, 2) := by decide +kernel
theorem dX5_queueFile_73 : decode cX5_queueFile 73 = .ok (.invokevirtual 205, 3) := by decide +kernel
theorem dX5_queueFile_76 : decode cX5_queueFile 76 = .ok (.istore 7, 2) := by decide +kernel
theorem dX5_queueFile_78 : decode cX5_queueFile 78 = .ok (.aload_n 0, 1) := by decide +kernel
theorem dX5_queueFile_79 : decode cX5_queueFile 79 = .ok (.getfield 28, 3) := by decide +kernel
theorem dX5_queueFile_82 : decode cX5_queueFile 82 = .ok (.getfield 209, 3) := by decide +kernel
theorem dX5_queueFile_85 : decode cX5_queueFile 85 = .ok (.iload 7, 2) := by decide +kernel
theorem dX5_queueFile_87 : decode cX5_queueFile 87 = .ok (.iconst 2, 1) := by decide +kernel
theorem dX5_queueFile_88 : decode cX5_queueFile 88 = .ok (.iconst 2, 1) := by decide +kernel
theorem dX5_queueFile_89 : decode cX5_queueFile 89 = .ok (.aload_n 0, 1) := by decide +kernel
theorem dX5_queueFile_90 : decode cX5_queueFile 90 = .ok (.getfield 46, 3) := by decide +kernel
theorem dX5_queueFile_93 : decode cX5_queueFile 93 = .ok (.iload_n 2, 1) := by decide +kernel
theorem dX5_queueFile_94 : decode cX5_queueFile 94 = .ok (.iconst 0, 1) := by decide +kernel
theorem dX5_queueFile_95 : decode cX5_queueFile 95 = .ok (.invokevirtual 157, 3) := by decide +kernel
theorem dX5_queueFile_98 : decode cX5_queueFile 98 = .ok (.i2l, 1) := by decide +kernel
theorem dX5_queueFile_99 : decode cX5_queueFile 99 = .ok (.invokevirtual 212, 3) := by decide +kernel
theorem dX5_queueFile_102 : decode cX5_queueFile 102 = .ok (.aload_n 0, 1) := by decide +kernel
theorem dX5_queueFile_103 : decode cX5_queueFile 103 = .ok (.getfield 28, 3) := by decide +kernel
theorem dX5_queueFile_106 : decode cX5_queueFile 106 = .ok (.getfield 209, 3) := by decide +kernel
theorem dX5_queueFile_109 : decode cX5_queueFile 109 = .ok (.iload 7, 2) := by decide +kernel
theorem dX5_queueFile_111 : decode cX5_queueFile 111 = .ok (.iconst 4, 1) := by decide +kernel
theorem dX5_queueFile_112 : decode cX5_queueFile 112 = .ok (.iconst 2, 1) := by decide +kernel
theorem dX5_queueFile_113 : decode cX5_queueFile 113 = .ok (.iload 5, 2) := by decide +kernel
theorem dX5_queueFile_115 : decode cX5_queueFile 115 = .ok (.i2l, 1) := by decide +kernel
theorem dX5_queueFile_116 : decode cX5_queueFile 116 = .ok (.invokevirtual 212, 3) := by decide +kernel
theorem dX5_queueFile_119 : decode cX5_queueFile 119 = .ok (.aload_n 0, 1) := by decide +kernel
theorem dX5_queueFile_120 : decode cX5_queueFile 120 = .ok (.getfield 28, 3) := by decide +kernel
theorem dX5_queueFile_123 : decode cX5_queueFile 123 = .ok (.getfield 209, 3) := by decide +kernel
theorem dX5_queueFile_126 : decode cX5_queueFile 126 = .ok (.iload 7, 2) := by decide +kernel
theorem dX5_queueFile_128 : decode cX5_queueFile 128 = .ok (.bipush 6, 2) := by decide +kernel
theorem dX5_queueFile_130 : decode cX5_queueFile 130 = .ok (.iconst 2, 1) := by decide +kernel
theorem dX5_queueFile_131 : decode cX5_queueFile 131 = .ok (.iload_n 3, 1) := by decide +kernel
theorem dX5_queueFile_132 : decode cX5_queueFile 132 = .ok (.i2l, 1) := by decide +kernel
theorem dX5_queueFile_133 : decode cX5_queueFile 133 = .ok (.invokevirtual 212, 3) := by decide +kernel
theorem dX5_queueFile_136 : decode cX5_queueFile 136 = .ok (.iinc 5 1, 3) := by decide +kernel
theorem dX5_queueFile_139 : decode cX5_queueFile 139 = .ok (.goto (-107), 3) := by decide +kernel
theorem dX5_queueFile_142 : decode cX5_queueFile 142 = .ok (.iconst 0, 1) := by decide +kernel
theorem dX5_queueFile_143 : decode cX5_queueFile 143 = .ok (.istore 5, 2) := by decide +kernel
theorem dX5_queueFile_145 : decode cX5_queueFile 145 = .ok (.iconst 0, 1) := by decide +kernel
theorem dX5_queueFile_146 : decode cX5_queueFile 146 = .ok (.istore 6, 2) := by decide +kernel
theorem dX5_queueFile_148 : decode cX5_queueFile 148 = .ok (.iload 6, 2) := by decide +kernel
theorem dX5_queueFile_150 : decode cX5_queueFile 150 = .ok (.aload_n 0, 1) := by decide +kernel
theorem dX5_queueFile_151 : decode cX5_queueFile 151 = .ok (.getfield 35, 3) := by decide +kernel
theorem dX5_queueFile_154 : decode cX5_queueFile 154 = .ok (.getfield 94, 3) := by decide +kernel
theorem dX5_queueFile_157 : decode cX5_queueFile 157 = .ok (.if_icmp .ge 45, 3) := by decide +kernel
theorem dX5_queueFile_160 : decode cX5_queueFile 160 = .ok (.iload_n 1, 1) := by decide +kernel
theorem dX5_queueFile_161 : decode cX5_queueFile 161 = .ok (.ifCond .ne 15, 3) := by decide +kernel
theorem dX5_queueFile_164 : decode cX5_queueFile 164 = .ok (.aload_n 0, 1) := by decide +kernel
theorem dX5_queueFile_165 : decode cX5_queueFile 165 = .ok (.getfield 35, 3) := by decide +kernel
theorem dX5_queueFile_168 : decode cX5_queueFile 168 = .ok (.iload 6, 2) := by decide +kernel
theorem dX5_queueFile_170 : decode cX5_queueFile 170 = .ok (.invokevirtual 151, 3) := by decide +kernel
theorem dX5_queueFile_173 : decode cX5_queueFile 173 = .ok (.ifCond .eq 23, 3) := by decide +kernel
theorem dX5_queueFile_176 : decode cX5_queueFile 176 = .ok (.aload_n 0, 1) := by decide +kernel
theorem dX5_queueFile_177 : decode cX5_queueFile 177 = .ok (.iload 4, 2) := by decide +kernel
theorem dX5_queueFile_179 : decode cX5_queueFile 179 = .ok (.iload 5, 2) := by decide +kernel
theorem dX5_queueFile_181 : decode cX5_queueFile 181 = .ok (.iconst 3, 1) := by decide +kernel
theorem dX5_queueFile_182 : decode cX5_queueFile 182 = .ok (.idiv, 1) := by decide +kernel
theorem dX5_queueFile_183 : decode cX5_queueFile 183 = .ok (.iadd, 1) := by decide +kernel
theorem dX5_queueFile_184 : decode cX5_queueFile 184 = .ok (.iload 5, 2) := by decide +kernel
theorem dX5_queueFile_186 : decode cX5_queueFile 186 = .ok (.iconst 3, 1) := by decide +kernel
theorem dX5_queueFile_187 : decode cX5_queueFile 187 = .ok (.irem, 1) := by decide +kernel
theorem dX5_queueFile_188 : decode cX5_queueFile 188 = .ok (.iload 6, 2) := by decide +kernel
theorem dX5_queueFile_190 : decode cX5_queueFile 190 = .ok (.invokevirtual 219, 3) := by decide +kernel
theorem dX5_queueFile_193 : decode cX5_queueFile 193 = .ok (.iinc 5 1, 3) := by decide +kernel
theorem dX5_queueFile_196 : decode cX5_queueFile 196 = .ok (.iinc 6 1, 3) := by decide +kernel
theorem dX5_queueFile_199 : decode cX5_queueFile 199 = .ok (.goto (-51), 3) := by decide +kernel
theorem dX5_queueFile_202 : decode cX5_queueFile 202 = .ok (.iconst 0, 1) := by decide +kernel
theorem dX5_queueFile_203 : decode cX5_queueFile 203 = .ok (.istore 6, 2) := by decide +kernel
theorem dX5_queueFile_205 : decode cX5_queueFile 205 = .ok (.iload 6, 2) := by decide +kernel
theorem dX5_queueFile_207 : decode cX5_queueFile 207 = .ok (.iload_n 3, 1) := by decide +kernel
theorem dX5_queueFile_208 : decode cX5_queueFile 208 = .ok (.if_icmp .ge 21, 3) := by decide +kernel
theorem dX5_queueFile_211 : decode cX5_queueFile 211 = .ok (.aload_n 0, 1) := by decide +kernel
theorem dX5_queueFile_212 : decode cX5_queueFile 212 = .ok (.getfield 28, 3) := by decide +kernel
theorem dX5_queueFile_215 : decode cX5_queueFile 215 = .ok (.iload 4, 2) := by decide +kernel
theorem dX5_queueFile_217 : decode cX5_queueFile 217 = .ok (.iload 6, 2) := by decide +kernel
theorem dX5_queueFile_219 : decode cX5_queueFile 219 = .ok (.iadd, 1) := by decide +kernel
theorem dX5_queueFile_220 : decode cX5_queueFile 220 = .ok (.invokevirtual 222, 3) := by decide +kernel
theorem dX5_queueFile_223 : decode cX5_queueFile 223 = .ok (.iinc 6 1, 3) := by decide +kernel
theorem dX5_queueFile_226 : decode cX5_queueFile 226 = .ok (.goto (-21), 3) := by decide +kernel
theorem dX5_queueFile_229 : decode cX5_queueFile 229 = .ok (.return_, 1) := by decide +kernel
theorem dX5_queueHead_0 : decode cX5_queueHead 0 = .ok (.aload_n 0, 1) := by decide +kernel
theorem dX5_queueHead_1 : decode cX5_queueHead 1 = .ok (.getfield 28, 3) := by decide +kernel
theorem dX5_queueHead_4 : decode cX5_queueHead 4 = .ok (.aload_n 0, 1) := by decide +kernel
theorem dX5_queueHead_5 : decode cX5_queueHead 5 = .ok (.getfield 46, 3) := by decide +kernel
theorem dX5_queueHead_8 : decode cX5_queueHead 8 = .ok (.getfield 118, 3) := by decide +kernel
theorem dX5_queueHead_11 : decode cX5_queueHead 11 = .ok (.iconst 2, 1) := by decide +kernel
theorem dX5_queueHead_12 : decode cX5_queueHead 12 = .ok (.irem, 1) := by decide +kernel
theorem dX5_queueHead_13 : decode cX5_queueHead 13 = .ok (.iconst 3, 1) := by decide +kernel
theorem dX5_queueHead_14 : decode cX5_queueHead 14 = .ok (.aload_n 0, 1) := by decide +kernel
theorem dX5_queueHead_15 : decode cX5_queueHead 15 = .ok (.getfield 46, 3) := by decide +kernel
theorem dX5_queueHead_18 : decode cX5_queueHead 18 = .ok (.getfield 91, 3) := by decide +kernel
theorem dX5_queueHead_21 : decode cX5_queueHead 21 = .ok (.invokevirtual 205, 3) := by decide +kernel
theorem dX5_queueHead_24 : decode cX5_queueHead 24 = .ok (.istore_n 1, 1) := by decide +kernel
theorem dX5_queueHead_25 : decode cX5_queueHead 25 = .ok (.aload_n 0, 1) := by decide +kernel
theorem dX5_queueHead_26 : decode cX5_queueHead 26 = .ok (.getfield 28, 3) := by decide +kernel
theorem dX5_queueHead_29 : decode cX5_queueHead 29 = .ok (.getfield 209, 3) := by decide +kernel
theorem dX5_queueHead_32 : decode cX5_queueHead 32 = .ok (.iload_n 1, 1) := by decide +kernel
theorem dX5_queueHead_33 : decode cX5_queueHead 33 = .ok (.iconst 2, 1) := by decide +kernel
theorem dX5_queueHead_34 : decode cX5_queueHead 34 = .ok (.bipush 6, 2) := by decide +kernel
theorem dX5_queueHead_36 : decode cX5_queueHead 36 = .ok (.aload_n 0, 1) := by decide +kernel
theorem dX5_queueHead_37 : decode cX5_queueHead 37 = .ok (.getfield 46, 3) := by decide +kernel
theorem dX5_queueHead_40 : decode cX5_queueHead 40 = .ok (.getfield 118, 3) := by decide +kernel
theorem dX5_queueHead_43 : decode cX5_queueHead 43 = .ok (.i2l, 1) := by decide +kernel
theorem dX5_queueHead_44 : decode cX5_queueHead 44 = .ok (.invokevirtual 212, 3) := by decide +kernel
theorem dX5_queueHead_47 : decode cX5_queueHead 47 = .ok (.iconst 0, 1) := by decide +kernel
theorem dX5_queueHead_48 : decode cX5_queueHead 48 = .ok (.istore_n 2, 1) := by decide +kernel
theorem dX5_queueHead_49 : decode cX5_queueHead 49 = .ok (.iload_n 2, 1) := by decide +kernel
theorem dX5_queueHead_50 : decode cX5_queueHead 50 = .ok (.aload_n 0, 1) := by decide +kernel
theorem dX5_queueHead_51 : decode cX5_queueHead 51 = .ok (.getfield 46, 3) := by decide +kernel
theorem dX5_queueHead_54 : decode cX5_queueHead 54 = .ok (.getfield 91, 3) := by decide +kernel
theorem dX5_queueHead_57 : decode cX5_queueHead 57 = .ok (.if_icmp .ge 49, 3) := by decide +kernel
theorem dX5_queueHead_60 : decode cX5_queueHead 60 = .ok (.iconst 0, 1) := by decide +kernel
theorem dX5_queueHead_61 : decode cX5_queueHead 61 = .ok (.istore_n 3, 1) := by decide +kernel
theorem dX5_queueHead_62 : decode cX5_queueHead 62 = .ok (.iload_n 3, 1) := by decide +kernel
theorem dX5_queueHead_63 : decode cX5_queueHead 63 = .ok (.iconst 4, 1) := by decide +kernel
theorem dX5_queueHead_64 : decode cX5_queueHead 64 = .ok (.if_icmp .ge 36, 3) := by decide +kernel
theorem dX5_queueHead_67 : decode cX5_queueHead 67 = .ok (.aload_n 0, 1) := by decide +kernel
theorem dX5_queueHead_68 : decode cX5_queueHead 68 = .ok (.getfield 28, 3) := by decide +kernel
theorem dX5_queueHead_71 : decode cX5_queueHead 71 = .ok (.getfield 209, 3) := by decide +kernel
theorem dX5_queueHead_74 : decode cX5_queueHead 74 = .ok (.iload_n 1, 1) := by decide +kernel
theorem dX5_queueHead_75 : decode cX5_queueHead 75 = .ok (.iload_n 2, 1) := by decide +kernel
theorem dX5_queueHead_76 : decode cX5_queueHead 76 = .ok (.iload_n 3, 1) := by decide +kernel
theorem dX5_queueHead_77 : decode cX5_queueHead 77 = .ok (.invokestatic 238, 3) := by decide +kernel
theorem dX5_queueHead_80 : decode cX5_queueHead 80 = .ok (.iconst 2, 1) := by decide +kernel
theorem dX5_queueHead_81 : decode cX5_queueHead 81 = .ok (.aload_n 0, 1) := by decide +kernel
theorem dX5_queueHead_82 : decode cX5_queueHead 82 = .ok (.getfield 46, 3) := by decide +kernel
theorem dX5_queueHead_85 : decode cX5_queueHead 85 = .ok (.iload_n 2, 1) := by decide +kernel
theorem dX5_queueHead_86 : decode cX5_queueHead 86 = .ok (.iload_n 3, 1) := by decide +kernel
theorem dX5_queueHead_87 : decode cX5_queueHead 87 = .ok (.invokevirtual 157, 3) := by decide +kernel
theorem dX5_queueHead_90 : decode cX5_queueHead 90 = .ok (.i2l, 1) := by decide +kernel
theorem dX5_queueHead_91 : decode cX5_queueHead 91 = .ok (.invokevirtual 212, 3) := by decide +kernel
theorem dX5_queueHead_94 : decode cX5_queueHead 94 = .ok (.iinc 3 1, 3) := by decide +kernel
theorem dX5_queueHead_97 : decode cX5_queueHead 97 = .ok (.goto (-35), 3) := by decide +kernel
theorem dX5_queueHead_100 : decode cX5_queueHead 100 = .ok (.iinc 2 1, 3) := by decide +kernel
theorem dX5_queueHead_103 : decode cX5_queueHead 103 = .ok (.goto (-54), 3) := by decide +kernel
theorem dX5_queueHead_106 : decode cX5_queueHead 106 = .ok (.aload_n 0, 1) := by decide +kernel
theorem dX5_queueHead_107 : decode cX5_queueHead 107 = .ok (.getfield 28, 3) := by decide +kernel
theorem dX5_queueHead_110 : decode cX5_queueHead 110 = .ok (.getfield 209, 3) := by decide +kernel
theorem dX5_queueHead_113 : decode cX5_queueHead 113 = .ok (.iload_n 1, 1) := by decide +kernel
theorem dX5_queueHead_114 : decode cX5_queueHead 114 = .ok (.bipush 48, 2) := by decide +kernel
theorem dX5_queueHead_116 : decode cX5_queueHead 116 = .ok (.bipush 8, 2) := by decide +kernel
theorem dX5_queueHead_118 : decode cX5_queueHead 118 = .ok (.aload_n 0, 1) := by decide +kernel
theorem dX5_queueHead_119 : decode cX5_queueHead 119 = .ok (.getfield 46, 3) := by decide +kernel
theorem dX5_queueHead_122 : decode cX5_queueHead 122 = .ok (.getfield 90, 3) := by decide +kernel
theorem dX5_queueHead_125 : decode cX5_queueHead 125 = .ok (.i2l, 1) := by decide +kernel
theorem dX5_queueHead_126 : decode cX5_queueHead 126 = .ok (.invokevirtual 212, 3) := by decide +kernel
theorem dX5_queueHead_129 : decode cX5_queueHead 129 = .ok (.aload_n 0, 1) := by decide +kernel
theorem dX5_queueHead_130 : decode cX5_queueHead 130 = .ok (.getfield 28, 3) := by decide +kernel
theorem dX5_queueHead_133 : decode cX5_queueHead 133 = .ok (.iload_n 1, 1) := by decide +kernel
theorem dX5_queueHead_134 : decode cX5_queueHead 134 = .ok (.invokevirtual 222, 3) := by decide +kernel
theorem dX5_queueHead_137 : decode cX5_queueHead 137 = .ok (.return_, 1) := by decide +kernel
theorem dX5_takePlannedHead_0 : decode cX5_takePlannedHead 0 = .ok (.aload_n 0, 1) := by decide +kernel
theorem dX5_takePlannedHead_1 : decode cX5_takePlannedHead 1 = .ok (.invokevirtual 241, 3) := by decide +kernel
theorem dX5_takePlannedHead_4 : decode cX5_takePlannedHead 4 = .ok (.aload_n 0, 1) := by decide +kernel
theorem dX5_takePlannedHead_5 : decode cX5_takePlannedHead 5 = .ok (.getfield 42, 3) := by decide +kernel
theorem dX5_takePlannedHead_8 : decode cX5_takePlannedHead 8 = .ok (.getfield 91, 3) := by decide +kernel
theorem dX5_takePlannedHead_11 : decode cX5_takePlannedHead 11 = .ok (.iconst 1, 1) := by decide +kernel
theorem dX5_takePlannedHead_12 : decode cX5_takePlannedHead 12 = .ok (.isub, 1) := by decide +kernel
theorem dX5_takePlannedHead_13 : decode cX5_takePlannedHead 13 = .ok (.istore_n 2, 1) := by decide +kernel
theorem dX5_takePlannedHead_14 : decode cX5_takePlannedHead 14 = .ok (.aload_n 0, 1) := by decide +kernel
theorem dX5_takePlannedHead_15 : decode cX5_takePlannedHead 15 = .ok (.getfield 21, 3) := by decide +kernel
theorem dX5_takePlannedHead_18 : decode cX5_takePlannedHead 18 = .ok (.iconst 1, 1) := by decide +kernel
theorem dX5_takePlannedHead_19 : decode cX5_takePlannedHead 19 = .ok (.iconst 0, 1) := by decide +kernel
theorem dX5_takePlannedHead_20 : decode cX5_takePlannedHead 20 = .ok (.invokevirtual 244, 3) := by decide +kernel
theorem dX5_takePlannedHead_23 : decode cX5_takePlannedHead 23 = .ok (.iload_n 1, 1) := by decide +kernel
theorem dX5_takePlannedHead_24 : decode cX5_takePlannedHead 24 = .ok (.ifCond .eq 12, 3) := by decide +kernel
theorem dX5_takePlannedHead_27 : decode cX5_takePlannedHead 27 = .ok (.aload_n 0, 1) := by decide +kernel
theorem dX5_takePlannedHead_28 : decode cX5_takePlannedHead 28 = .ok (.getfield 21, 3) := by decide +kernel
theorem dX5_takePlannedHead_31 : decode cX5_takePlannedHead 31 = .ok (.iconst 2, 1) := by decide +kernel
theorem dX5_takePlannedHead_32 : decode cX5_takePlannedHead 32 = .ok (.iconst 0, 1) := by decide +kernel
theorem dX5_takePlannedHead_33 : decode cX5_takePlannedHead 33 = .ok (.invokevirtual 244, 3) := by decide +kernel
theorem dX5_takePlannedHead_36 : decode cX5_takePlannedHead 36 = .ok (.aload_n 0, 1) := by decide +kernel
theorem dX5_takePlannedHead_37 : decode cX5_takePlannedHead 37 = .ok (.getfield 21, 3) := by decide +kernel
theorem dX5_takePlannedHead_40 : decode cX5_takePlannedHead 40 = .ok (.aload_n 0, 1) := by decide +kernel
theorem dX5_takePlannedHead_41 : decode cX5_takePlannedHead 41 = .ok (.getfield 42, 3) := by decide +kernel
theorem dX5_takePlannedHead_44 : decode cX5_takePlannedHead 44 = .ok (.iload_n 2, 1) := by decide +kernel
theorem dX5_takePlannedHead_45 : decode cX5_takePlannedHead 45 = .ok (.iconst 1, 1) := by decide +kernel
theorem dX5_takePlannedHead_46 : decode cX5_takePlannedHead 46 = .ok (.invokevirtual 157, 3) := by decide +kernel
theorem dX5_takePlannedHead_49 : decode cX5_takePlannedHead 49 = .ok (.aload_n 0, 1) := by decide +kernel
theorem dX5_takePlannedHead_50 : decode cX5_takePlannedHead 50 = .ok (.getfield 42, 3) := by decide +kernel
theorem dX5_takePlannedHead_53 : decode cX5_takePlannedHead 53 = .ok (.iload_n 2, 1) := by decide +kernel
theorem dX5_takePlannedHead_54 : decode cX5_takePlannedHead 54 = .ok (.iconst 2, 1) := by decide +kernel
theorem dX5_takePlannedHead_55 : decode cX5_takePlannedHead 55 = .ok (.invokevirtual 157, 3) := by decide +kernel
theorem dX5_takePlannedHead_58 : decode cX5_takePlannedHead 58 = .ok (.iconst 2, 1) := by decide +kernel
theorem dX5_takePlannedHead_59 : decode cX5_takePlannedHead 59 = .ok (.invokevirtual 225, 3) := by decide +kernel
theorem dX5_takePlannedHead_62 : decode cX5_takePlannedHead 62 = .ok (.aload_n 0, 1) := by decide +kernel
theorem dX5_takePlannedHead_63 : decode cX5_takePlannedHead 63 = .ok (.aload_n 0, 1) := by decide +kernel
theorem dX5_takePlannedHead_64 : decode cX5_takePlannedHead 64 = .ok (.getfield 42, 3) := by decide +kernel
theorem dX5_takePlannedHead_67 : decode cX5_takePlannedHead 67 = .ok (.iload_n 2, 1) := by decide +kernel
theorem dX5_takePlannedHead_68 : decode cX5_takePlannedHead 68 = .ok (.iconst 0, 1) := by decide +kernel
theorem dX5_takePlannedHead_69 : decode cX5_takePlannedHead 69 = .ok (.invokevirtual 157, 3) := by decide +kernel
theorem dX5_takePlannedHead_72 : decode cX5_takePlannedHead 72 = .ok (.putfield 190, 3) := by decide +kernel
theorem dX5_takePlannedHead_75 : decode cX5_takePlannedHead 75 = .ok (.aload_n 0, 1) := by decide +kernel
theorem dX5_takePlannedHead_76 : decode cX5_takePlannedHead 76 = .ok (.getfield 35, 3) := by decide +kernel
theorem dX5_takePlannedHead_79 : decode cX5_takePlannedHead 79 = .ok (.invokevirtual 248, 3) := by decide +kernel
theorem dX5_takePlannedHead_82 : decode cX5_takePlannedHead 82 = .ok (.aload_n 0, 1) := by decide +kernel
theorem dX5_takePlannedHead_83 : decode cX5_takePlannedHead 83 = .ok (.iconst 0, 1) := by decide +kernel
theorem dX5_takePlannedHead_84 : decode cX5_takePlannedHead 84 = .ok (.putfield 66, 3) := by decide +kernel
theorem dX5_takePlannedHead_87 : decode cX5_takePlannedHead 87 = .ok (.aload_n 0, 1) := by decide +kernel
theorem dX5_takePlannedHead_88 : decode cX5_takePlannedHead 88 = .ok (.aload_n 0, 1) := by decide +kernel
theorem dX5_takePlannedHead_89 : decode cX5_takePlannedHead 89 = .ok (.getfield 53, 3) := by decide +kernel
theorem dX5_takePlannedHead_92 : decode cX5_takePlannedHead 92 = .ok (.iconst 1, 1) := by decide +kernel
theorem dX5_takePlannedHead_93 : decode cX5_takePlannedHead 93 = .ok (.isub, 1) := by decide +kernel
theorem dX5_takePlannedHead_94 : decode cX5_takePlannedHead 94 = .ok (.putfield 80, 3) := by decide +kernel
theorem dX5_takePlannedHead_97 : decode cX5_takePlannedHead 97 = .ok (.return_, 1) := by decide +kernel
theorem dX5_swapHeads_0 : decode cX5_swapHeads 0 = .ok (.aload_n 0, 1) := by decide +kernel
theorem dX5_swapHeads_1 : decode cX5_swapHeads 1 = .ok (.getfield 42, 3) := by decide +kernel
theorem dX5_swapHeads_4 : decode cX5_swapHeads 4 = .ok (.astore_n 1, 1) := by decide +kernel
theorem dX5_swapHeads_5 : decode cX5_swapHeads 5 = .ok (.aload_n 0, 1) := by decide +kernel
theorem dX5_swapHeads_6 : decode cX5_swapHeads 6 = .ok (.aload_n 0, 1) := by decide +kernel
theorem dX5_swapHeads_7 : decode cX5_swapHeads 7 = .ok (.getfield 46, 3) := by decide +kernel
theorem dX5_swapHeads_10 : decode cX5_swapHeads 10 = .ok (.putfield 42, 3) := by decide +kernel
theorem dX5_swapHeads_13 : decode cX5_swapHeads 13 = .ok (.aload_n 0, 1) := by decide +kernel
theorem dX5_swapHeads_14 : decode cX5_swapHeads 14 = .ok (.aload_n 1, 1) := by decide +kernel
theorem dX5_swapHeads_15 : decode cX5_swapHeads 15 = .ok (.putfield 46, 3) := by decide +kernel
theorem dX5_swapHeads_18 : decode cX5_swapHeads 18 = .ok (.return_, 1) := by decide +kernel
theorem dX5_chooseHead_0 : decode cX5_chooseHead 0 = .ok (.aload_n 0, 1) := by decide +kernel
theorem dX5_chooseHead_1 : decode cX5_chooseHead 1 = .ok (.getfield 42, 3) := by decide +kernel
theorem dX5_chooseHead_4 : decode cX5_chooseHead 4 = .ok (.aload_n 0, 1) := by decide +kernel
theorem dX5_chooseHead_5 : decode cX5_chooseHead 5 = .ok (.getfield 14, 3) := by decide +kernel
theorem dX5_chooseHead_8 : decode cX5_chooseHead 8 = .ok (.iconst 0, 1) := by decide +kernel
theorem dX5_chooseHead_9 : decode cX5_chooseHead 9 = .ok (.invokevirtual 251, 3) := by decide +kernel
theorem dX5_chooseHead_12 : decode cX5_chooseHead 12 = .ok (.aload_n 0, 1) := by decide +kernel
theorem dX5_chooseHead_13 : decode cX5_chooseHead 13 = .ok (.getfield 46, 3) := by decide +kernel
theorem dX5_chooseHead_16 : decode cX5_chooseHead 16 = .ok (.aload_n 0, 1) := by decide +kernel
theorem dX5_chooseHead_17 : decode cX5_chooseHead 17 = .ok (.getfield 14, 3) := by decide +kernel
theorem dX5_chooseHead_20 : decode cX5_chooseHead 20 = .ok (.iconst 1, 1) := by decide +kernel
theorem dX5_chooseHead_21 : decode cX5_chooseHead 21 = .ok (.invokevirtual 251, 3) := by decide +kernel
theorem dX5_chooseHead_24 : decode cX5_chooseHead 24 = .ok (.aload_n 0, 1) := by decide +kernel
theorem dX5_chooseHead_25 : decode cX5_chooseHead 25 = .ok (.getfield 46, 3) := by decide +kernel
theorem dX5_chooseHead_28 : decode cX5_chooseHead 28 = .ok (.getfield 118, 3) := by decide +kernel
theorem dX5_chooseHead_31 : decode cX5_chooseHead 31 = .ok (.aload_n 0, 1) := by decide +kernel
theorem dX5_chooseHead_32 : decode cX5_chooseHead 32 = .ok (.getfield 42, 3) := by decide +kernel
theorem dX5_chooseHead_35 : decode cX5_chooseHead 35 = .ok (.getfield 118, 3) := by decide +kernel
theorem dX5_chooseHead_38 : decode cX5_chooseHead 38 = .ok (.if_icmp .le 7, 3) := by decide +kernel
theorem dX5_chooseHead_41 : decode cX5_chooseHead 41 = .ok (.aload_n 0, 1) := by decide +kernel
theorem dX5_chooseHead_42 : decode cX5_chooseHead 42 = .ok (.invokevirtual 241, 3) := by decide +kernel
theorem dX5_chooseHead_45 : decode cX5_chooseHead 45 = .ok (.return_, 1) := by decide +kernel
theorem dX5_firstWrongBlock_0 : decode cX5_firstWrongBlock 0 = .ok (.iconst 0, 1) := by decide +kernel
theorem dX5_firstWrongBlock_1 : decode cX5_firstWrongBlock 1 = .ok (.istore_n 1, 1) := by decide +kernel
theorem dX5_firstWrongBlock_2 : decode cX5_firstWrongBlock 2 = .ok (.iload_n 1, 1) := by decide +kernel
theorem dX5_firstWrongBlock_3 : decode cX5_firstWrongBlock 3 = .ok (.aload_n 0, 1) := by decide +kernel
theorem dX5_firstWrongBlock_4 : decode cX5_firstWrongBlock 4 = .ok (.getfield 42, 3) := by decide +kernel
theorem dX5_firstWrongBlock_7 : decode cX5_firstWrongBlock 7 = .ok (.getfield 91, 3) := by decide +kernel
theorem dX5_firstWrongBlock_10 : decode cX5_firstWrongBlock 10 = .ok (.if_icmp .ge 51, 3) := by decide +kernel
theorem dX5_firstWrongBlock_13 : decode cX5_firstWrongBlock 13 = .ok (.iconst 0, 1) := by decide +kernel
theorem dX5_firstWrongBlock_14 : decode cX5_firstWrongBlock 14 = .ok (.istore_n 2, 1) := by decide +kernel
theorem dX5_firstWrongBlock_15 : decode cX5_firstWrongBlock 15 = .ok (.iload_n 2, 1) := by decide +kernel
theorem dX5_firstWrongBlock_16 : decode cX5_firstWrongBlock 16 = .ok (.aload_n 0, 1) := by decide +kernel
theorem dX5_firstWrongBlock_17 : decode cX5_firstWrongBlock 17 = .ok (.getfield 42, 3) := by decide +kernel
theorem dX5_firstWrongBlock_20 : decode cX5_firstWrongBlock 20 = .ok (.iload_n 1, 1) := by decide +kernel
theorem dX5_firstWrongBlock_21 : decode cX5_firstWrongBlock 21 = .ok (.iconst 2, 1) := by decide +kernel
theorem dX5_firstWrongBlock_22 : decode cX5_firstWrongBlock 22 = .ok (.invokevirtual 157, 3) := by decide +kernel
theorem dX5_firstWrongBlock_25 : decode cX5_firstWrongBlock 25 = .ok (.if_icmp .ge 30, 3) := by decide +kernel
theorem dX5_firstWrongBlock_28 : decode cX5_firstWrongBlock 28 = .ok (.aload_n 0, 1) := by decide +kernel
theorem dX5_firstWrongBlock_29 : decode cX5_firstWrongBlock 29 = .ok (.iload_n 1, 1) := by decide +kernel
theorem dX5_firstWrongBlock_30 : decode cX5_firstWrongBlock 30 = .ok (.iload_n 2, 1) := by decide +kernel
theorem dX5_firstWrongBlock_31 : decode cX5_firstWrongBlock 31 = .ok (.invokevirtual 255, 3) := by decide +kernel
theorem dX5_firstWrongBlock_34 : decode cX5_firstWrongBlock 34 = .ok (.ifCond .ne 15, 3) := by decide +kernel
theorem dX5_firstWrongBlock_37 : decode cX5_firstWrongBlock 37 = .ok (.aload_n 0, 1) := by decide +kernel
theorem dX5_firstWrongBlock_38 : decode cX5_firstWrongBlock 38 = .ok (.getfield 42, 3) := by decide +kernel
theorem dX5_firstWrongBlock_41 : decode cX5_firstWrongBlock 41 = .ok (.iload_n 1, 1) := by decide +kernel
theorem dX5_firstWrongBlock_42 : decode cX5_firstWrongBlock 42 = .ok (.iconst 1, 1) := by decide +kernel
theorem dX5_firstWrongBlock_43 : decode cX5_firstWrongBlock 43 = .ok (.invokevirtual 157, 3) := by decide +kernel
theorem dX5_firstWrongBlock_46 : decode cX5_firstWrongBlock 46 = .ok (.iload_n 2, 1) := by decide +kernel
theorem dX5_firstWrongBlock_47 : decode cX5_firstWrongBlock 47 = .ok (.iadd, 1) := by decide +kernel
theorem dX5_firstWrongBlock_48 : decode cX5_firstWrongBlock 48 = .ok (.ireturn, 1) := by decide +kernel
theorem dX5_firstWrongBlock_49 : decode cX5_firstWrongBlock 49 = .ok (.iinc 2 1, 3) := by decide +kernel
theorem dX5_firstWrongBlock_52 : decode cX5_firstWrongBlock 52 = .ok (.goto (-37), 3) := by decide +kernel
theorem dX5_firstWrongBlock_55 : decode cX5_firstWrongBlock 55 = .ok (.iinc 1 1, 3) := by decide +kernel
theorem dX5_firstWrongBlock_58 : decode cX5_firstWrongBlock 58 = .ok (.goto (-56), 3) := by decide +kernel
theorem dX5_firstWrongBlock_61 : decode cX5_firstWrongBlock 61 = .ok (.bipush (-2), 2) := by decide +kernel
theorem dX5_firstWrongBlock_63 : decode cX5_firstWrongBlock 63 = .ok (.ireturn, 1) := by decide +kernel
theorem dX5_isFileBlock_0 : decode cX5_isFileBlock 0 = .ok (.aload_n 0, 1) := by decide +kernel
theorem dX5_isFileBlock_1 : decode cX5_isFileBlock 1 = .ok (.getfield 42, 3) := by decide +kernel
theorem dX5_isFileBlock_4 : decode cX5_isFileBlock 4 = .ok (.iload_n 1, 1) := by decide +kernel
theorem dX5_isFileBlock_5 : decode cX5_isFileBlock 5 = .ok (.iconst 1, 1) := by decide +kernel
theorem dX5_isFileBlock_6 : decode cX5_isFileBlock 6 = .ok (.invokevirtual 157, 3) := by decide +kernel
theorem dX5_isFileBlock_9 : decode cX5_isFileBlock 9 = .ok (.iload_n 2, 1) := by decide +kernel
theorem dX5_isFileBlock_10 : decode cX5_isFileBlock 10 = .ok (.iadd, 1) := by decide +kernel
theorem dX5_isFileBlock_11 : decode cX5_isFileBlock 11 = .ok (.istore_n 3, 1) := by decide +kernel
theorem dX5_isFileBlock_12 : decode cX5_isFileBlock 12 = .ok (.aload_n 0, 1) := by decide +kernel
theorem dX5_isFileBlock_13 : decode cX5_isFileBlock 13 = .ok (.getfield 14, 3) := by decide +kernel
theorem dX5_isFileBlock_16 : decode cX5_isFileBlock 16 = .ok (.iload_n 3, 1) := by decide +kernel
theorem dX5_isFileBlock_17 : decode cX5_isFileBlock 17 = .ok (.iconst 0, 1) := by decide +kernel
theorem dX5_isFileBlock_18 : decode cX5_isFileBlock 18 = .ok (.invokevirtual 161, 3) := by decide +kernel
theorem dX5_isFileBlock_21 : decode cX5_isFileBlock 21 = .ok (.ifCond .eq 121, 3) := by decide +kernel
theorem dX5_isFileBlock_24 : decode cX5_isFileBlock 24 = .ok (.aload_n 0, 1) := by decide +kernel
theorem dX5_isFileBlock_25 : decode cX5_isFileBlock 25 = .ok (.getfield 14, 3) := by decide +kernel
theorem dX5_isFileBlock_28 : decode cX5_isFileBlock 28 = .ok (.iload_n 3, 1) := by decide +kernel
theorem dX5_isFileBlock_29 : decode cX5_isFileBlock 29 = .ok (.invokevirtual 177, 3) := by decide +kernel
theorem dX5_isFileBlock_32 : decode cX5_isFileBlock 32 = .ok (.ifCond .eq 110, 3) := by decide +kernel
theorem dX5_isFileBlock_35 : decode cX5_isFileBlock 35 = .ok (.aload_n 0, 1) := by decide +kernel
theorem dX5_isFileBlock_36 : decode cX5_isFileBlock 36 = .ok (.getfield 14, 3) := by decide +kernel
theorem dX5_isFileBlock_39 : decode cX5_isFileBlock 39 = .ok (.iload_n 3, 1) := by decide +kernel
theorem dX5_isFileBlock_40 : decode cX5_isFileBlock 40 = .ok (.iconst 0, 1) := by decide +kernel
theorem dX5_isFileBlock_41 : decode cX5_isFileBlock 41 = .ok (.invokevirtual 167, 3) := by decide +kernel
theorem dX5_isFileBlock_44 : decode cX5_isFileBlock 44 = .ok (.iconst 2, 1) := by decide +kernel
theorem dX5_isFileBlock_45 : decode cX5_isFileBlock 45 = .ok (.if_icmp .ne 97, 3) := by decide +kernel
theorem dX5_isFileBlock_48 : decode cX5_isFileBlock 48 = .ok (.aload_n 0, 1) := by decide +kernel
theorem dX5_isFileBlock_49 : decode cX5_isFileBlock 49 = .ok (.getfield 14, 3) := by decide +kernel
theorem dX5_isFileBlock_52 : decode cX5_isFileBlock 52 = .ok (.iload_n 3, 1) := by decide +kernel
theorem dX5_isFileBlock_53 : decode cX5_isFileBlock 53 = .ok (.iconst 1, 1) := by decide +kernel
theorem dX5_isFileBlock_54 : decode cX5_isFileBlock 54 = .ok (.invokevirtual 167, 3) := by decide +kernel
theorem dX5_isFileBlock_57 : decode cX5_isFileBlock 57 = .ok (.iload_n 2, 1) := by decide +kernel
theorem dX5_isFileBlock_58 : decode cX5_isFileBlock 58 = .ok (.aload_n 0, 1) := by decide +kernel
theorem dX5_isFileBlock_59 : decode cX5_isFileBlock 59 = .ok (.getfield 42, 3) := by decide +kernel
theorem dX5_isFileBlock_62 : decode cX5_isFileBlock 62 = .ok (.iload_n 1, 1) := by decide +kernel
theorem dX5_isFileBlock_63 : decode cX5_isFileBlock 63 = .ok (.iconst 3, 1) := by decide +kernel
theorem dX5_isFileBlock_64 : decode cX5_isFileBlock 64 = .ok (.invokevirtual 157, 3) := by decide +kernel
theorem dX5_isFileBlock_67 : decode cX5_isFileBlock 67 = .ok (.invokestatic 235, 3) := by decide +kernel
theorem dX5_isFileBlock_70 : decode cX5_isFileBlock 70 = .ok (.if_icmp .ne 72, 3) := by decide +kernel
theorem dX5_isFileBlock_73 : decode cX5_isFileBlock 73 = .ok (.aload_n 0, 1) := by decide +kernel
theorem dX5_isFileBlock_74 : decode cX5_isFileBlock 74 = .ok (.getfield 14, 3) := by decide +kernel
theorem dX5_isFileBlock_77 : decode cX5_isFileBlock 77 = .ok (.iload_n 3, 1) := by decide +kernel
theorem dX5_isFileBlock_78 : decode cX5_isFileBlock 78 = .ok (.iconst 2, 1) := by decide +kernel
theorem dX5_isFileBlock_79 : decode cX5_isFileBlock 79 = .ok (.iconst 2, 1) := by decide +kernel
theorem dX5_isFileBlock_80 : decode cX5_isFileBlock 80 = .ok (.invokevirtual 258, 3) := by decide +kernel
theorem dX5_isFileBlock_83 : decode cX5_isFileBlock 83 = .ok (.aload_n 0, 1) := by decide +kernel
theorem dX5_isFileBlock_84 : decode cX5_isFileBlock 84 = .ok (.getfield 42, 3) := by decide +kernel
theorem dX5_isFileBlock_87 : decode cX5_isFileBlock 87 = .ok (.iload_n 1, 1) := by decide +kernel
theorem dX5_isFileBlock_88 : decode cX5_isFileBlock 88 = .ok (.iconst 0, 1) := by decide +kernel
theorem dX5_isFileBlock_89 : decode cX5_isFileBlock 89 = .ok (.invokevirtual 157, 3) := by decide +kernel
theorem dX5_isFileBlock_92 : decode cX5_isFileBlock 92 = .ok (.i2l, 1) := by decide +kernel
theorem dX5_isFileBlock_93 : decode cX5_isFileBlock 93 = .ok (.lcmp, 1) := by decide +kernel
theorem dX5_isFileBlock_94 : decode cX5_isFileBlock 94 = .ok (.ifCond .ne 48, 3) := by decide +kernel
theorem dX5_isFileBlock_97 : decode cX5_isFileBlock 97 = .ok (.aload_n 0, 1) := by decide +kernel
theorem dX5_isFileBlock_98 : decode cX5_isFileBlock 98 = .ok (.getfield 14, 3) := by decide +kernel
theorem dX5_isFileBlock_101 : decode cX5_isFileBlock 101 = .ok (.iload_n 3, 1) := by decide +kernel
theorem dX5_isFileBlock_102 : decode cX5_isFileBlock 102 = .ok (.iconst 4, 1) := by decide +kernel
theorem dX5_isFileBlock_103 : decode cX5_isFileBlock 103 = .ok (.iconst 2, 1) := by decide +kernel
theorem dX5_isFileBlock_104 : decode cX5_isFileBlock 104 = .ok (.invokevirtual 258, 3) := by decide +kernel
theorem dX5_isFileBlock_107 : decode cX5_isFileBlock 107 = .ok (.iload_n 2, 1) := by decide +kernel
theorem dX5_isFileBlock_108 : decode cX5_isFileBlock 108 = .ok (.i2l, 1) := by decide +kernel
theorem dX5_isFileBlock_109 : decode cX5_isFileBlock 109 = .ok (.lcmp, 1) := by decide +kernel
theorem dX5_isFileBlock_110 : decode cX5_isFileBlock 110 = .ok (.ifCond .ne 32, 3) := by decide +kernel
theorem dX5_isFileBlock_113 : decode cX5_isFileBlock 113 = .ok (.aload_n 0, 1) := by decide +kernel
theorem dX5_isFileBlock_114 : decode cX5_isFileBlock 114 = .ok (.getfield 14, 3) := by decide +kernel
theorem dX5_isFileBlock_117 : decode cX5_isFileBlock 117 = .ok (.iload_n 3, 1) := by decide +kernel
theorem dX5_isFileBlock_118 : decode cX5_isFileBlock 118 = .ok (.bipush 6, 2) := by decide +kernel
theorem dX5_isFileBlock_120 : decode cX5_isFileBlock 120 = .ok (.iconst 2, 1) := by decide +kernel
theorem dX5_isFileBlock_121 : decode cX5_isFileBlock 121 = .ok (.invokevirtual 258, 3) := by decide +kernel
theorem dX5_isFileBlock_124 : decode cX5_isFileBlock 124 = .ok (.aload_n 0, 1) := by decide +kernel
theorem dX5_isFileBlock_125 : decode cX5_isFileBlock 125 = .ok (.getfield 42, 3) := by decide +kernel
theorem dX5_isFileBlock_128 : decode cX5_isFileBlock 128 = .ok (.iload_n 1, 1) := by decide +kernel
theorem dX5_isFileBlock_129 : decode cX5_isFileBlock 129 = .ok (.iconst 2, 1) := by decide +kernel
theorem dX5_isFileBlock_130 : decode cX5_isFileBlock 130 = .ok (.invokevirtual 157, 3) := by decide +kernel
theorem dX5_isFileBlock_133 : decode cX5_isFileBlock 133 = .ok (.i2l, 1) := by decide +kernel
theorem dX5_isFileBlock_134 : decode cX5_isFileBlock 134 = .ok (.lcmp, 1) := by decide +kernel
theorem dX5_isFileBlock_135 : decode cX5_isFileBlock 135 = .ok (.ifCond .ne 7, 3) := by decide +kernel
theorem dX5_isFileBlock_138 : decode cX5_isFileBlock 138 = .ok (.iconst 1, 1) := by decide +kernel
theorem dX5_isFileBlock_139 : decode cX5_isFileBlock 139 = .ok (.goto 4, 3) := by decide +kernel
theorem dX5_isFileBlock_142 : decode cX5_isFileBlock 142 = .ok (.iconst 0, 1) := by decide +kernel
theorem dX5_isFileBlock_143 : decode cX5_isFileBlock 143 = .ok (.ireturn, 1) := by decide +kernel
theorem dX5_readFile_0 : decode cX5_readFile 0 = .ok (.aload_n 0, 1) := by decide +kernel
theorem dX5_readFile_1 : decode cX5_readFile 1 = .ok (.getfield 42, 3) := by decide +kernel
theorem dX5_readFile_4 : decode cX5_readFile 4 = .ok (.iload_n 1, 1) := by decide +kernel
theorem dX5_readFile_5 : decode cX5_readFile 5 = .ok (.iconst 1, 1) := by decide +kernel
theorem dX5_readFile_6 : decode cX5_readFile 6 = .ok (.invokevirtual 157, 3) := by decide +kernel
theorem dX5_readFile_9 : decode cX5_readFile 9 = .ok (.istore_n 2, 1) := by decide +kernel
theorem dX5_readFile_10 : decode cX5_readFile 10 = .ok (.aload_n 0, 1) := by decide +kernel
theorem dX5_readFile_11 : decode cX5_readFile 11 = .ok (.getfield 42, 3) := by decide +kernel
theorem dX5_readFile_14 : decode cX5_readFile 14 = .ok (.iload_n 1, 1) := by decide +kernel
theorem dX5_readFile_15 : decode cX5_readFile 15 = .ok (.iconst 2, 1) := by decide +kernel
theorem dX5_readFile_16 : decode cX5_readFile 16 = .ok (.invokevirtual 157, 3) := by decide +kernel
theorem dX5_readFile_19 : decode cX5_readFile 19 = .ok (.istore_n 3, 1) := by decide +kernel
theorem dX5_readFile_20 : decode cX5_readFile 20 = .ok (.iconst 0, 1) := by decide +kernel
theorem dX5_readFile_21 : decode cX5_readFile 21 = .ok (.istore 4, 2) := by decide +kernel
theorem dX5_readFile_23 : decode cX5_readFile 23 = .ok (.iload 4, 2) := by decide +kernel
theorem dX5_readFile_25 : decode cX5_readFile 25 = .ok (.iload_n 3, 1) := by decide +kernel
theorem dX5_readFile_26 : decode cX5_readFile 26 = .ok (.if_icmp .ge 48, 3) := by decide +kernel
theorem dX5_readFile_29 : decode cX5_readFile 29 = .ok (.iconst 0, 1) := by decide +kernel
theorem dX5_readFile_30 : decode cX5_readFile 30 = .ok (.istore 5, 2) := by decide +kernel
theorem dX5_readFile_32 : decode cX5_readFile 32 = .ok (.iload 5, 2) := by decide +kernel
theorem dX5_readFile_34 : decode cX5_readFile 34 = .ok (.iload 4, 2) := by decide +kernel
theorem dX5_readFile_36 : decode cX5_readFile 36 = .ok (.aload_n 0, 1) := by decide +kernel
theorem dX5_readFile_37 : decode cX5_readFile 37 = .ok (.getfield 42, 3) := by decide +kernel
theorem dX5_readFile_40 : decode cX5_readFile 40 = .ok (.iload_n 1, 1) := by decide +kernel
theorem dX5_readFile_41 : decode cX5_readFile 41 = .ok (.iconst 3, 1) := by decide +kernel
theorem dX5_readFile_42 : decode cX5_readFile 42 = .ok (.invokevirtual 157, 3) := by decide +kernel
theorem dX5_readFile_45 : decode cX5_readFile 45 = .ok (.invokestatic 235, 3) := by decide +kernel
theorem dX5_readFile_48 : decode cX5_readFile 48 = .ok (.if_icmp .ge 20, 3) := by decide +kernel
theorem dX5_readFile_51 : decode cX5_readFile 51 = .ok (.aload_n 0, 1) := by decide +kernel
theorem dX5_readFile_52 : decode cX5_readFile 52 = .ok (.iload_n 2, 1) := by decide +kernel
theorem dX5_readFile_53 : decode cX5_readFile 53 = .ok (.iload 4, 2) := by decide +kernel
theorem dX5_readFile_55 : decode cX5_readFile 55 = .ok (.iadd, 1) := by decide +kernel
theorem dX5_readFile_56 : decode cX5_readFile 56 = .ok (.iload 5, 2) := by decide +kernel
theorem dX5_readFile_58 : decode cX5_readFile 58 = .ok (.iconst 0, 1) := by decide +kernel
theorem dX5_readFile_59 : decode cX5_readFile 59 = .ok (.invokevirtual 262, 3) := by decide +kernel
theorem dX5_readFile_62 : decode cX5_readFile 62 = .ok (.iinc 5 1, 3) := by decide +kernel
theorem dX5_readFile_65 : decode cX5_readFile 65 = .ok (.goto (-33), 3) := by decide +kernel
theorem dX5_readFile_68 : decode cX5_readFile 68 = .ok (.iinc 4 1, 3) := by decide +kernel
theorem dX5_readFile_71 : decode cX5_readFile 71 = .ok (.goto (-48), 3) := by decide +kernel
theorem dX5_readFile_74 : decode cX5_readFile 74 = .ok (.aload_n 0, 1) := by decide +kernel
theorem dX5_readFile_75 : decode cX5_readFile 75 = .ok (.getfield 21, 3) := by decide +kernel
theorem dX5_readFile_78 : decode cX5_readFile 78 = .ok (.iload_n 2, 1) := by decide +kernel
theorem dX5_readFile_79 : decode cX5_readFile 79 = .ok (.iload_n 3, 1) := by decide +kernel
theorem dX5_readFile_80 : decode cX5_readFile 80 = .ok (.iconst 2, 1) := by decide +kernel
theorem dX5_readFile_81 : decode cX5_readFile 81 = .ok (.invokevirtual 225, 3) := by decide +kernel
theorem dX5_readFile_84 : decode cX5_readFile 84 = .ok (.aload_n 0, 1) := by decide +kernel
theorem dX5_readFile_85 : decode cX5_readFile 85 = .ok (.aload_n 0, 1) := by decide +kernel
theorem dX5_readFile_86 : decode cX5_readFile 86 = .ok (.getfield 190, 3) := by decide +kernel
theorem dX5_readFile_89 : decode cX5_readFile 89 = .ok (.aload_n 0, 1) := by decide +kernel
theorem dX5_readFile_90 : decode cX5_readFile 90 = .ok (.getfield 42, 3) := by decide +kernel
theorem dX5_readFile_93 : decode cX5_readFile 93 = .ok (.iload_n 1, 1) := by decide +kernel
theorem dX5_readFile_94 : decode cX5_readFile 94 = .ok (.iconst 0, 1) := by decide +kernel
theorem dX5_readFile_95 : decode cX5_readFile 95 = .ok (.invokevirtual 157, 3) := by decide +kernel
theorem dX5_readFile_98 : decode cX5_readFile 98 = .ok (.invokestatic 265, 3) := by decide +kernel
theorem dX5_readFile_101 : decode cX5_readFile 101 = .ok (.putfield 190, 3) := by decide +kernel
theorem dX5_readFile_104 : decode cX5_readFile 104 = .ok (.return_, 1) := by decide +kernel
theorem dX5_readRecord_0 : decode cX5_readRecord 0 = .ok (.bipush 8, 2) := by decide +kernel
theorem dX5_readRecord_2 : decode cX5_readRecord 2 = .ok (.iload_n 2, 1) := by decide +kernel
theorem dX5_readRecord_3 : decode cX5_readRecord 3 = .ok (.bipush 16, 2) := by decide +kernel
theorem dX5_readRecord_5 : decode cX5_readRecord 5 = .ok (.imul, 1) := by decide +kernel
theorem dX5_readRecord_6 : decode cX5_readRecord 6 = .ok (.iadd, 1) := by decide +kernel
theorem dX5_readRecord_7 : decode cX5_readRecord 7 = .ok (.istore 4, 2) := by decide +kernel
theorem dX5_readRecord_9 : decode cX5_readRecord 9 = .ok (.aload_n 0, 1) := by decide +kernel
theorem dX5_readRecord_10 : decode cX5_readRecord 10 = .ok (.getfield 35, 3) := by decide +kernel
theorem dX5_readRecord_13 : decode cX5_readRecord 13 = .ok (.aload_n 0, 1) := by decide +kernel
theorem dX5_readRecord_14 : decode cX5_readRecord 14 = .ok (.getfield 14, 3) := by decide +kernel
theorem dX5_readRecord_17 : decode cX5_readRecord 17 = .ok (.iload_n 1, 1) := by decide +kernel
theorem dX5_readRecord_18 : decode cX5_readRecord 18 = .ok (.iload 4, 2) := by decide +kernel
theorem dX5_readRecord_20 : decode cX5_readRecord 20 = .ok (.bipush 8, 2) := by decide +kernel
theorem dX5_readRecord_22 : decode cX5_readRecord 22 = .ok (.invokevirtual 258, 3) := by decide +kernel
theorem dX5_readRecord_25 : decode cX5_readRecord 25 = .ok (.aload_n 0, 1) := by decide +kernel
theorem dX5_readRecord_26 : decode cX5_readRecord 26 = .ok (.getfield 14, 3) := by decide +kernel
theorem dX5_readRecord_29 : decode cX5_readRecord 29 = .ok (.iload_n 1, 1) := by decide +kernel
theorem dX5_readRecord_30 : decode cX5_readRecord 30 = .ok (.iload 4, 2) := by decide +kernel
theorem dX5_readRecord_32 : decode cX5_readRecord 32 = .ok (.bipush 8, 2) := by decide +kernel
theorem dX5_readRecord_34 : decode cX5_readRecord 34 = .ok (.iadd, 1) := by decide +kernel
theorem dX5_readRecord_35 : decode cX5_readRecord 35 = .ok (.bipush 8, 2) := by decide +kernel
theorem dX5_readRecord_37 : decode cX5_readRecord 37 = .ok (.invokevirtual 258, 3) := by decide +kernel
theorem dX5_readRecord_40 : decode cX5_readRecord 40 = .ok (.iload_n 3, 1) := by decide +kernel
theorem dX5_readRecord_41 : decode cX5_readRecord 41 = .ok (.invokevirtual 73, 3) := by decide +kernel
theorem dX5_readRecord_44 : decode cX5_readRecord 44 = .ok (.return_, 1) := by decide +kernel
theorem dX5_replayLog_0 : decode cX5_replayLog 0 = .ok (.iconst 2, 1) := by decide +kernel
theorem dX5_replayLog_1 : decode cX5_replayLog 1 = .ok (.istore_n 1, 1) := by decide +kernel
theorem dX5_replayLog_2 : decode cX5_replayLog 2 = .ok (.iload_n 1, 1) := by decide +kernel
theorem dX5_replayLog_3 : decode cX5_replayLog 3 = .ok (.aload_n 0, 1) := by decide +kernel
theorem dX5_replayLog_4 : decode cX5_replayLog 4 = .ok (.getfield 14, 3) := by decide +kernel
theorem dX5_replayLog_7 : decode cX5_replayLog 7 = .ok (.getfield 173, 3) := by decide +kernel
theorem dX5_replayLog_10 : decode cX5_replayLog 10 = .ok (.if_icmp .ge 54, 3) := by decide +kernel
theorem dX5_replayLog_13 : decode cX5_replayLog 13 = .ok (.aload_n 0, 1) := by decide +kernel
theorem dX5_replayLog_14 : decode cX5_replayLog 14 = .ok (.getfield 21, 3) := by decide +kernel
theorem dX5_replayLog_17 : decode cX5_replayLog 17 = .ok (.iload_n 1, 1) := by decide +kernel
theorem dX5_replayLog_18 : decode cX5_replayLog 18 = .ok (.invokevirtual 164, 3) := by decide +kernel
theorem dX5_replayLog_21 : decode cX5_replayLog 21 = .ok (.ifCond .ne 37, 3) := by decide +kernel
theorem dX5_replayLog_24 : decode cX5_replayLog 24 = .ok (.aload_n 0, 1) := by decide +kernel
theorem dX5_replayLog_25 : decode cX5_replayLog 25 = .ok (.getfield 14, 3) := by decide +kernel
theorem dX5_replayLog_28 : decode cX5_replayLog 28 = .ok (.iload_n 1, 1) := by decide +kernel
theorem dX5_replayLog_29 : decode cX5_replayLog 29 = .ok (.invokevirtual 177, 3) := by decide +kernel
theorem dX5_replayLog_32 : decode cX5_replayLog 32 = .ok (.ifCond .eq 26, 3) := by decide +kernel
theorem dX5_replayLog_35 : decode cX5_replayLog 35 = .ok (.aload_n 0, 1) := by decide +kernel
theorem dX5_replayLog_36 : decode cX5_replayLog 36 = .ok (.getfield 14, 3) := by decide +kernel
theorem dX5_replayLog_39 : decode cX5_replayLog 39 = .ok (.iload_n 1, 1) := by decide +kernel
theorem dX5_replayLog_40 : decode cX5_replayLog 40 = .ok (.iconst 0, 1) := by decide +kernel
theorem dX5_replayLog_41 : decode cX5_replayLog 41 = .ok (.invokevirtual 167, 3) := by decide +kernel
theorem dX5_replayLog_44 : decode cX5_replayLog 44 = .ok (.iconst 1, 1) := by decide +kernel
theorem dX5_replayLog_45 : decode cX5_replayLog 45 = .ok (.if_icmp .ne 13, 3) := by decide +kernel
theorem dX5_replayLog_48 : decode cX5_replayLog 48 = .ok (.aload_n 0, 1) := by decide +kernel
theorem dX5_replayLog_49 : decode cX5_replayLog 49 = .ok (.getfield 21, 3) := by decide +kernel
theorem dX5_replayLog_52 : decode cX5_replayLog 52 = .ok (.iload_n 1, 1) := by decide +kernel
theorem dX5_replayLog_53 : decode cX5_replayLog 53 = .ok (.iconst 1, 1) := by decide +kernel
theorem dX5_replayLog_54 : decode cX5_replayLog 54 = .ok (.iconst 4, 1) := by decide +kernel
theorem dX5_replayLog_55 : decode cX5_replayLog 55 = .ok (.invokevirtual 225, 3) := by decide +kernel
theorem dX5_replayLog_58 : decode cX5_replayLog 58 = .ok (.iinc 1 1, 3) := by decide +kernel
theorem dX5_replayLog_61 : decode cX5_replayLog 61 = .ok (.goto (-59), 3) := by decide +kernel
theorem dX5_replayLog_64 : decode cX5_replayLog 64 = .ok (.aload_n 0, 1) := by decide +kernel
theorem dX5_replayLog_65 : decode cX5_replayLog 65 = .ok (.invokevirtual 268, 3) := by decide +kernel
theorem dX5_replayLog_68 : decode cX5_replayLog 68 = .ok (.istore_n 1, 1) := by decide +kernel
theorem dX5_replayLog_69 : decode cX5_replayLog 69 = .ok (.iconst 0, 1) := by decide +kernel
theorem dX5_replayLog_70 : decode cX5_replayLog 70 = .ok (.istore_n 2, 1) := by decide +kernel
theorem dX5_replayLog_71 : decode cX5_replayLog 71 = .ok (.iload_n 2, 1) := by decide +kernel
theorem dX5_replayLog_72 : decode cX5_replayLog 72 = .ok (.aload_n 0, 1) := by decide +kernel
theorem dX5_replayLog_73 : decode cX5_replayLog 73 = .ok (.getfield 14, 3) := by decide +kernel
theorem dX5_replayLog_76 : decode cX5_replayLog 76 = .ok (.getfield 173, 3) := by decide +kernel
theorem dX5_replayLog_79 : decode cX5_replayLog 79 = .ok (.if_icmp .ge 25, 3) := by decide +kernel
theorem dX5_replayLog_82 : decode cX5_replayLog 82 = .ok (.iload_n 1, 1) := by decide +kernel
theorem dX5_replayLog_83 : decode cX5_replayLog 83 = .ok (.bipush (-2), 2) := by decide +kernel
theorem dX5_replayLog_85 : decode cX5_replayLog 85 = .ok (.if_icmp .eq 19, 3) := by decide +kernel
theorem dX5_replayLog_88 : decode cX5_replayLog 88 = .ok (.aload_n 0, 1) := by decide +kernel
theorem dX5_replayLog_89 : decode cX5_replayLog 89 = .ok (.iload_n 1, 1) := by decide +kernel
theorem dX5_replayLog_90 : decode cX5_replayLog 90 = .ok (.invokevirtual 271, 3) := by decide +kernel
theorem dX5_replayLog_93 : decode cX5_replayLog 93 = .ok (.aload_n 0, 1) := by decide +kernel
theorem dX5_replayLog_94 : decode cX5_replayLog 94 = .ok (.invokevirtual 268, 3) := by decide +kernel
theorem dX5_replayLog_97 : decode cX5_replayLog 97 = .ok (.istore_n 1, 1) := by decide +kernel
theorem dX5_replayLog_98 : decode cX5_replayLog 98 = .ok (.iinc 2 1, 3) := by decide +kernel
theorem dX5_replayLog_101 : decode cX5_replayLog 101 = .ok (.goto (-30), 3) := by decide +kernel
theorem dX5_replayLog_104 : decode cX5_replayLog 104 = .ok (.aload_n 0, 1) := by decide +kernel
theorem dX5_replayLog_105 : decode cX5_replayLog 105 = .ok (.invokevirtual 274, 3) := by decide +kernel
theorem dX5_replayLog_108 : decode cX5_replayLog 108 = .ok (.return_, 1) := by decide +kernel
theorem dX5_nextLogBlock_0 : decode cX5_nextLogBlock 0 = .ok (.iconst 2, 1) := by decide +kernel
theorem dX5_nextLogBlock_1 : decode cX5_nextLogBlock 1 = .ok (.istore_n 1, 1) := by decide +kernel
theorem dX5_nextLogBlock_2 : decode cX5_nextLogBlock 2 = .ok (.iload_n 1, 1) := by decide +kernel
theorem dX5_nextLogBlock_3 : decode cX5_nextLogBlock 3 = .ok (.aload_n 0, 1) := by decide +kernel
theorem dX5_nextLogBlock_4 : decode cX5_nextLogBlock 4 = .ok (.getfield 14, 3) := by decide +kernel
theorem dX5_nextLogBlock_7 : decode cX5_nextLogBlock 7 = .ok (.getfield 173, 3) := by decide +kernel
theorem dX5_nextLogBlock_10 : decode cX5_nextLogBlock 10 = .ok (.if_icmp .ge 63, 3) := by decide +kernel
theorem dX5_nextLogBlock_13 : decode cX5_nextLogBlock 13 = .ok (.aload_n 0, 1) := by decide +kernel
theorem dX5_nextLogBlock_14 : decode cX5_nextLogBlock 14 = .ok (.getfield 14, 3) := by decide +kernel
theorem dX5_nextLogBlock_17 : decode cX5_nextLogBlock 17 = .ok (.iload_n 1, 1) := by decide +kernel
theorem dX5_nextLogBlock_18 : decode cX5_nextLogBlock 18 = .ok (.iconst 1, 1) := by decide +kernel
theorem dX5_nextLogBlock_19 : decode cX5_nextLogBlock 19 = .ok (.invokevirtual 167, 3) := by decide +kernel
theorem dX5_nextLogBlock_22 : decode cX5_nextLogBlock 22 = .ok (.istore_n 2, 1) := by decide +kernel
theorem dX5_nextLogBlock_23 : decode cX5_nextLogBlock 23 = .ok (.aload_n 0, 1) := by decide +kernel
theorem dX5_nextLogBlock_24 : decode cX5_nextLogBlock 24 = .ok (.getfield 21, 3) := by decide +kernel
theorem dX5_nextLogBlock_27 : decode cX5_nextLogBlock 27 = .ok (.iload_n 1, 1) := by decide +kernel
theorem dX5_nextLogBlock_28 : decode cX5_nextLogBlock 28 = .ok (.invokevirtual 164, 3) := by decide +kernel
theorem dX5_nextLogBlock_31 : decode cX5_nextLogBlock 31 = .ok (.iconst 4, 1) := by decide +kernel
theorem dX5_nextLogBlock_32 : decode cX5_nextLogBlock 32 = .ok (.if_icmp .ne 35, 3) := by decide +kernel
theorem dX5_nextLogBlock_35 : decode cX5_nextLogBlock 35 = .ok (.iload_n 2, 1) := by decide +kernel
theorem dX5_nextLogBlock_36 : decode cX5_nextLogBlock 36 = .ok (.iconst 1, 1) := by decide +kernel
theorem dX5_nextLogBlock_37 : decode cX5_nextLogBlock 37 = .ok (.if_icmp .lt 30, 3) := by decide +kernel
theorem dX5_nextLogBlock_40 : decode cX5_nextLogBlock 40 = .ok (.iload_n 2, 1) := by decide +kernel
theorem dX5_nextLogBlock_41 : decode cX5_nextLogBlock 41 = .ok (.iconst 3, 1) := by decide +kernel
theorem dX5_nextLogBlock_42 : decode cX5_nextLogBlock 42 = .ok (.if_icmp .gt 25, 3) := by decide +kernel
theorem dX5_nextLogBlock_45 : decode cX5_nextLogBlock 45 = .ok (.aload_n 0, 1) := by decide +kernel
theorem dX5_nextLogBlock_46 : decode cX5_nextLogBlock 46 = .ok (.getfield 14, 3) := by decide +kernel
theorem dX5_nextLogBlock_49 : decode cX5_nextLogBlock 49 = .ok (.iload_n 1, 1) := by decide +kernel
theorem dX5_nextLogBlock_50 : decode cX5_nextLogBlock 50 = .ok (.iconst 2, 1) := by decide +kernel
theorem dX5_nextLogBlock_51 : decode cX5_nextLogBlock 51 = .ok (.bipush 6, 2) := by decide +kernel
theorem dX5_nextLogBlock_53 : decode cX5_nextLogBlock 53 = .ok (.invokevirtual 258, 3) := by decide +kernel
theorem dX5_nextLogBlock_56 : decode cX5_nextLogBlock 56 = .ok (.aload_n 0, 1) := by decide +kernel
theorem dX5_nextLogBlock_57 : decode cX5_nextLogBlock 57 = .ok (.getfield 53, 3) := by decide +kernel
theorem dX5_nextLogBlock_60 : decode cX5_nextLogBlock 60 = .ok (.i2l, 1) := by decide +kernel
theorem dX5_nextLogBlock_61 : decode cX5_nextLogBlock 61 = .ok (.lcmp, 1) := by decide +kernel
theorem dX5_nextLogBlock_62 : decode cX5_nextLogBlock 62 = .ok (.ifCond .ne 5, 3) := by decide +kernel
theorem dX5_nextLogBlock_65 : decode cX5_nextLogBlock 65 = .ok (.iload_n 1, 1) := by decide +kernel
theorem dX5_nextLogBlock_66 : decode cX5_nextLogBlock 66 = .ok (.ireturn, 1) := by decide +kernel
theorem dX5_nextLogBlock_67 : decode cX5_nextLogBlock 67 = .ok (.iinc 1 1, 3) := by decide +kernel
theorem dX5_nextLogBlock_70 : decode cX5_nextLogBlock 70 = .ok (.goto (-68), 3) := by decide +kernel
theorem dX5_nextLogBlock_73 : decode cX5_nextLogBlock 73 = .ok (.bipush (-2), 2) := by decide +kernel
theorem dX5_nextLogBlock_75 : decode cX5_nextLogBlock 75 = .ok (.ireturn, 1) := by decide +kernel
theorem dX5_readLogBlock_0 : decode cX5_readLogBlock 0 = .ok (.aload_n 0, 1) := by decide +kernel
theorem dX5_readLogBlock_1 : decode cX5_readLogBlock 1 = .ok (.getfield 14, 3) := by decide +kernel
theorem dX5_readLogBlock_4 : decode cX5_readLogBlock 4 = .ok (.iload_n 1, 1) := by decide +kernel
theorem dX5_readLogBlock_5 : decode cX5_readLogBlock 5 = .ok (.iconst 1, 1) := by decide +kernel
theorem dX5_readLogBlock_6 : decode cX5_readLogBlock 6 = .ok (.invokevirtual 167, 3) := by decide +kernel
theorem dX5_readLogBlock_9 : decode cX5_readLogBlock 9 = .ok (.istore_n 2, 1) := by decide +kernel
theorem dX5_readLogBlock_10 : decode cX5_readLogBlock 10 = .ok (.iconst 0, 1) := by decide +kernel
theorem dX5_readLogBlock_11 : decode cX5_readLogBlock 11 = .ok (.istore_n 3, 1) := by decide +kernel
theorem dX5_readLogBlock_12 : decode cX5_readLogBlock 12 = .ok (.iload_n 3, 1) := by decide +kernel
theorem dX5_readLogBlock_13 : decode cX5_readLogBlock 13 = .ok (.iload_n 2, 1) := by decide +kernel
theorem dX5_readLogBlock_14 : decode cX5_readLogBlock 14 = .ok (.if_icmp .ge 21, 3) := by decide +kernel
theorem dX5_readLogBlock_17 : decode cX5_readLogBlock 17 = .ok (.aload_n 0, 1) := by decide +kernel
theorem dX5_readLogBlock_18 : decode cX5_readLogBlock 18 = .ok (.iload_n 1, 1) := by decide +kernel
theorem dX5_readLogBlock_19 : decode cX5_readLogBlock 19 = .ok (.iload_n 3, 1) := by decide +kernel
theorem dX5_readLogBlock_20 : decode cX5_readLogBlock 20 = .ok (.aload_n 0, 1) := by decide +kernel
theorem dX5_readLogBlock_21 : decode cX5_readLogBlock 21 = .ok (.getfield 53, 3) := by decide +kernel
theorem dX5_readLogBlock_24 : decode cX5_readLogBlock 24 = .ok (.iload_n 3, 1) := by decide +kernel
theorem dX5_readLogBlock_25 : decode cX5_readLogBlock 25 = .ok (.iadd, 1) := by decide +kernel
theorem dX5_readLogBlock_26 : decode cX5_readLogBlock 26 = .ok (.invokevirtual 262, 3) := by decide +kernel
theorem dX5_readLogBlock_29 : decode cX5_readLogBlock 29 = .ok (.iinc 3 1, 3) := by decide +kernel
theorem dX5_readLogBlock_32 : decode cX5_readLogBlock 32 = .ok (.goto (-20), 3) := by decide +kernel
theorem dX5_readLogBlock_35 : decode cX5_readLogBlock 35 = .ok (.aload_n 0, 1) := by decide +kernel
theorem dX5_readLogBlock_36 : decode cX5_readLogBlock 36 = .ok (.dup, 1) := by decide +kernel
theorem dX5_readLogBlock_37 : decode cX5_readLogBlock 37 = .ok (.getfield 53, 3) := by decide +kernel
theorem dX5_readLogBlock_40 : decode cX5_readLogBlock 40 = .ok (.iload_n 2, 1) := by decide +kernel
theorem dX5_readLogBlock_41 : decode cX5_readLogBlock 41 = .ok (.iadd, 1) := by decide +kernel
theorem dX5_readLogBlock_42 : decode cX5_readLogBlock 42 = .ok (.putfield 53, 3) := by decide +kernel
theorem dX5_readLogBlock_45 : decode cX5_readLogBlock 45 = .ok (.aload_n 0, 1) := by decide +kernel
theorem dX5_readLogBlock_46 : decode cX5_readLogBlock 46 = .ok (.getfield 21, 3) := by decide +kernel
theorem dX5_readLogBlock_49 : decode cX5_readLogBlock 49 = .ok (.iload_n 1, 1) := by decide +kernel
theorem dX5_readLogBlock_50 : decode cX5_readLogBlock 50 = .ok (.iconst 1, 1) := by decide +kernel
theorem dX5_readLogBlock_51 : decode cX5_readLogBlock 51 = .ok (.iconst 1, 1) := by decide +kernel
theorem dX5_readLogBlock_52 : decode cX5_readLogBlock 52 = .ok (.invokevirtual 225, 3) := by decide +kernel
theorem dX5_readLogBlock_55 : decode cX5_readLogBlock 55 = .ok (.return_, 1) := by decide +kernel
theorem dX5_wipeOldLog_0 : decode cX5_wipeOldLog 0 = .ok (.iconst 2, 1) := by decide +kernel
theorem dX5_wipeOldLog_1 : decode cX5_wipeOldLog 1 = .ok (.istore_n 1, 1) := by decide +kernel
theorem dX5_wipeOldLog_2 : decode cX5_wipeOldLog 2 = .ok (.iload_n 1, 1) := by decide +kernel
theorem dX5_wipeOldLog_3 : decode cX5_wipeOldLog 3 = .ok (.aload_n 0, 1) := by decide +kernel
theorem dX5_wipeOldLog_4 : decode cX5_wipeOldLog 4 = .ok (.getfield 14, 3) := by decide +kernel
theorem dX5_wipeOldLog_7 : decode cX5_wipeOldLog 7 = .ok (.getfield 173, 3) := by decide +kernel
theorem dX5_wipeOldLog_10 : decode cX5_wipeOldLog 10 = .ok (.if_icmp .ge 29, 3) := by decide +kernel
theorem dX5_wipeOldLog_13 : decode cX5_wipeOldLog 13 = .ok (.aload_n 0, 1) := by decide +kernel
theorem dX5_wipeOldLog_14 : decode cX5_wipeOldLog 14 = .ok (.getfield 21, 3) := by decide +kernel
theorem dX5_wipeOldLog_17 : decode cX5_wipeOldLog 17 = .ok (.iload_n 1, 1) := by decide +kernel
theorem dX5_wipeOldLog_18 : decode cX5_wipeOldLog 18 = .ok (.invokevirtual 164, 3) := by decide +kernel
theorem dX5_wipeOldLog_21 : decode cX5_wipeOldLog 21 = .ok (.iconst 4, 1) := by decide +kernel
theorem dX5_wipeOldLog_22 : decode cX5_wipeOldLog 22 = .ok (.if_icmp .ne 11, 3) := by decide +kernel
theorem dX5_wipeOldLog_25 : decode cX5_wipeOldLog 25 = .ok (.aload_n 0, 1) := by decide +kernel
theorem dX5_wipeOldLog_26 : decode cX5_wipeOldLog 26 = .ok (.getfield 14, 3) := by decide +kernel
theorem dX5_wipeOldLog_29 : decode cX5_wipeOldLog 29 = .ok (.iload_n 1, 1) := by decide +kernel
theorem dX5_wipeOldLog_30 : decode cX5_wipeOldLog 30 = .ok (.invokevirtual 277, 3) := by decide +kernel
theorem dX5_wipeOldLog_33 : decode cX5_wipeOldLog 33 = .ok (.iinc 1 1, 3) := by decide +kernel
theorem dX5_wipeOldLog_36 : decode cX5_wipeOldLog 36 = .ok (.goto (-34), 3) := by decide +kernel
theorem dX5_wipeOldLog_39 : decode cX5_wipeOldLog 39 = .ok (.aload_n 0, 1) := by decide +kernel
theorem dX5_wipeOldLog_40 : decode cX5_wipeOldLog 40 = .ok (.getfield 21, 3) := by decide +kernel
theorem dX5_wipeOldLog_43 : decode cX5_wipeOldLog 43 = .ok (.iconst 4, 1) := by decide +kernel
theorem dX5_wipeOldLog_44 : decode cX5_wipeOldLog 44 = .ok (.iconst 0, 1) := by decide +kernel
theorem dX5_wipeOldLog_45 : decode cX5_wipeOldLog 45 = .ok (.invokevirtual 244, 3) := by decide +kernel
theorem dX5_wipeOldLog_48 : decode cX5_wipeOldLog 48 = .ok (.return_, 1) := by decide +kernel
