theorem dX1_init_0 : decode cX1_init 0 = .ok (.aload_n 0, 1) := by decide +kernel
theorem dX1_init_1 : decode cX1_init 1 = .ok (.invokespecial 3, 3) := by decide +kernel
theorem dX1_init_4 : decode cX1_init 4 = .ok (.aload_n 0, 1) := by decide +kernel
theorem dX1_init_5 : decode cX1_init 5 = .ok (.bipush 20, 2) := by decide +kernel
theorem dX1_init_7 : decode cX1_init 7 = .ok (.newarray .int, 2) := by decide +kernel
theorem dX1_init_9 : decode cX1_init 9 = .ok (.putfield 9, 3) := by decide +kernel
theorem dX1_init_12 : decode cX1_init 12 = .ok (.aload_n 0, 1) := by decide +kernel
theorem dX1_init_13 : decode cX1_init 13 = .ok (.invokevirtual 15, 3) := by decide +kernel
theorem dX1_init_16 : decode cX1_init 16 = .ok (.return_, 1) := by decide +kernel
theorem dX1_clear_0 : decode cX1_clear 0 = .ok (.aload_n 0, 1) := by decide +kernel
theorem dX1_clear_1 : decode cX1_clear 1 = .ok (.iconst 0, 1) := by decide +kernel
theorem dX1_clear_2 : decode cX1_clear 2 = .ok (.putfield 18, 3) := by decide +kernel
theorem dX1_clear_5 : decode cX1_clear 5 = .ok (.aload_n 0, 1) := by decide +kernel
theorem dX1_clear_6 : decode cX1_clear 6 = .ok (.iconst 0, 1) := by decide +kernel
theorem dX1_clear_7 : decode cX1_clear 7 = .ok (.putfield 22, 3) := by decide +kernel
theorem dX1_clear_10 : decode cX1_clear 10 = .ok (.aload_n 0, 1) := by decide +kernel
theorem dX1_clear_11 : decode cX1_clear 11 = .ok (.iconst 1, 1) := by decide +kernel
theorem dX1_clear_12 : decode cX1_clear 12 = .ok (.putfield 25, 3) := by decide +kernel
theorem dX1_clear_15 : decode cX1_clear 15 = .ok (.return_, 1) := by decide +kernel
theorem dX1_fieldAt_0 : decode cX1_fieldAt 0 = .ok (.bipush 8, 2) := by decide +kernel
theorem dX1_fieldAt_2 : decode cX1_fieldAt 2 = .ok (.iconst 2, 1) := by decide +kernel
theorem dX1_fieldAt_3 : decode cX1_fieldAt 3 = .ok (.iload_n 0, 1) := by decide +kernel
theorem dX1_fieldAt_4 : decode cX1_fieldAt 4 = .ok (.iconst 4, 1) := by decide +kernel
theorem dX1_fieldAt_5 : decode cX1_fieldAt 5 = .ok (.imul, 1) := by decide +kernel
theorem dX1_fieldAt_6 : decode cX1_fieldAt 6 = .ok (.iload_n 1, 1) := by decide +kernel
theorem dX1_fieldAt_7 : decode cX1_fieldAt 7 = .ok (.iadd, 1) := by decide +kernel
theorem dX1_fieldAt_8 : decode cX1_fieldAt 8 = .ok (.imul, 1) := by decide +kernel
theorem dX1_fieldAt_9 : decode cX1_fieldAt 9 = .ok (.iadd, 1) := by decide +kernel
theorem dX1_fieldAt_10 : decode cX1_fieldAt 10 = .ok (.ireturn, 1) := by decide +kernel
theorem dX1_field_0 : decode cX1_field 0 = .ok (.iload_n 1, 1) := by decide +kernel
theorem dX1_field_1 : decode cX1_field 1 = .ok (.ifCond .lt 29, 3) := by decide +kernel
theorem dX1_field_4 : decode cX1_field 4 = .ok (.iload_n 1, 1) := by decide +kernel
theorem dX1_field_5 : decode cX1_field 5 = .ok (.aload_n 0, 1) := by decide +kernel
theorem dX1_field_6 : decode cX1_field 6 = .ok (.getfield 18, 3) := by decide +kernel
theorem dX1_field_9 : decode cX1_field 9 = .ok (.if_icmp .ge 21, 3) := by decide +kernel
theorem dX1_field_12 : decode cX1_field 12 = .ok (.iload_n 1, 1) := by decide +kernel
theorem dX1_field_13 : decode cX1_field 13 = .ok (.iconst 5, 1) := by decide +kernel
theorem dX1_field_14 : decode cX1_field 14 = .ok (.if_icmp .ge 16, 3) := by decide +kernel
theorem dX1_field_17 : decode cX1_field 17 = .ok (.iload_n 2, 1) := by decide +kernel
theorem dX1_field_18 : decode cX1_field 18 = .ok (.ifCond .lt 12, 3) := by decide +kernel
theorem dX1_field_21 : decode cX1_field 21 = .ok (.iload_n 2, 1) := by decide +kernel
theorem dX1_field_22 : decode cX1_field 22 = .ok (.iconst 4, 1) := by decide +kernel
theorem dX1_field_23 : decode cX1_field 23 = .ok (.if_icmp .ge 7, 3) := by decide +kernel
theorem dX1_field_26 : decode cX1_field 26 = .ok (.iconst 1, 1) := by decide +kernel
theorem dX1_field_27 : decode cX1_field 27 = .ok (.goto 4, 3) := by decide +kernel
theorem dX1_field_30 : decode cX1_field 30 = .ok (.iconst 0, 1) := by decide +kernel
theorem dX1_field_31 : decode cX1_field 31 = .ok (.istore_n 3, 1) := by decide +kernel
theorem dX1_field_32 : decode cX1_field 32 = .ok (.iload_n 3, 1) := by decide +kernel
theorem dX1_field_33 : decode cX1_field 33 = .ok (.ifCond .eq 16, 3) := by decide +kernel
theorem dX1_field_36 : decode cX1_field 36 = .ok (.aload_n 0, 1) := by decide +kernel
theorem dX1_field_37 : decode cX1_field 37 = .ok (.getfield 9, 3) := by decide +kernel
theorem dX1_field_40 : decode cX1_field 40 = .ok (.iload_n 1, 1) := by decide +kernel
theorem dX1_field_41 : decode cX1_field 41 = .ok (.iconst 4, 1) := by decide +kernel
theorem dX1_field_42 : decode cX1_field 42 = .ok (.imul, 1) := by decide +kernel
theorem dX1_field_43 : decode cX1_field 43 = .ok (.iload_n 2, 1) := by decide +kernel
theorem dX1_field_44 : decode cX1_field 44 = .ok (.iadd, 1) := by decide +kernel
theorem dX1_field_45 : decode cX1_field 45 = .ok (.iaload, 1) := by decide +kernel
theorem dX1_field_46 : decode cX1_field 46 = .ok (.goto 4, 3) := by decide +kernel
theorem dX1_field_49 : decode cX1_field 49 = .ok (.iconst 0, 1) := by decide +kernel
theorem dX1_field_50 : decode cX1_field 50 = .ok (.ireturn, 1) := by decide +kernel
theorem dX1_append_0 : decode cX1_append 0 = .ok (.aload_n 0, 1) := by decide +kernel
theorem dX1_append_1 : decode cX1_append 1 = .ok (.getfield 18, 3) := by decide +kernel
theorem dX1_append_4 : decode cX1_append 4 = .ok (.iconst 5, 1) := by decide +kernel
theorem dX1_append_5 : decode cX1_append 5 = .ok (.if_icmp .lt 4, 3) := by decide +kernel
theorem dX1_append_8 : decode cX1_append 8 = .ok (.return_, 1) := by decide +kernel
theorem dX1_append_9 : decode cX1_append 9 = .ok (.aload_n 0, 1) := by decide +kernel
theorem dX1_append_10 : decode cX1_append 10 = .ok (.getfield 18, 3) := by decide +kernel
theorem dX1_append_13 : decode cX1_append 13 = .ok (.iconst 4, 1) := by decide +kernel
theorem dX1_append_14 : decode cX1_append 14 = .ok (.imul, 1) := by decide +kernel
theorem dX1_append_15 : decode cX1_append 15 = .ok (.istore 5, 2) := by decide +kernel
theorem dX1_append_17 : decode cX1_append 17 = .ok (.aload_n 0, 1) := by decide +kernel
theorem dX1_append_18 : decode cX1_append 18 = .ok (.getfield 9, 3) := by decide +kernel
theorem dX1_append_21 : decode cX1_append 21 = .ok (.iload 5, 2) := by decide +kernel
theorem dX1_append_23 : decode cX1_append 23 = .ok (.iconst 0, 1) := by decide +kernel
theorem dX1_append_24 : decode cX1_append 24 = .ok (.iadd, 1) := by decide +kernel
theorem dX1_append_25 : decode cX1_append 25 = .ok (.iload_n 1, 1) := by decide +kernel
theorem dX1_append_26 : decode cX1_append 26 = .ok (.iastore, 1) := by decide +kernel
theorem dX1_append_27 : decode cX1_append 27 = .ok (.aload_n 0, 1) := by decide +kernel
theorem dX1_append_28 : decode cX1_append 28 = .ok (.getfield 9, 3) := by decide +kernel
theorem dX1_append_31 : decode cX1_append 31 = .ok (.iload 5, 2) := by decide +kernel
theorem dX1_append_33 : decode cX1_append 33 = .ok (.iconst 1, 1) := by decide +kernel
theorem dX1_append_34 : decode cX1_append 34 = .ok (.iadd, 1) := by decide +kernel
theorem dX1_append_35 : decode cX1_append 35 = .ok (.iload_n 2, 1) := by decide +kernel
theorem dX1_append_36 : decode cX1_append 36 = .ok (.iastore, 1) := by decide +kernel
theorem dX1_append_37 : decode cX1_append 37 = .ok (.aload_n 0, 1) := by decide +kernel
theorem dX1_append_38 : decode cX1_append 38 = .ok (.getfield 9, 3) := by decide +kernel
theorem dX1_append_41 : decode cX1_append 41 = .ok (.iload 5, 2) := by decide +kernel
theorem dX1_append_43 : decode cX1_append 43 = .ok (.iconst 2, 1) := by decide +kernel
theorem dX1_append_44 : decode cX1_append 44 = .ok (.iadd, 1) := by decide +kernel
theorem dX1_append_45 : decode cX1_append 45 = .ok (.iload_n 3, 1) := by decide +kernel
theorem dX1_append_46 : decode cX1_append 46 = .ok (.iastore, 1) := by decide +kernel
theorem dX1_append_47 : decode cX1_append 47 = .ok (.aload_n 0, 1) := by decide +kernel
theorem dX1_append_48 : decode cX1_append 48 = .ok (.getfield 9, 3) := by decide +kernel
theorem dX1_append_51 : decode cX1_append 51 = .ok (.iload 5, 2) := by decide +kernel
theorem dX1_append_53 : decode cX1_append 53 = .ok (.iconst 3, 1) := by decide +kernel
theorem dX1_append_54 : decode cX1_append 54 = .ok (.iadd, 1) := by decide +kernel
theorem dX1_append_55 : decode cX1_append 55 = .ok (.iload 4, 2) := by decide +kernel
theorem dX1_append_57 : decode cX1_append 57 = .ok (.iastore, 1) := by decide +kernel
theorem dX1_append_58 : decode cX1_append 58 = .ok (.aload_n 0, 1) := by decide +kernel
theorem dX1_append_59 : decode cX1_append 59 = .ok (.dup, 1) := by decide +kernel
theorem dX1_append_60 : decode cX1_append 60 = .ok (.getfield 18, 3) := by decide +kernel
theorem dX1_append_63 : decode cX1_append 63 = .ok (.iconst 1, 1) := by decide +kernel
theorem dX1_append_64 : decode cX1_append 64 = .ok (.iadd, 1) := by decide +kernel
theorem dX1_append_65 : decode cX1_append 65 = .ok (.putfield 18, 3) := by decide +kernel
theorem dX1_append_68 : decode cX1_append 68 = .ok (.return_, 1) := by decide +kernel
theorem dX1_appendAll_0 : decode cX1_appendAll 0 = .ok (.iconst 0, 1) := by decide +kernel
theorem dX1_appendAll_1 : decode cX1_appendAll 1 = .ok (.istore_n 2, 1) := by decide +kernel
theorem dX1_appendAll_2 : decode cX1_appendAll 2 = .ok (.iload_n 2, 1) := by decide +kernel
theorem dX1_appendAll_3 : decode cX1_appendAll 3 = .ok (.aload_n 1, 1) := by decide +kernel
theorem dX1_appendAll_4 : decode cX1_appendAll 4 = .ok (.getfield 18, 3) := by decide +kernel
theorem dX1_appendAll_7 : decode cX1_appendAll 7 = .ok (.if_icmp .ge 37, 3) := by decide +kernel
theorem dX1_appendAll_10 : decode cX1_appendAll 10 = .ok (.aload_n 0, 1) := by decide +kernel
theorem dX1_appendAll_11 : decode cX1_appendAll 11 = .ok (.aload_n 1, 1) := by decide +kernel
theorem dX1_appendAll_12 : decode cX1_appendAll 12 = .ok (.iload_n 2, 1) := by decide +kernel
theorem dX1_appendAll_13 : decode cX1_appendAll 13 = .ok (.iconst 0, 1) := by decide +kernel
theorem dX1_appendAll_14 : decode cX1_appendAll 14 = .ok (.invokevirtual 28, 3) := by decide +kernel
theorem dX1_appendAll_17 : decode cX1_appendAll 17 = .ok (.aload_n 1, 1) := by decide +kernel
theorem dX1_appendAll_18 : decode cX1_appendAll 18 = .ok (.iload_n 2, 1) := by decide +kernel
theorem dX1_appendAll_19 : decode cX1_appendAll 19 = .ok (.iconst 1, 1) := by decide +kernel
theorem dX1_appendAll_20 : decode cX1_appendAll 20 = .ok (.invokevirtual 28, 3) := by decide +kernel
theorem dX1_appendAll_23 : decode cX1_appendAll 23 = .ok (.aload_n 1, 1) := by decide +kernel
theorem dX1_appendAll_24 : decode cX1_appendAll 24 = .ok (.iload_n 2, 1) := by decide +kernel
theorem dX1_appendAll_25 : decode cX1_appendAll 25 = .ok (.iconst 2, 1) := by decide +kernel
theorem dX1_appendAll_26 : decode cX1_appendAll 26 = .ok (.invokevirtual 28, 3) := by decide +kernel
theorem dX1_appendAll_29 : decode cX1_appendAll 29 = .ok (.aload_n 1, 1) := by decide +kernel
theorem dX1_appendAll_30 : decode cX1_appendAll 30 = .ok (.iload_n 2, 1) := by decide +kernel
theorem dX1_appendAll_31 : decode cX1_appendAll 31 = .ok (.iconst 3, 1) := by decide +kernel
theorem dX1_appendAll_32 : decode cX1_appendAll 32 = .ok (.invokevirtual 28, 3) := by decide +kernel
theorem dX1_appendAll_35 : decode cX1_appendAll 35 = .ok (.invokevirtual 32, 3) := by decide +kernel
theorem dX1_appendAll_38 : decode cX1_appendAll 38 = .ok (.iinc 2 1, 3) := by decide +kernel
theorem dX1_appendAll_41 : decode cX1_appendAll 41 = .ok (.goto (-39), 3) := by decide +kernel
theorem dX1_appendAll_44 : decode cX1_appendAll 44 = .ok (.return_, 1) := by decide +kernel
theorem dX1_read_0 : decode cX1_read 0 = .ok (.aload_n 0, 1) := by decide +kernel
theorem dX1_read_1 : decode cX1_read 1 = .ok (.invokevirtual 15, 3) := by decide +kernel
theorem dX1_read_4 : decode cX1_read 4 = .ok (.aload_n 1, 1) := by decide +kernel
theorem dX1_read_5 : decode cX1_read 5 = .ok (.iload_n 2, 1) := by decide +kernel
theorem dX1_read_6 : decode cX1_read 6 = .ok (.invokevirtual 36, 3) := by decide +kernel
theorem dX1_read_9 : decode cX1_read 9 = .ok (.ifCond .eq 13, 3) := by decide +kernel
theorem dX1_read_12 : decode cX1_read 12 = .ok (.aload_n 1, 1) := by decide +kernel
theorem dX1_read_13 : decode cX1_read 13 = .ok (.iload_n 2, 1) := by decide +kernel
theorem dX1_read_14 : decode cX1_read 14 = .ok (.iconst 0, 1) := by decide +kernel
theorem dX1_read_15 : decode cX1_read 15 = .ok (.invokevirtual 42, 3) := by decide +kernel
theorem dX1_read_18 : decode cX1_read 18 = .ok (.iconst 3, 1) := by decide +kernel
theorem dX1_read_19 : decode cX1_read 19 = .ok (.if_icmp .eq 4, 3) := by decide +kernel
theorem dX1_read_22 : decode cX1_read 22 = .ok (.return_, 1) := by decide +kernel
theorem dX1_read_23 : decode cX1_read 23 = .ok (.aload_n 1, 1) := by decide +kernel
theorem dX1_read_24 : decode cX1_read 24 = .ok (.iload_n 2, 1) := by decide +kernel
theorem dX1_read_25 : decode cX1_read 25 = .ok (.iconst 2, 1) := by decide +kernel
theorem dX1_read_26 : decode cX1_read 26 = .ok (.bipush 6, 2) := by decide +kernel
theorem dX1_read_28 : decode cX1_read 28 = .ok (.invokevirtual 45, 3) := by decide +kernel
theorem dX1_read_31 : decode cX1_read 31 = .ok (.lstore_n 3, 1) := by decide +kernel
theorem dX1_read_32 : decode cX1_read 32 = .ok (.aload_n 1, 1) := by decide +kernel
theorem dX1_read_33 : decode cX1_read 33 = .ok (.iload_n 2, 1) := by decide +kernel
theorem dX1_read_34 : decode cX1_read 34 = .ok (.bipush 48, 2) := by decide +kernel
theorem dX1_read_36 : decode cX1_read 36 = .ok (.bipush 8, 2) := by decide +kernel
theorem dX1_read_38 : decode cX1_read 38 = .ok (.invokevirtual 45, 3) := by decide +kernel
theorem dX1_read_41 : decode cX1_read 41 = .ok (.lstore 5, 2) := by decide +kernel
theorem dX1_read_43 : decode cX1_read 43 = .ok (.lload_n 3, 1) := by decide +kernel
theorem dX1_read_44 : decode cX1_read 44 = .ok (.invokestatic 49, 3) := by decide +kernel
theorem dX1_read_47 : decode cX1_read 47 = .ok (.ifCond .eq 26, 3) := by decide +kernel
theorem dX1_read_50 : decode cX1_read 50 = .ok (.lload 5, 2) := by decide +kernel
theorem dX1_read_52 : decode cX1_read 52 = .ok (.invokestatic 49, 3) := by decide +kernel
theorem dX1_read_55 : decode cX1_read 55 = .ok (.ifCond .eq 18, 3) := by decide +kernel
theorem dX1_read_58 : decode cX1_read 58 = .ok (.lload_n 3, 1) := by decide +kernel
theorem dX1_read_59 : decode cX1_read 59 = .ok (.ldc2_w 53, 3) := by decide +kernel
theorem dX1_read_62 : decode cX1_read 62 = .ok (.lrem, 1) := by decide +kernel
theorem dX1_read_63 : decode cX1_read 63 = .ok (.iload_n 2, 1) := by decide +kernel
theorem dX1_read_64 : decode cX1_read 64 = .ok (.i2l, 1) := by decide +kernel
theorem dX1_read_65 : decode cX1_read 65 = .ok (.lcmp, 1) := by decide +kernel
theorem dX1_read_66 : decode cX1_read 66 = .ok (.ifCond .ne 7, 3) := by decide +kernel
theorem dX1_read_69 : decode cX1_read 69 = .ok (.iconst 1, 1) := by decide +kernel
theorem dX1_read_70 : decode cX1_read 70 = .ok (.goto 4, 3) := by decide +kernel
theorem dX1_read_73 : decode cX1_read 73 = .ok (.iconst 0, 1) := by decide +kernel
theorem dX1_read_74 : decode cX1_read 74 = .ok (.istore 7, 2) := by decide +kernel
theorem dX1_read_76 : decode cX1_read 76 = .ok (.iload 7, 2) := by decide +kernel
theorem dX1_read_78 : decode cX1_read 78 = .ok (.ifCond .eq 12, 3) := by decide +kernel
theorem dX1_read_81 : decode cX1_read 81 = .ok (.aload_n 0, 1) := by decide +kernel
theorem dX1_read_82 : decode cX1_read 82 = .ok (.aload_n 1, 1) := by decide +kernel
theorem dX1_read_83 : decode cX1_read 83 = .ok (.iload_n 2, 1) := by decide +kernel
theorem dX1_read_84 : decode cX1_read 84 = .ok (.invokevirtual 55, 3) := by decide +kernel
theorem dX1_read_87 : decode cX1_read 87 = .ok (.ifCond .ne 8, 3) := by decide +kernel
theorem dX1_read_90 : decode cX1_read 90 = .ok (.aload_n 0, 1) := by decide +kernel
theorem dX1_read_91 : decode cX1_read 91 = .ok (.invokevirtual 15, 3) := by decide +kernel
theorem dX1_read_94 : decode cX1_read 94 = .ok (.return_, 1) := by decide +kernel
theorem dX1_read_95 : decode cX1_read 95 = .ok (.aload_n 0, 1) := by decide +kernel
theorem dX1_read_96 : decode cX1_read 96 = .ok (.lload_n 3, 1) := by decide +kernel
theorem dX1_read_97 : decode cX1_read 97 = .ok (.l2i, 1) := by decide +kernel
theorem dX1_read_98 : decode cX1_read 98 = .ok (.putfield 22, 3) := by decide +kernel
theorem dX1_read_101 : decode cX1_read 101 = .ok (.aload_n 0, 1) := by decide +kernel
theorem dX1_read_102 : decode cX1_read 102 = .ok (.lload 5, 2) := by decide +kernel
theorem dX1_read_104 : decode cX1_read 104 = .ok (.l2i, 1) := by decide +kernel
theorem dX1_read_105 : decode cX1_read 105 = .ok (.putfield 25, 3) := by decide +kernel
theorem dX1_read_108 : decode cX1_read 108 = .ok (.return_, 1) := by decide +kernel
theorem dX1_inRange_0 : decode cX1_inRange 0 = .ok (.lload_n 0, 1) := by decide +kernel
theorem dX1_inRange_1 : decode cX1_inRange 1 = .ok (.lconst 1, 1) := by decide +kernel
theorem dX1_inRange_2 : decode cX1_inRange 2 = .ok (.lcmp, 1) := by decide +kernel
theorem dX1_inRange_3 : decode cX1_inRange 3 = .ok (.ifCond .lt 15, 3) := by decide +kernel
theorem dX1_inRange_6 : decode cX1_inRange 6 = .ok (.lload_n 0, 1) := by decide +kernel
theorem dX1_inRange_7 : decode cX1_inRange 7 = .ok (.ldc2_w 59, 3) := by decide +kernel
theorem dX1_inRange_10 : decode cX1_inRange 10 = .ok (.lcmp, 1) := by decide +kernel
theorem dX1_inRange_11 : decode cX1_inRange 11 = .ok (.ifCond .gt 7, 3) := by decide +kernel
theorem dX1_inRange_14 : decode cX1_inRange 14 = .ok (.iconst 1, 1) := by decide +kernel
theorem dX1_inRange_15 : decode cX1_inRange 15 = .ok (.goto 4, 3) := by decide +kernel
theorem dX1_inRange_18 : decode cX1_inRange 18 = .ok (.iconst 0, 1) := by decide +kernel
theorem dX1_inRange_19 : decode cX1_inRange 19 = .ok (.ireturn, 1) := by decide +kernel
theorem dX1_readFiles_0 : decode cX1_readFiles 0 = .ok (.aload_n 1, 1) := by decide +kernel
theorem dX1_readFiles_1 : decode cX1_readFiles 1 = .ok (.iload_n 2, 1) := by decide +kernel
theorem dX1_readFiles_2 : decode cX1_readFiles 2 = .ok (.iconst 1, 1) := by decide +kernel
theorem dX1_readFiles_3 : decode cX1_readFiles 3 = .ok (.invokevirtual 42, 3) := by decide +kernel
theorem dX1_readFiles_6 : decode cX1_readFiles 6 = .ok (.istore_n 3, 1) := by decide +kernel
theorem dX1_readFiles_7 : decode cX1_readFiles 7 = .ok (.iload_n 3, 1) := by decide +kernel
theorem dX1_readFiles_8 : decode cX1_readFiles 8 = .ok (.iconst 5, 1) := by decide +kernel
theorem dX1_readFiles_9 : decode cX1_readFiles 9 = .ok (.if_icmp .le 5, 3) := by decide +kernel
theorem dX1_readFiles_12 : decode cX1_readFiles 12 = .ok (.iconst 0, 1) := by decide +kernel
theorem dX1_readFiles_13 : decode cX1_readFiles 13 = .ok (.ireturn, 1) := by decide +kernel
theorem dX1_readFiles_14 : decode cX1_readFiles 14 = .ok (.iconst 0, 1) := by decide +kernel
theorem dX1_readFiles_15 : decode cX1_readFiles 15 = .ok (.istore 4, 2) := by decide +kernel
theorem dX1_readFiles_17 : decode cX1_readFiles 17 = .ok (.iload 4, 2) := by decide +kernel
theorem dX1_readFiles_19 : decode cX1_readFiles 19 = .ok (.iload_n 3, 1) := by decide +kernel
theorem dX1_readFiles_20 : decode cX1_readFiles 20 = .ok (.if_icmp .ge 124, 3) := by decide +kernel
theorem dX1_readFiles_23 : decode cX1_readFiles 23 = .ok (.aload_n 1, 1) := by decide +kernel
theorem dX1_readFiles_24 : decode cX1_readFiles 24 = .ok (.iload_n 2, 1) := by decide +kernel
theorem dX1_readFiles_25 : decode cX1_readFiles 25 = .ok (.iload 4, 2) := by decide +kernel
theorem dX1_readFiles_27 : decode cX1_readFiles 27 = .ok (.iconst 1, 1) := by decide +kernel
theorem dX1_readFiles_28 : decode cX1_readFiles 28 = .ok (.invokestatic 61, 3) := by decide +kernel
theorem dX1_readFiles_31 : decode cX1_readFiles 31 = .ok (.iconst 2, 1) := by decide +kernel
theorem dX1_readFiles_32 : decode cX1_readFiles 32 = .ok (.invokevirtual 45, 3) := by decide +kernel
theorem dX1_readFiles_35 : decode cX1_readFiles 35 = .ok (.l2i, 1) := by decide +kernel
theorem dX1_readFiles_36 : decode cX1_readFiles 36 = .ok (.istore 5, 2) := by decide +kernel
theorem dX1_readFiles_38 : decode cX1_readFiles 38 = .ok (.aload_n 1, 1) := by decide +kernel
theorem dX1_readFiles_39 : decode cX1_readFiles 39 = .ok (.iload_n 2, 1) := by decide +kernel
theorem dX1_readFiles_40 : decode cX1_readFiles 40 = .ok (.iload 4, 2) := by decide +kernel
theorem dX1_readFiles_42 : decode cX1_readFiles 42 = .ok (.iconst 2, 1) := by decide +kernel
theorem dX1_readFiles_43 : decode cX1_readFiles 43 = .ok (.invokestatic 61, 3) := by decide +kernel
theorem dX1_readFiles_46 : decode cX1_readFiles 46 = .ok (.iconst 2, 1) := by decide +kernel
theorem dX1_readFiles_47 : decode cX1_readFiles 47 = .ok (.invokevirtual 45, 3) := by decide +kernel
theorem dX1_readFiles_50 : decode cX1_readFiles 50 = .ok (.l2i, 1) := by decide +kernel
theorem dX1_readFiles_51 : decode cX1_readFiles 51 = .ok (.istore 6, 2) := by decide +kernel
theorem dX1_readFiles_53 : decode cX1_readFiles 53 = .ok (.aload_n 1, 1) := by decide +kernel
theorem dX1_readFiles_54 : decode cX1_readFiles 54 = .ok (.iload_n 2, 1) := by decide +kernel
theorem dX1_readFiles_55 : decode cX1_readFiles 55 = .ok (.iload 4, 2) := by decide +kernel
theorem dX1_readFiles_57 : decode cX1_readFiles 57 = .ok (.iconst 3, 1) := by decide +kernel
theorem dX1_readFiles_58 : decode cX1_readFiles 58 = .ok (.invokestatic 61, 3) := by decide +kernel
theorem dX1_readFiles_61 : decode cX1_readFiles 61 = .ok (.iconst 2, 1) := by decide +kernel
theorem dX1_readFiles_62 : decode cX1_readFiles 62 = .ok (.invokevirtual 45, 3) := by decide +kernel
theorem dX1_readFiles_65 : decode cX1_readFiles 65 = .ok (.l2i, 1) := by decide +kernel
theorem dX1_readFiles_66 : decode cX1_readFiles 66 = .ok (.istore 7, 2) := by decide +kernel
theorem dX1_readFiles_68 : decode cX1_readFiles 68 = .ok (.iload 5, 2) := by decide +kernel
theorem dX1_readFiles_70 : decode cX1_readFiles 70 = .ok (.iconst 2, 1) := by decide +kernel
theorem dX1_readFiles_71 : decode cX1_readFiles 71 = .ok (.if_icmp .lt 23, 3) := by decide +kernel
theorem dX1_readFiles_74 : decode cX1_readFiles 74 = .ok (.iload 6, 2) := by decide +kernel
theorem dX1_readFiles_76 : decode cX1_readFiles 76 = .ok (.iconst 1, 1) := by decide +kernel
theorem dX1_readFiles_77 : decode cX1_readFiles 77 = .ok (.if_icmp .lt 17, 3) := by decide +kernel
theorem dX1_readFiles_80 : decode cX1_readFiles 80 = .ok (.iload 7, 2) := by decide +kernel
theorem dX1_readFiles_82 : decode cX1_readFiles 82 = .ok (.invokestatic 64, 3) := by decide +kernel
theorem dX1_readFiles_85 : decode cX1_readFiles 85 = .ok (.iload 6, 2) := by decide +kernel
theorem dX1_readFiles_87 : decode cX1_readFiles 87 = .ok (.if_icmp .ne 7, 3) := by decide +kernel
theorem dX1_readFiles_90 : decode cX1_readFiles 90 = .ok (.iconst 1, 1) := by decide +kernel
theorem dX1_readFiles_91 : decode cX1_readFiles 91 = .ok (.goto 4, 3) := by decide +kernel
theorem dX1_readFiles_94 : decode cX1_readFiles 94 = .ok (.iconst 0, 1) := by decide +kernel
theorem dX1_readFiles_95 : decode cX1_readFiles 95 = .ok (.istore 8, 2) := by decide +kernel
theorem dX1_readFiles_97 : decode cX1_readFiles 97 = .ok (.iload 8, 2) := by decide +kernel
theorem dX1_readFiles_99 : decode cX1_readFiles 99 = .ok (.ifCond .eq 14, 3) := by decide +kernel
theorem dX1_readFiles_102 : decode cX1_readFiles 102 = .ok (.aload_n 0, 1) := by decide +kernel
theorem dX1_readFiles_103 : decode cX1_readFiles 103 = .ok (.iload 5, 2) := by decide +kernel
theorem dX1_readFiles_105 : decode cX1_readFiles 105 = .ok (.iload 6, 2) := by decide +kernel
theorem dX1_readFiles_107 : decode cX1_readFiles 107 = .ok (.invokevirtual 68, 3) := by decide +kernel
theorem dX1_readFiles_110 : decode cX1_readFiles 110 = .ok (.ifCond .eq 5, 3) := by decide +kernel
theorem dX1_readFiles_113 : decode cX1_readFiles 113 = .ok (.iconst 0, 1) := by decide +kernel
theorem dX1_readFiles_114 : decode cX1_readFiles 114 = .ok (.ireturn, 1) := by decide +kernel
theorem dX1_readFiles_115 : decode cX1_readFiles 115 = .ok (.aload_n 0, 1) := by decide +kernel
theorem dX1_readFiles_116 : decode cX1_readFiles 116 = .ok (.aload_n 1, 1) := by decide +kernel
theorem dX1_readFiles_117 : decode cX1_readFiles 117 = .ok (.iload_n 2, 1) := by decide +kernel
theorem dX1_readFiles_118 : decode cX1_readFiles 118 = .ok (.iload 4, 2) := by decide +kernel
theorem dX1_readFiles_120 : decode cX1_readFiles 120 = .ok (.iconst 0, 1) := by decide +kernel
theorem dX1_readFiles_121 : decode cX1_readFiles 121 = .ok (.invokestatic 61, 3) := by decide +kernel
theorem dX1_readFiles_124 : decode cX1_readFiles 124 = .ok (.iconst 2, 1) := by decide +kernel
theorem dX1_readFiles_125 : decode cX1_readFiles 125 = .ok (.invokevirtual 45, 3) := by decide +kernel
theorem dX1_readFiles_128 : decode cX1_readFiles 128 = .ok (.l2i, 1) := by decide +kernel
theorem dX1_readFiles_129 : decode cX1_readFiles 129 = .ok (.iload 5, 2) := by decide +kernel
theorem dX1_readFiles_131 : decode cX1_readFiles 131 = .ok (.iload 6, 2) := by decide +kernel
theorem dX1_readFiles_133 : decode cX1_readFiles 133 = .ok (.iload 7, 2) := by decide +kernel
theorem dX1_readFiles_135 : decode cX1_readFiles 135 = .ok (.invokevirtual 32, 3) := by decide +kernel
theorem dX1_readFiles_138 : decode cX1_readFiles 138 = .ok (.iinc 4 1, 3) := by decide +kernel
theorem dX1_readFiles_141 : decode cX1_readFiles 141 = .ok (.goto (-124), 3) := by decide +kernel
theorem dX1_readFiles_144 : decode cX1_readFiles 144 = .ok (.iconst 1, 1) := by decide +kernel
theorem dX1_readFiles_145 : decode cX1_readFiles 145 = .ok (.ireturn, 1) := by decide +kernel
theorem dX1_overlaps_0 : decode cX1_overlaps 0 = .ok (.iconst 0, 1) := by decide +kernel
theorem dX1_overlaps_1 : decode cX1_overlaps 1 = .ok (.istore_n 3, 1) := by decide +kernel
theorem dX1_overlaps_2 : decode cX1_overlaps 2 = .ok (.iload_n 3, 1) := by decide +kernel
theorem dX1_overlaps_3 : decode cX1_overlaps 3 = .ok (.aload_n 0, 1) := by decide +kernel
theorem dX1_overlaps_4 : decode cX1_overlaps 4 = .ok (.getfield 18, 3) := by decide +kernel
theorem dX1_overlaps_7 : decode cX1_overlaps 7 = .ok (.if_icmp .ge 40, 3) := by decide +kernel
theorem dX1_overlaps_10 : decode cX1_overlaps 10 = .ok (.iload_n 1, 1) := by decide +kernel
theorem dX1_overlaps_11 : decode cX1_overlaps 11 = .ok (.aload_n 0, 1) := by decide +kernel
theorem dX1_overlaps_12 : decode cX1_overlaps 12 = .ok (.iload_n 3, 1) := by decide +kernel
theorem dX1_overlaps_13 : decode cX1_overlaps 13 = .ok (.iconst 1, 1) := by decide +kernel
theorem dX1_overlaps_14 : decode cX1_overlaps 14 = .ok (.invokevirtual 28, 3) := by decide +kernel
theorem dX1_overlaps_17 : decode cX1_overlaps 17 = .ok (.aload_n 0, 1) := by decide +kernel
theorem dX1_overlaps_18 : decode cX1_overlaps 18 = .ok (.iload_n 3, 1) := by decide +kernel
theorem dX1_overlaps_19 : decode cX1_overlaps 19 = .ok (.iconst 2, 1) := by decide +kernel
theorem dX1_overlaps_20 : decode cX1_overlaps 20 = .ok (.invokevirtual 28, 3) := by decide +kernel
theorem dX1_overlaps_23 : decode cX1_overlaps 23 = .ok (.iadd, 1) := by decide +kernel
theorem dX1_overlaps_24 : decode cX1_overlaps 24 = .ok (.if_icmp .ge 17, 3) := by decide +kernel
theorem dX1_overlaps_27 : decode cX1_overlaps 27 = .ok (.aload_n 0, 1) := by decide +kernel
theorem dX1_overlaps_28 : decode cX1_overlaps 28 = .ok (.iload_n 3, 1) := by decide +kernel
theorem dX1_overlaps_29 : decode cX1_overlaps 29 = .ok (.iconst 1, 1) := by decide +kernel
theorem dX1_overlaps_30 : decode cX1_overlaps 30 = .ok (.invokevirtual 28, 3) := by decide +kernel
theorem dX1_overlaps_33 : decode cX1_overlaps 33 = .ok (.iload_n 1, 1) := by decide +kernel
theorem dX1_overlaps_34 : decode cX1_overlaps 34 = .ok (.iload_n 2, 1) := by decide +kernel
theorem dX1_overlaps_35 : decode cX1_overlaps 35 = .ok (.iadd, 1) := by decide +kernel
theorem dX1_overlaps_36 : decode cX1_overlaps 36 = .ok (.if_icmp .ge 5, 3) := by decide +kernel
theorem dX1_overlaps_39 : decode cX1_overlaps 39 = .ok (.iconst 1, 1) := by decide +kernel
theorem dX1_overlaps_40 : decode cX1_overlaps 40 = .ok (.ireturn, 1) := by decide +kernel
theorem dX1_overlaps_41 : decode cX1_overlaps 41 = .ok (.iinc 3 1, 3) := by decide +kernel
theorem dX1_overlaps_44 : decode cX1_overlaps 44 = .ok (.goto (-42), 3) := by decide +kernel
theorem dX1_overlaps_47 : decode cX1_overlaps 47 = .ok (.iconst 0, 1) := by decide +kernel
theorem dX1_overlaps_48 : decode cX1_overlaps 48 = .ok (.ireturn, 1) := by decide +kernel
