theorem dX3_init_0 : decode cX3_init 0 = .ok (.aload_n 0, 1) := by decide +kernel
theorem dX3_init_1 : decode cX3_init 1 = .ok (.invokespecial 3, 3) := by decide +kernel
theorem dX3_init_4 : decode cX3_init 4 = .ok (.aload_n 0, 1) := by decide +kernel
theorem dX3_init_5 : decode cX3_init 5 = .ok (.sipush 192, 3) := by decide +kernel
theorem dX3_init_8 : decode cX3_init 8 = .ok (.newarray .long, 2) := by decide +kernel
theorem dX3_init_10 : decode cX3_init 10 = .ok (.putfield 9, 3) := by decide +kernel
theorem dX3_init_13 : decode cX3_init 13 = .ok (.aload_n 0, 1) := by decide +kernel
theorem dX3_init_14 : decode cX3_init 14 = .ok (.sipush 192, 3) := by decide +kernel
theorem dX3_init_17 : decode cX3_init 17 = .ok (.newarray .long, 2) := by decide +kernel
theorem dX3_init_19 : decode cX3_init 19 = .ok (.putfield 15, 3) := by decide +kernel
theorem dX3_init_22 : decode cX3_init 22 = .ok (.aload_n 0, 1) := by decide +kernel
theorem dX3_init_23 : decode cX3_init 23 = .ok (.sipush 192, 3) := by decide +kernel
theorem dX3_init_26 : decode cX3_init 26 = .ok (.newarray .int, 2) := by decide +kernel
theorem dX3_init_28 : decode cX3_init 28 = .ok (.putfield 18, 3) := by decide +kernel
theorem dX3_init_31 : decode cX3_init 31 = .ok (.return_, 1) := by decide +kernel
theorem dX3_clear_0 : decode cX3_clear 0 = .ok (.aload_n 0, 1) := by decide +kernel
theorem dX3_clear_1 : decode cX3_clear 1 = .ok (.iconst 0, 1) := by decide +kernel
theorem dX3_clear_2 : decode cX3_clear 2 = .ok (.putfield 22, 3) := by decide +kernel
theorem dX3_clear_5 : decode cX3_clear 5 = .ok (.return_, 1) := by decide +kernel
theorem dX3_has_0 : decode cX3_has 0 = .ok (.iload_n 1, 1) := by decide +kernel
theorem dX3_has_1 : decode cX3_has 1 = .ok (.ifCond .lt 22, 3) := by decide +kernel
theorem dX3_has_4 : decode cX3_has 4 = .ok (.iload_n 1, 1) := by decide +kernel
theorem dX3_has_5 : decode cX3_has 5 = .ok (.aload_n 0, 1) := by decide +kernel
theorem dX3_has_6 : decode cX3_has 6 = .ok (.getfield 22, 3) := by decide +kernel
theorem dX3_has_9 : decode cX3_has 9 = .ok (.if_icmp .ge 14, 3) := by decide +kernel
theorem dX3_has_12 : decode cX3_has 12 = .ok (.iload_n 1, 1) := by decide +kernel
theorem dX3_has_13 : decode cX3_has 13 = .ok (.sipush 192, 3) := by decide +kernel
theorem dX3_has_16 : decode cX3_has 16 = .ok (.if_icmp .ge 7, 3) := by decide +kernel
theorem dX3_has_19 : decode cX3_has 19 = .ok (.iconst 1, 1) := by decide +kernel
theorem dX3_has_20 : decode cX3_has 20 = .ok (.goto 4, 3) := by decide +kernel
theorem dX3_has_23 : decode cX3_has 23 = .ok (.iconst 0, 1) := by decide +kernel
theorem dX3_has_24 : decode cX3_has 24 = .ok (.ireturn, 1) := by decide +kernel
theorem dX3_key_0 : decode cX3_key 0 = .ok (.aload_n 0, 1) := by decide +kernel
theorem dX3_key_1 : decode cX3_key 1 = .ok (.iload_n 1, 1) := by decide +kernel
theorem dX3_key_2 : decode cX3_key 2 = .ok (.invokevirtual 26, 3) := by decide +kernel
theorem dX3_key_5 : decode cX3_key 5 = .ok (.ifCond .eq 12, 3) := by decide +kernel
theorem dX3_key_8 : decode cX3_key 8 = .ok (.aload_n 0, 1) := by decide +kernel
theorem dX3_key_9 : decode cX3_key 9 = .ok (.getfield 9, 3) := by decide +kernel
theorem dX3_key_12 : decode cX3_key 12 = .ok (.iload_n 1, 1) := by decide +kernel
theorem dX3_key_13 : decode cX3_key 13 = .ok (.laload, 1) := by decide +kernel
theorem dX3_key_14 : decode cX3_key 14 = .ok (.goto 4, 3) := by decide +kernel
theorem dX3_key_17 : decode cX3_key 17 = .ok (.lconst 0, 1) := by decide +kernel
theorem dX3_key_18 : decode cX3_key 18 = .ok (.lreturn, 1) := by decide +kernel
theorem dX3_value_0 : decode cX3_value 0 = .ok (.aload_n 0, 1) := by decide +kernel
theorem dX3_value_1 : decode cX3_value 1 = .ok (.iload_n 1, 1) := by decide +kernel
theorem dX3_value_2 : decode cX3_value 2 = .ok (.invokevirtual 26, 3) := by decide +kernel
theorem dX3_value_5 : decode cX3_value 5 = .ok (.ifCond .eq 12, 3) := by decide +kernel
theorem dX3_value_8 : decode cX3_value 8 = .ok (.aload_n 0, 1) := by decide +kernel
theorem dX3_value_9 : decode cX3_value 9 = .ok (.getfield 15, 3) := by decide +kernel
theorem dX3_value_12 : decode cX3_value 12 = .ok (.iload_n 1, 1) := by decide +kernel
theorem dX3_value_13 : decode cX3_value 13 = .ok (.laload, 1) := by decide +kernel
theorem dX3_value_14 : decode cX3_value 14 = .ok (.goto 4, 3) := by decide +kernel
theorem dX3_value_17 : decode cX3_value 17 = .ok (.lconst 0, 1) := by decide +kernel
theorem dX3_value_18 : decode cX3_value 18 = .ok (.lreturn, 1) := by decide +kernel
theorem dX3_sequence_0 : decode cX3_sequence 0 = .ok (.aload_n 0, 1) := by decide +kernel
theorem dX3_sequence_1 : decode cX3_sequence 1 = .ok (.iload_n 1, 1) := by decide +kernel
theorem dX3_sequence_2 : decode cX3_sequence 2 = .ok (.invokevirtual 26, 3) := by decide +kernel
theorem dX3_sequence_5 : decode cX3_sequence 5 = .ok (.ifCond .eq 12, 3) := by decide +kernel
theorem dX3_sequence_8 : decode cX3_sequence 8 = .ok (.aload_n 0, 1) := by decide +kernel
theorem dX3_sequence_9 : decode cX3_sequence 9 = .ok (.getfield 18, 3) := by decide +kernel
theorem dX3_sequence_12 : decode cX3_sequence 12 = .ok (.iload_n 1, 1) := by decide +kernel
theorem dX3_sequence_13 : decode cX3_sequence 13 = .ok (.iaload, 1) := by decide +kernel
theorem dX3_sequence_14 : decode cX3_sequence 14 = .ok (.goto 4, 3) := by decide +kernel
theorem dX3_sequence_17 : decode cX3_sequence 17 = .ok (.iconst 0, 1) := by decide +kernel
theorem dX3_sequence_18 : decode cX3_sequence 18 = .ok (.ireturn, 1) := by decide +kernel
theorem dX3_insert_0 : decode cX3_insert 0 = .ok (.aload_n 0, 1) := by decide +kernel
theorem dX3_insert_1 : decode cX3_insert 1 = .ok (.getfield 22, 3) := by decide +kernel
theorem dX3_insert_4 : decode cX3_insert 4 = .ok (.sipush 192, 3) := by decide +kernel
theorem dX3_insert_7 : decode cX3_insert 7 = .ok (.if_icmp .lt 4, 3) := by decide +kernel
theorem dX3_insert_10 : decode cX3_insert 10 = .ok (.return_, 1) := by decide +kernel
theorem dX3_insert_11 : decode cX3_insert 11 = .ok (.aload_n 0, 1) := by decide +kernel
theorem dX3_insert_12 : decode cX3_insert 12 = .ok (.lload_n 1, 1) := by decide +kernel
theorem dX3_insert_13 : decode cX3_insert 13 = .ok (.invokevirtual 30, 3) := by decide +kernel
theorem dX3_insert_16 : decode cX3_insert 16 = .ok (.istore 6, 2) := by decide +kernel
theorem dX3_insert_18 : decode cX3_insert 18 = .ok (.aload_n 0, 1) := by decide +kernel
theorem dX3_insert_19 : decode cX3_insert 19 = .ok (.getfield 22, 3) := by decide +kernel
theorem dX3_insert_22 : decode cX3_insert 22 = .ok (.istore 7, 2) := by decide +kernel
theorem dX3_insert_24 : decode cX3_insert 24 = .ok (.iload 7, 2) := by decide +kernel
theorem dX3_insert_26 : decode cX3_insert 26 = .ok (.iload 6, 2) := by decide +kernel
theorem dX3_insert_28 : decode cX3_insert 28 = .ok (.if_icmp .le 57, 3) := by decide +kernel
theorem dX3_insert_31 : decode cX3_insert 31 = .ok (.aload_n 0, 1) := by decide +kernel
theorem dX3_insert_32 : decode cX3_insert 32 = .ok (.getfield 9, 3) := by decide +kernel
theorem dX3_insert_35 : decode cX3_insert 35 = .ok (.iload 7, 2) := by decide +kernel
theorem dX3_insert_37 : decode cX3_insert 37 = .ok (.aload_n 0, 1) := by decide +kernel
theorem dX3_insert_38 : decode cX3_insert 38 = .ok (.getfield 9, 3) := by decide +kernel
theorem dX3_insert_41 : decode cX3_insert 41 = .ok (.iload 7, 2) := by decide +kernel
theorem dX3_insert_43 : decode cX3_insert 43 = .ok (.iconst 1, 1) := by decide +kernel
theorem dX3_insert_44 : decode cX3_insert 44 = .ok (.isub, 1) := by decide +kernel
theorem dX3_insert_45 : decode cX3_insert 45 = .ok (.laload, 1) := by decide +kernel
theorem dX3_insert_46 : decode cX3_insert 46 = .ok (.lastore, 1) := by decide +kernel
theorem dX3_insert_47 : decode cX3_insert 47 = .ok (.aload_n 0, 1) := by decide +kernel
theorem dX3_insert_48 : decode cX3_insert 48 = .ok (.getfield 15, 3) := by decide +kernel
theorem dX3_insert_51 : decode cX3_insert 51 = .ok (.iload 7, 2) := by decide +kernel
theorem dX3_insert_53 : decode cX3_insert 53 = .ok (.aload_n 0, 1) := by decide +kernel
theorem dX3_insert_54 : decode cX3_insert 54 = .ok (.getfield 15, 3) := by decide +kernel
theorem dX3_insert_57 : decode cX3_insert 57 = .ok (.iload 7, 2) := by decide +kernel
theorem dX3_insert_59 : decode cX3_insert 59 = .ok (.iconst 1, 1) := by decide +kernel
theorem dX3_insert_60 : decode cX3_insert 60 = .ok (.isub, 1) := by decide +kernel
theorem dX3_insert_61 : decode cX3_insert 61 = .ok (.laload, 1) := by decide +kernel
theorem dX3_insert_62 : decode cX3_insert 62 = .ok (.lastore, 1) := by decide +kernel
theorem dX3_insert_63 : decode cX3_insert 63 = .ok (.aload_n 0, 1) := by decide +kernel
theorem dX3_insert_64 : decode cX3_insert 64 = .ok (.getfield 18, 3) := by decide +kernel
theorem dX3_insert_67 : decode cX3_insert 67 = .ok (.iload 7, 2) := by decide +kernel
theorem dX3_insert_69 : decode cX3_insert 69 = .ok (.aload_n 0, 1) := by decide +kernel
theorem dX3_insert_70 : decode cX3_insert 70 = .ok (.getfield 18, 3) := by decide +kernel
theorem dX3_insert_73 : decode cX3_insert 73 = .ok (.iload 7, 2) := by decide +kernel
theorem dX3_insert_75 : decode cX3_insert 75 = .ok (.iconst 1, 1) := by decide +kernel
theorem dX3_insert_76 : decode cX3_insert 76 = .ok (.isub, 1) := by decide +kernel
theorem dX3_insert_77 : decode cX3_insert 77 = .ok (.iaload, 1) := by decide +kernel
theorem dX3_insert_78 : decode cX3_insert 78 = .ok (.iastore, 1) := by decide +kernel
theorem dX3_insert_79 : decode cX3_insert 79 = .ok (.iinc 7 (-1), 3) := by decide +kernel
theorem dX3_insert_82 : decode cX3_insert 82 = .ok (.goto (-58), 3) := by decide +kernel
theorem dX3_insert_85 : decode cX3_insert 85 = .ok (.aload_n 0, 1) := by decide +kernel
theorem dX3_insert_86 : decode cX3_insert 86 = .ok (.getfield 9, 3) := by decide +kernel
theorem dX3_insert_89 : decode cX3_insert 89 = .ok (.iload 6, 2) := by decide +kernel
theorem dX3_insert_91 : decode cX3_insert 91 = .ok (.lload_n 1, 1) := by decide +kernel
theorem dX3_insert_92 : decode cX3_insert 92 = .ok (.lastore, 1) := by decide +kernel
theorem dX3_insert_93 : decode cX3_insert 93 = .ok (.aload_n 0, 1) := by decide +kernel
theorem dX3_insert_94 : decode cX3_insert 94 = .ok (.getfield 15, 3) := by decide +kernel
theorem dX3_insert_97 : decode cX3_insert 97 = .ok (.iload 6, 2) := by decide +kernel
theorem dX3_insert_99 : decode cX3_insert 99 = .ok (.lload_n 3, 1) := by decide +kernel
theorem dX3_insert_100 : decode cX3_insert 100 = .ok (.lastore, 1) := by decide +kernel
theorem dX3_insert_101 : decode cX3_insert 101 = .ok (.aload_n 0, 1) := by decide +kernel
theorem dX3_insert_102 : decode cX3_insert 102 = .ok (.getfield 18, 3) := by decide +kernel
theorem dX3_insert_105 : decode cX3_insert 105 = .ok (.iload 6, 2) := by decide +kernel
theorem dX3_insert_107 : decode cX3_insert 107 = .ok (.iload 5, 2) := by decide +kernel
theorem dX3_insert_109 : decode cX3_insert 109 = .ok (.iastore, 1) := by decide +kernel
theorem dX3_insert_110 : decode cX3_insert 110 = .ok (.aload_n 0, 1) := by decide +kernel
theorem dX3_insert_111 : decode cX3_insert 111 = .ok (.dup, 1) := by decide +kernel
theorem dX3_insert_112 : decode cX3_insert 112 = .ok (.getfield 22, 3) := by decide +kernel
theorem dX3_insert_115 : decode cX3_insert 115 = .ok (.iconst 1, 1) := by decide +kernel
theorem dX3_insert_116 : decode cX3_insert 116 = .ok (.iadd, 1) := by decide +kernel
theorem dX3_insert_117 : decode cX3_insert 117 = .ok (.putfield 22, 3) := by decide +kernel
theorem dX3_insert_120 : decode cX3_insert 120 = .ok (.return_, 1) := by decide +kernel
theorem dX3_below_0 : decode cX3_below 0 = .ok (.iconst 0, 1) := by decide +kernel
theorem dX3_below_1 : decode cX3_below 1 = .ok (.istore_n 3, 1) := by decide +kernel
theorem dX3_below_2 : decode cX3_below 2 = .ok (.iconst 0, 1) := by decide +kernel
theorem dX3_below_3 : decode cX3_below 3 = .ok (.istore 4, 2) := by decide +kernel
theorem dX3_below_5 : decode cX3_below 5 = .ok (.iload 4, 2) := by decide +kernel
theorem dX3_below_7 : decode cX3_below 7 = .ok (.aload_n 0, 1) := by decide +kernel
theorem dX3_below_8 : decode cX3_below 8 = .ok (.getfield 22, 3) := by decide +kernel
theorem dX3_below_11 : decode cX3_below 11 = .ok (.if_icmp .ge 24, 3) := by decide +kernel
theorem dX3_below_14 : decode cX3_below 14 = .ok (.aload_n 0, 1) := by decide +kernel
theorem dX3_below_15 : decode cX3_below 15 = .ok (.getfield 9, 3) := by decide +kernel
theorem dX3_below_18 : decode cX3_below 18 = .ok (.iload 4, 2) := by decide +kernel
theorem dX3_below_20 : decode cX3_below 20 = .ok (.laload, 1) := by decide +kernel
theorem dX3_below_21 : decode cX3_below 21 = .ok (.lload_n 1, 1) := by decide +kernel
theorem dX3_below_22 : decode cX3_below 22 = .ok (.lcmp, 1) := by decide +kernel
theorem dX3_below_23 : decode cX3_below 23 = .ok (.ifCond .ge 12, 3) := by decide +kernel
theorem dX3_below_26 : decode cX3_below 26 = .ok (.iinc 3 1, 3) := by decide +kernel
theorem dX3_below_29 : decode cX3_below 29 = .ok (.iinc 4 1, 3) := by decide +kernel
theorem dX3_below_32 : decode cX3_below 32 = .ok (.goto (-27), 3) := by decide +kernel
theorem dX3_below_35 : decode cX3_below 35 = .ok (.iload_n 3, 1) := by decide +kernel
theorem dX3_below_36 : decode cX3_below 36 = .ok (.ireturn, 1) := by decide +kernel
theorem dX3_upTo_0 : decode cX3_upTo 0 = .ok (.iconst 0, 1) := by decide +kernel
theorem dX3_upTo_1 : decode cX3_upTo 1 = .ok (.istore_n 3, 1) := by decide +kernel
theorem dX3_upTo_2 : decode cX3_upTo 2 = .ok (.iconst 0, 1) := by decide +kernel
theorem dX3_upTo_3 : decode cX3_upTo 3 = .ok (.istore 4, 2) := by decide +kernel
theorem dX3_upTo_5 : decode cX3_upTo 5 = .ok (.iload 4, 2) := by decide +kernel
theorem dX3_upTo_7 : decode cX3_upTo 7 = .ok (.aload_n 0, 1) := by decide +kernel
theorem dX3_upTo_8 : decode cX3_upTo 8 = .ok (.getfield 22, 3) := by decide +kernel
theorem dX3_upTo_11 : decode cX3_upTo 11 = .ok (.if_icmp .ge 24, 3) := by decide +kernel
theorem dX3_upTo_14 : decode cX3_upTo 14 = .ok (.aload_n 0, 1) := by decide +kernel
theorem dX3_upTo_15 : decode cX3_upTo 15 = .ok (.getfield 9, 3) := by decide +kernel
theorem dX3_upTo_18 : decode cX3_upTo 18 = .ok (.iload 4, 2) := by decide +kernel
theorem dX3_upTo_20 : decode cX3_upTo 20 = .ok (.laload, 1) := by decide +kernel
theorem dX3_upTo_21 : decode cX3_upTo 21 = .ok (.lload_n 1, 1) := by decide +kernel
theorem dX3_upTo_22 : decode cX3_upTo 22 = .ok (.lcmp, 1) := by decide +kernel
theorem dX3_upTo_23 : decode cX3_upTo 23 = .ok (.ifCond .gt 12, 3) := by decide +kernel
theorem dX3_upTo_26 : decode cX3_upTo 26 = .ok (.iinc 3 1, 3) := by decide +kernel
theorem dX3_upTo_29 : decode cX3_upTo 29 = .ok (.iinc 4 1, 3) := by decide +kernel
theorem dX3_upTo_32 : decode cX3_upTo 32 = .ok (.goto (-27), 3) := by decide +kernel
theorem dX3_upTo_35 : decode cX3_upTo 35 = .ok (.iload_n 3, 1) := by decide +kernel
theorem dX3_upTo_36 : decode cX3_upTo 36 = .ok (.ireturn, 1) := by decide +kernel
theorem dX3_withSequence_0 : decode cX3_withSequence 0 = .ok (.iconst 0, 1) := by decide +kernel
theorem dX3_withSequence_1 : decode cX3_withSequence 1 = .ok (.istore_n 2, 1) := by decide +kernel
theorem dX3_withSequence_2 : decode cX3_withSequence 2 = .ok (.iload_n 2, 1) := by decide +kernel
theorem dX3_withSequence_3 : decode cX3_withSequence 3 = .ok (.aload_n 0, 1) := by decide +kernel
theorem dX3_withSequence_4 : decode cX3_withSequence 4 = .ok (.getfield 22, 3) := by decide +kernel
theorem dX3_withSequence_7 : decode cX3_withSequence 7 = .ok (.if_icmp .ge 21, 3) := by decide +kernel
theorem dX3_withSequence_10 : decode cX3_withSequence 10 = .ok (.aload_n 0, 1) := by decide +kernel
theorem dX3_withSequence_11 : decode cX3_withSequence 11 = .ok (.getfield 18, 3) := by decide +kernel
theorem dX3_withSequence_14 : decode cX3_withSequence 14 = .ok (.iload_n 2, 1) := by decide +kernel
theorem dX3_withSequence_15 : decode cX3_withSequence 15 = .ok (.iaload, 1) := by decide +kernel
theorem dX3_withSequence_16 : decode cX3_withSequence 16 = .ok (.iload_n 1, 1) := by decide +kernel
theorem dX3_withSequence_17 : decode cX3_withSequence 17 = .ok (.if_icmp .ne 5, 3) := by decide +kernel
theorem dX3_withSequence_20 : decode cX3_withSequence 20 = .ok (.iload_n 2, 1) := by decide +kernel
theorem dX3_withSequence_21 : decode cX3_withSequence 21 = .ok (.ireturn, 1) := by decide +kernel
theorem dX3_withSequence_22 : decode cX3_withSequence 22 = .ok (.iinc 2 1, 3) := by decide +kernel
theorem dX3_withSequence_25 : decode cX3_withSequence 25 = .ok (.goto (-23), 3) := by decide +kernel
theorem dX3_withSequence_28 : decode cX3_withSequence 28 = .ok (.bipush (-2), 2) := by decide +kernel
theorem dX3_withSequence_30 : decode cX3_withSequence 30 = .ok (.ireturn, 1) := by decide +kernel
theorem dX3_settle_0 : decode cX3_settle 0 = .ok (.iconst 0, 1) := by decide +kernel
theorem dX3_settle_1 : decode cX3_settle 1 = .ok (.istore_n 1, 1) := by decide +kernel
theorem dX3_settle_2 : decode cX3_settle 2 = .ok (.iload_n 1, 1) := by decide +kernel
theorem dX3_settle_3 : decode cX3_settle 3 = .ok (.aload_n 0, 1) := by decide +kernel
theorem dX3_settle_4 : decode cX3_settle 4 = .ok (.getfield 22, 3) := by decide +kernel
theorem dX3_settle_7 : decode cX3_settle 7 = .ok (.if_icmp .ge 16, 3) := by decide +kernel
theorem dX3_settle_10 : decode cX3_settle 10 = .ok (.aload_n 0, 1) := by decide +kernel
theorem dX3_settle_11 : decode cX3_settle 11 = .ok (.getfield 18, 3) := by decide +kernel
theorem dX3_settle_14 : decode cX3_settle 14 = .ok (.iload_n 1, 1) := by decide +kernel
theorem dX3_settle_15 : decode cX3_settle 15 = .ok (.iconst 0, 1) := by decide +kernel
theorem dX3_settle_16 : decode cX3_settle 16 = .ok (.iastore, 1) := by decide +kernel
theorem dX3_settle_17 : decode cX3_settle 17 = .ok (.iinc 1 1, 3) := by decide +kernel
theorem dX3_settle_20 : decode cX3_settle 20 = .ok (.goto (-18), 3) := by decide +kernel
theorem dX3_settle_23 : decode cX3_settle 23 = .ok (.return_, 1) := by decide +kernel
