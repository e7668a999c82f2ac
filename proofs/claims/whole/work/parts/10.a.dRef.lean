theorem dX6_init_0 : decode cX6_init 0 = .ok (.aload_n 0, 1) := by decide +kernel
theorem dX6_init_1 : decode cX6_init 1 = .ok (.invokespecial 1, 3) := by decide +kernel
theorem dX6_init_4 : decode cX6_init 4 = .ok (.aload_n 0, 1) := by decide +kernel
theorem dX6_init_5 : decode cX6_init 5 = .ok (.sipush 4096, 3) := by decide +kernel
theorem dX6_init_8 : decode cX6_init 8 = .ok (.newarray .byte, 2) := by decide +kernel
theorem dX6_init_10 : decode cX6_init 10 = .ok (.putfield 7, 3) := by decide +kernel
theorem dX6_init_13 : decode cX6_init 13 = .ok (.aload_n 0, 1) := by decide +kernel
theorem dX6_init_14 : decode cX6_init 14 = .ok (.sipush 130, 3) := by decide +kernel
theorem dX6_init_17 : decode cX6_init 17 = .ok (.newarray .int, 2) := by decide +kernel
theorem dX6_init_19 : decode cX6_init 19 = .ok (.putfield 13, 3) := by decide +kernel
theorem dX6_init_22 : decode cX6_init 22 = .ok (.aload_n 0, 1) := by decide +kernel
theorem dX6_init_23 : decode cX6_init 23 = .ok (.sipush 8320, 3) := by decide +kernel
theorem dX6_init_26 : decode cX6_init 26 = .ok (.newarray .byte, 2) := by decide +kernel
theorem dX6_init_28 : decode cX6_init 28 = .ok (.putfield 17, 3) := by decide +kernel
theorem dX6_init_31 : decode cX6_init 31 = .ok (.aload_n 0, 1) := by decide +kernel
theorem dX6_init_32 : decode cX6_init 32 = .ok (.sipush 220, 3) := by decide +kernel
theorem dX6_init_35 : decode cX6_init 35 = .ok (.newarray .long, 2) := by decide +kernel
theorem dX6_init_37 : decode cX6_init 37 = .ok (.putfield 20, 3) := by decide +kernel
theorem dX6_init_40 : decode cX6_init 40 = .ok (.aload_n 0, 1) := by decide +kernel
theorem dX6_init_41 : decode cX6_init 41 = .ok (.sipush 220, 3) := by decide +kernel
theorem dX6_init_44 : decode cX6_init 44 = .ok (.newarray .long, 2) := by decide +kernel
theorem dX6_init_46 : decode cX6_init 46 = .ok (.putfield 24, 3) := by decide +kernel
theorem dX6_init_49 : decode cX6_init 49 = .ok (.aload_n 0, 1) := by decide +kernel
theorem dX6_init_50 : decode cX6_init 50 = .ok (.bipush 6, 2) := by decide +kernel
theorem dX6_init_52 : decode cX6_init 52 = .ok (.newarray .int, 2) := by decide +kernel
theorem dX6_init_54 : decode cX6_init 54 = .ok (.putfield 27, 3) := by decide +kernel
theorem dX6_init_57 : decode cX6_init 57 = .ok (.aload_n 0, 1) := by decide +kernel
theorem dX6_init_58 : decode cX6_init 58 = .ok (.bipush 6, 2) := by decide +kernel
theorem dX6_init_60 : decode cX6_init 60 = .ok (.newarray .int, 2) := by decide +kernel
theorem dX6_init_62 : decode cX6_init 62 = .ok (.putfield 30, 3) := by decide +kernel
theorem dX6_init_65 : decode cX6_init 65 = .ok (.aload_n 0, 1) := by decide +kernel
theorem dX6_init_66 : decode cX6_init 66 = .ok (.bipush 6, 2) := by decide +kernel
theorem dX6_init_68 : decode cX6_init 68 = .ok (.newarray .int, 2) := by decide +kernel
theorem dX6_init_70 : decode cX6_init 70 = .ok (.putfield 33, 3) := by decide +kernel
theorem dX6_init_73 : decode cX6_init 73 = .ok (.aload_n 0, 1) := by decide +kernel
theorem dX6_init_74 : decode cX6_init 74 = .ok (.bipush 6, 2) := by decide +kernel
theorem dX6_init_76 : decode cX6_init 76 = .ok (.newarray .int, 2) := by decide +kernel
theorem dX6_init_78 : decode cX6_init 78 = .ok (.putfield 36, 3) := by decide +kernel
theorem dX6_init_81 : decode cX6_init 81 = .ok (.aload_n 0, 1) := by decide +kernel
theorem dX6_init_82 : decode cX6_init 82 = .ok (.bipush 64, 2) := by decide +kernel
theorem dX6_init_84 : decode cX6_init 84 = .ok (.newarray .int, 2) := by decide +kernel
theorem dX6_init_86 : decode cX6_init 86 = .ok (.putfield 39, 3) := by decide +kernel
theorem dX6_init_89 : decode cX6_init 89 = .ok (.aload_n 0, 1) := by decide +kernel
theorem dX6_init_90 : decode cX6_init 90 = .ok (.bipush 64, 2) := by decide +kernel
theorem dX6_init_92 : decode cX6_init 92 = .ok (.newarray .int, 2) := by decide +kernel
theorem dX6_init_94 : decode cX6_init 94 = .ok (.putfield 42, 3) := by decide +kernel
theorem dX6_init_97 : decode cX6_init 97 = .ok (.aload_n 0, 1) := by decide +kernel
theorem dX6_init_98 : decode cX6_init 98 = .ok (.bipush 16, 2) := by decide +kernel
theorem dX6_init_100 : decode cX6_init 100 = .ok (.invokevirtual 45, 3) := by decide +kernel
theorem dX6_init_103 : decode cX6_init 103 = .ok (.pop, 1) := by decide +kernel
theorem dX6_init_104 : decode cX6_init 104 = .ok (.return_, 1) := by decide +kernel
theorem dX6_isIn_0 : decode cX6_isIn 0 = .ok (.lload_n 0, 1) := by decide +kernel
theorem dX6_isIn_1 : decode cX6_isIn 1 = .ok (.lload_n 2, 1) := by decide +kernel
theorem dX6_isIn_2 : decode cX6_isIn 2 = .ok (.lcmp, 1) := by decide +kernel
theorem dX6_isIn_3 : decode cX6_isIn 3 = .ok (.ifCond .lt 14, 3) := by decide +kernel
theorem dX6_isIn_6 : decode cX6_isIn 6 = .ok (.lload_n 0, 1) := by decide +kernel
theorem dX6_isIn_7 : decode cX6_isIn 7 = .ok (.lload 4, 2) := by decide +kernel
theorem dX6_isIn_9 : decode cX6_isIn 9 = .ok (.lcmp, 1) := by decide +kernel
theorem dX6_isIn_10 : decode cX6_isIn 10 = .ok (.ifCond .gt 7, 3) := by decide +kernel
theorem dX6_isIn_13 : decode cX6_isIn 13 = .ok (.iconst 1, 1) := by decide +kernel
theorem dX6_isIn_14 : decode cX6_isIn 14 = .ok (.goto 4, 3) := by decide +kernel
theorem dX6_isIn_17 : decode cX6_isIn 17 = .ok (.iconst 0, 1) := by decide +kernel
theorem dX6_isIn_18 : decode cX6_isIn 18 = .ok (.ireturn, 1) := by decide +kernel
theorem dX6_sumOf_0 : decode cX6_sumOf 0 = .ok (.iload_n 2, 1) := by decide +kernel
theorem dX6_sumOf_1 : decode cX6_sumOf 1 = .ok (.i2l, 1) := by decide +kernel
theorem dX6_sumOf_2 : decode cX6_sumOf 2 = .ok (.lstore_n 3, 1) := by decide +kernel
theorem dX6_sumOf_3 : decode cX6_sumOf 3 = .ok (.iconst 0, 1) := by decide +kernel
theorem dX6_sumOf_4 : decode cX6_sumOf 4 = .ok (.istore 5, 2) := by decide +kernel
theorem dX6_sumOf_6 : decode cX6_sumOf 6 = .ok (.iload 5, 2) := by decide +kernel
theorem dX6_sumOf_8 : decode cX6_sumOf 8 = .ok (.bipush 56, 2) := by decide +kernel
theorem dX6_sumOf_10 : decode cX6_sumOf 10 = .ok (.if_icmp .ge 37, 3) := by decide +kernel
theorem dX6_sumOf_13 : decode cX6_sumOf 13 = .ok (.lload_n 3, 1) := by decide +kernel
theorem dX6_sumOf_14 : decode cX6_sumOf 14 = .ok (.aload_n 0, 1) := by decide +kernel
theorem dX6_sumOf_15 : decode cX6_sumOf 15 = .ok (.iload_n 1, 1) := by decide +kernel
theorem dX6_sumOf_16 : decode cX6_sumOf 16 = .ok (.iload 5, 2) := by decide +kernel
theorem dX6_sumOf_18 : decode cX6_sumOf 18 = .ok (.iadd, 1) := by decide +kernel
theorem dX6_sumOf_19 : decode cX6_sumOf 19 = .ok (.baload, 1) := by decide +kernel
theorem dX6_sumOf_20 : decode cX6_sumOf 20 = .ok (.sipush 255, 3) := by decide +kernel
theorem dX6_sumOf_23 : decode cX6_sumOf 23 = .ok (.iand, 1) := by decide +kernel
theorem dX6_sumOf_24 : decode cX6_sumOf 24 = .ok (.i2l, 1) := by decide +kernel
theorem dX6_sumOf_25 : decode cX6_sumOf 25 = .ok (.lxor, 1) := by decide +kernel
theorem dX6_sumOf_26 : decode cX6_sumOf 26 = .ok (.lstore_n 3, 1) := by decide +kernel
theorem dX6_sumOf_27 : decode cX6_sumOf 27 = .ok (.lload_n 3, 1) := by decide +kernel
theorem dX6_sumOf_28 : decode cX6_sumOf 28 = .ok (.bipush 11, 2) := by decide +kernel
theorem dX6_sumOf_30 : decode cX6_sumOf 30 = .ok (.lshl, 1) := by decide +kernel
theorem dX6_sumOf_31 : decode cX6_sumOf 31 = .ok (.lload_n 3, 1) := by decide +kernel
theorem dX6_sumOf_32 : decode cX6_sumOf 32 = .ok (.bipush 53, 2) := by decide +kernel
theorem dX6_sumOf_34 : decode cX6_sumOf 34 = .ok (.lushr, 1) := by decide +kernel
theorem dX6_sumOf_35 : decode cX6_sumOf 35 = .ok (.lor, 1) := by decide +kernel
theorem dX6_sumOf_36 : decode cX6_sumOf 36 = .ok (.ldc2_w 49, 3) := by decide +kernel
theorem dX6_sumOf_39 : decode cX6_sumOf 39 = .ok (.lmul, 1) := by decide +kernel
theorem dX6_sumOf_40 : decode cX6_sumOf 40 = .ok (.lstore_n 3, 1) := by decide +kernel
theorem dX6_sumOf_41 : decode cX6_sumOf 41 = .ok (.iinc 5 1, 3) := by decide +kernel
theorem dX6_sumOf_44 : decode cX6_sumOf 44 = .ok (.goto (-38), 3) := by decide +kernel
theorem dX6_sumOf_47 : decode cX6_sumOf 47 = .ok (.lload_n 3, 1) := by decide +kernel
theorem dX6_sumOf_48 : decode cX6_sumOf 48 = .ok (.lreturn, 1) := by decide +kernel
theorem dX6_number_0 : decode cX6_number 0 = .ok (.lconst 0, 1) := by decide +kernel
theorem dX6_number_1 : decode cX6_number 1 = .ok (.lstore_n 3, 1) := by decide +kernel
theorem dX6_number_2 : decode cX6_number 2 = .ok (.iload_n 2, 1) := by decide +kernel
theorem dX6_number_3 : decode cX6_number 3 = .ok (.iconst 1, 1) := by decide +kernel
theorem dX6_number_4 : decode cX6_number 4 = .ok (.isub, 1) := by decide +kernel
theorem dX6_number_5 : decode cX6_number 5 = .ok (.istore 5, 2) := by decide +kernel
theorem dX6_number_7 : decode cX6_number 7 = .ok (.iload 5, 2) := by decide +kernel
theorem dX6_number_9 : decode cX6_number 9 = .ok (.ifCond .lt 26, 3) := by decide +kernel
theorem dX6_number_12 : decode cX6_number 12 = .ok (.lload_n 3, 1) := by decide +kernel
theorem dX6_number_13 : decode cX6_number 13 = .ok (.bipush 8, 2) := by decide +kernel
theorem dX6_number_15 : decode cX6_number 15 = .ok (.lshl, 1) := by decide +kernel
theorem dX6_number_16 : decode cX6_number 16 = .ok (.aload_n 0, 1) := by decide +kernel
theorem dX6_number_17 : decode cX6_number 17 = .ok (.iload_n 1, 1) := by decide +kernel
theorem dX6_number_18 : decode cX6_number 18 = .ok (.iload 5, 2) := by decide +kernel
theorem dX6_number_20 : decode cX6_number 20 = .ok (.iadd, 1) := by decide +kernel
theorem dX6_number_21 : decode cX6_number 21 = .ok (.baload, 1) := by decide +kernel
theorem dX6_number_22 : decode cX6_number 22 = .ok (.sipush 255, 3) := by decide +kernel
theorem dX6_number_25 : decode cX6_number 25 = .ok (.iand, 1) := by decide +kernel
theorem dX6_number_26 : decode cX6_number 26 = .ok (.i2l, 1) := by decide +kernel
theorem dX6_number_27 : decode cX6_number 27 = .ok (.lor, 1) := by decide +kernel
theorem dX6_number_28 : decode cX6_number 28 = .ok (.lstore_n 3, 1) := by decide +kernel
theorem dX6_number_29 : decode cX6_number 29 = .ok (.iinc 5 (-1), 3) := by decide +kernel
theorem dX6_number_32 : decode cX6_number 32 = .ok (.goto (-25), 3) := by decide +kernel
theorem dX6_number_35 : decode cX6_number 35 = .ok (.lload_n 3, 1) := by decide +kernel
theorem dX6_number_36 : decode cX6_number 36 = .ok (.lreturn, 1) := by decide +kernel
theorem dX6_isWhole_0 : decode cX6_isWhole 0 = .ok (.aload_n 0, 1) := by decide +kernel
theorem dX6_isWhole_1 : decode cX6_isWhole 1 = .ok (.getfield 7, 3) := by decide +kernel
theorem dX6_isWhole_4 : decode cX6_isWhole 4 = .ok (.bipush 64, 2) := by decide +kernel
theorem dX6_isWhole_6 : decode cX6_isWhole 6 = .ok (.iload_n 1, 1) := by decide +kernel
theorem dX6_isWhole_7 : decode cX6_isWhole 7 = .ok (.imul, 1) := by decide +kernel
theorem dX6_isWhole_8 : decode cX6_isWhole 8 = .ok (.bipush 56, 2) := by decide +kernel
theorem dX6_isWhole_10 : decode cX6_isWhole 10 = .ok (.iadd, 1) := by decide +kernel
theorem dX6_isWhole_11 : decode cX6_isWhole 11 = .ok (.bipush 8, 2) := by decide +kernel
theorem dX6_isWhole_13 : decode cX6_isWhole 13 = .ok (.invokestatic 51, 3) := by decide +kernel
theorem dX6_isWhole_16 : decode cX6_isWhole 16 = .ok (.aload_n 0, 1) := by decide +kernel
theorem dX6_isWhole_17 : decode cX6_isWhole 17 = .ok (.getfield 7, 3) := by decide +kernel
theorem dX6_isWhole_20 : decode cX6_isWhole 20 = .ok (.bipush 64, 2) := by decide +kernel
theorem dX6_isWhole_22 : decode cX6_isWhole 22 = .ok (.iload_n 1, 1) := by decide +kernel
theorem dX6_isWhole_23 : decode cX6_isWhole 23 = .ok (.imul, 1) := by decide +kernel
theorem dX6_isWhole_24 : decode cX6_isWhole 24 = .ok (.iload_n 1, 1) := by decide +kernel
theorem dX6_isWhole_25 : decode cX6_isWhole 25 = .ok (.invokestatic 55, 3) := by decide +kernel
theorem dX6_isWhole_28 : decode cX6_isWhole 28 = .ok (.lcmp, 1) := by decide +kernel
theorem dX6_isWhole_29 : decode cX6_isWhole 29 = .ok (.ifCond .ne 7, 3) := by decide +kernel
theorem dX6_isWhole_32 : decode cX6_isWhole 32 = .ok (.iconst 1, 1) := by decide +kernel
theorem dX6_isWhole_33 : decode cX6_isWhole 33 = .ok (.goto 4, 3) := by decide +kernel
theorem dX6_isWhole_36 : decode cX6_isWhole 36 = .ok (.iconst 0, 1) := by decide +kernel
theorem dX6_isWhole_37 : decode cX6_isWhole 37 = .ok (.ireturn, 1) := by decide +kernel
theorem dX6_begin_0 : decode cX6_begin 0 = .ok (.aload_n 0, 1) := by decide +kernel
theorem dX6_begin_1 : decode cX6_begin 1 = .ok (.getfield 13, 3) := by decide +kernel
theorem dX6_begin_4 : decode cX6_begin 4 = .ok (.aload_n 0, 1) := by decide +kernel
theorem dX6_begin_5 : decode cX6_begin 5 = .ok (.getfield 58, 3) := by decide +kernel
theorem dX6_begin_8 : decode cX6_begin 8 = .ok (.iload_n 1, 1) := by decide +kernel
theorem dX6_begin_9 : decode cX6_begin 9 = .ok (.iastore, 1) := by decide +kernel
theorem dX6_begin_10 : decode cX6_begin 10 = .ok (.aload_n 0, 1) := by decide +kernel
theorem dX6_begin_11 : decode cX6_begin 11 = .ok (.bipush 64, 2) := by decide +kernel
theorem dX6_begin_13 : decode cX6_begin 13 = .ok (.aload_n 0, 1) := by decide +kernel
theorem dX6_begin_14 : decode cX6_begin 14 = .ok (.dup, 1) := by decide +kernel
theorem dX6_begin_15 : decode cX6_begin 15 = .ok (.getfield 58, 3) := by decide +kernel
theorem dX6_begin_18 : decode cX6_begin 18 = .ok (.dup_x1, 1) := by decide +kernel
theorem dX6_begin_19 : decode cX6_begin 19 = .ok (.iconst 1, 1) := by decide +kernel
theorem dX6_begin_20 : decode cX6_begin 20 = .ok (.iadd, 1) := by decide +kernel
theorem dX6_begin_21 : decode cX6_begin 21 = .ok (.putfield 58, 3) := by decide +kernel
theorem dX6_begin_24 : decode cX6_begin 24 = .ok (.imul, 1) := by decide +kernel
theorem dX6_begin_25 : decode cX6_begin 25 = .ok (.putfield 62, 3) := by decide +kernel
theorem dX6_begin_28 : decode cX6_begin 28 = .ok (.iconst 0, 1) := by decide +kernel
theorem dX6_begin_29 : decode cX6_begin 29 = .ok (.istore_n 2, 1) := by decide +kernel
theorem dX6_begin_30 : decode cX6_begin 30 = .ok (.iload_n 2, 1) := by decide +kernel
theorem dX6_begin_31 : decode cX6_begin 31 = .ok (.bipush 64, 2) := by decide +kernel
theorem dX6_begin_33 : decode cX6_begin 33 = .ok (.if_icmp .ge 21, 3) := by decide +kernel
theorem dX6_begin_36 : decode cX6_begin 36 = .ok (.aload_n 0, 1) := by decide +kernel
theorem dX6_begin_37 : decode cX6_begin 37 = .ok (.getfield 17, 3) := by decide +kernel
theorem dX6_begin_40 : decode cX6_begin 40 = .ok (.aload_n 0, 1) := by decide +kernel
theorem dX6_begin_41 : decode cX6_begin 41 = .ok (.getfield 62, 3) := by decide +kernel
theorem dX6_begin_44 : decode cX6_begin 44 = .ok (.iload_n 2, 1) := by decide +kernel
theorem dX6_begin_45 : decode cX6_begin 45 = .ok (.iadd, 1) := by decide +kernel
theorem dX6_begin_46 : decode cX6_begin 46 = .ok (.iconst 0, 1) := by decide +kernel
theorem dX6_begin_47 : decode cX6_begin 47 = .ok (.bastore, 1) := by decide +kernel
theorem dX6_begin_48 : decode cX6_begin 48 = .ok (.iinc 2 1, 3) := by decide +kernel
theorem dX6_begin_51 : decode cX6_begin 51 = .ok (.goto (-21), 3) := by decide +kernel
theorem dX6_begin_54 : decode cX6_begin 54 = .ok (.return_, 1) := by decide +kernel
theorem dX6_put_0 : decode cX6_put 0 = .ok (.iconst 0, 1) := by decide +kernel
theorem dX6_put_1 : decode cX6_put 1 = .ok (.istore 5, 2) := by decide +kernel
theorem dX6_put_3 : decode cX6_put 3 = .ok (.iload 5, 2) := by decide +kernel
theorem dX6_put_5 : decode cX6_put 5 = .ok (.iload 4, 2) := by decide +kernel
theorem dX6_put_7 : decode cX6_put 7 = .ok (.if_icmp .ge 32, 3) := by decide +kernel
theorem dX6_put_10 : decode cX6_put 10 = .ok (.aload_n 0, 1) := by decide +kernel
theorem dX6_put_11 : decode cX6_put 11 = .ok (.getfield 17, 3) := by decide +kernel
theorem dX6_put_14 : decode cX6_put 14 = .ok (.aload_n 0, 1) := by decide +kernel
theorem dX6_put_15 : decode cX6_put 15 = .ok (.getfield 62, 3) := by decide +kernel
theorem dX6_put_18 : decode cX6_put 18 = .ok (.iload_n 1, 1) := by decide +kernel
theorem dX6_put_19 : decode cX6_put 19 = .ok (.iadd, 1) := by decide +kernel
theorem dX6_put_20 : decode cX6_put 20 = .ok (.iload 5, 2) := by decide +kernel
theorem dX6_put_22 : decode cX6_put 22 = .ok (.iadd, 1) := by decide +kernel
theorem dX6_put_23 : decode cX6_put 23 = .ok (.lload_n 2, 1) := by decide +kernel
theorem dX6_put_24 : decode cX6_put 24 = .ok (.bipush 8, 2) := by decide +kernel
theorem dX6_put_26 : decode cX6_put 26 = .ok (.iload 5, 2) := by decide +kernel
theorem dX6_put_28 : decode cX6_put 28 = .ok (.imul, 1) := by decide +kernel
theorem dX6_put_29 : decode cX6_put 29 = .ok (.lshr, 1) := by decide +kernel
theorem dX6_put_30 : decode cX6_put 30 = .ok (.l2i, 1) := by decide +kernel
theorem dX6_put_31 : decode cX6_put 31 = .ok (.i2b, 1) := by decide +kernel
theorem dX6_put_32 : decode cX6_put 32 = .ok (.bastore, 1) := by decide +kernel
theorem dX6_put_33 : decode cX6_put 33 = .ok (.iinc 5 1, 3) := by decide +kernel
theorem dX6_put_36 : decode cX6_put 36 = .ok (.goto (-33), 3) := by decide +kernel
theorem dX6_put_39 : decode cX6_put 39 = .ok (.return_, 1) := by decide +kernel
theorem dX6_end_0 : decode cX6_end 0 = .ok (.aload_n 0, 1) := by decide +kernel
theorem dX6_end_1 : decode cX6_end 1 = .ok (.bipush 56, 2) := by decide +kernel
theorem dX6_end_3 : decode cX6_end 3 = .ok (.aload_n 0, 1) := by decide +kernel
theorem dX6_end_4 : decode cX6_end 4 = .ok (.getfield 17, 3) := by decide +kernel
theorem dX6_end_7 : decode cX6_end 7 = .ok (.aload_n 0, 1) := by decide +kernel
theorem dX6_end_8 : decode cX6_end 8 = .ok (.getfield 62, 3) := by decide +kernel
theorem dX6_end_11 : decode cX6_end 11 = .ok (.aload_n 0, 1) := by decide +kernel
theorem dX6_end_12 : decode cX6_end 12 = .ok (.getfield 13, 3) := by decide +kernel
theorem dX6_end_15 : decode cX6_end 15 = .ok (.aload_n 0, 1) := by decide +kernel
theorem dX6_end_16 : decode cX6_end 16 = .ok (.getfield 58, 3) := by decide +kernel
theorem dX6_end_19 : decode cX6_end 19 = .ok (.iconst 1, 1) := by decide +kernel
theorem dX6_end_20 : decode cX6_end 20 = .ok (.isub, 1) := by decide +kernel
theorem dX6_end_21 : decode cX6_end 21 = .ok (.iaload, 1) := by decide +kernel
theorem dX6_end_22 : decode cX6_end 22 = .ok (.invokestatic 55, 3) := by decide +kernel
theorem dX6_end_25 : decode cX6_end 25 = .ok (.bipush 8, 2) := by decide +kernel
theorem dX6_end_27 : decode cX6_end 27 = .ok (.invokevirtual 65, 3) := by decide +kernel
theorem dX6_end_30 : decode cX6_end 30 = .ok (.return_, 1) := by decide +kernel
theorem dX6_pours_0 : decode cX6_pours 0 = .ok (.iconst 0, 1) := by decide +kernel
theorem dX6_pours_1 : decode cX6_pours 1 = .ok (.istore_n 3, 1) := by decide +kernel
theorem dX6_pours_2 : decode cX6_pours 2 = .ok (.lload_n 1, 1) := by decide +kernel
theorem dX6_pours_3 : decode cX6_pours 3 = .ok (.lstore 4, 2) := by decide +kernel
theorem dX6_pours_5 : decode cX6_pours 5 = .ok (.iconst 0, 1) := by decide +kernel
theorem dX6_pours_6 : decode cX6_pours 6 = .ok (.istore 6, 2) := by decide +kernel
theorem dX6_pours_8 : decode cX6_pours 8 = .ok (.iload 6, 2) := by decide +kernel
theorem dX6_pours_10 : decode cX6_pours 10 = .ok (.aload_n 0, 1) := by decide +kernel
theorem dX6_pours_11 : decode cX6_pours 11 = .ok (.getfield 58, 3) := by decide +kernel
theorem dX6_pours_14 : decode cX6_pours 14 = .ok (.if_icmp .ge 105, 3) := by decide +kernel
theorem dX6_pours_17 : decode cX6_pours 17 = .ok (.lload 4, 2) := by decide +kernel
theorem dX6_pours_19 : decode cX6_pours 19 = .ok (.lconst 0, 1) := by decide +kernel
theorem dX6_pours_20 : decode cX6_pours 20 = .ok (.lcmp, 1) := by decide +kernel
theorem dX6_pours_21 : decode cX6_pours 21 = .ok (.ifCond .le 98, 3) := by decide +kernel
theorem dX6_pours_24 : decode cX6_pours 24 = .ok (.lload 4, 2) := by decide +kernel
theorem dX6_pours_26 : decode cX6_pours 26 = .ok (.ldc2_w 69, 3) := by decide +kernel
theorem dX6_pours_29 : decode cX6_pours 29 = .ok (.lcmp, 1) := by decide +kernel
theorem dX6_pours_30 : decode cX6_pours 30 = .ok (.ifCond .ge 9, 3) := by decide +kernel
theorem dX6_pours_33 : decode cX6_pours 33 = .ok (.lload 4, 2) := by decide +kernel
theorem dX6_pours_35 : decode cX6_pours 35 = .ok (.l2i, 1) := by decide +kernel
theorem dX6_pours_36 : decode cX6_pours 36 = .ok (.goto 5, 3) := by decide +kernel
theorem dX6_pours_39 : decode cX6_pours 39 = .ok (.bipush 64, 2) := by decide +kernel
theorem dX6_pours_41 : decode cX6_pours 41 = .ok (.istore 7, 2) := by decide +kernel
theorem dX6_pours_43 : decode cX6_pours 43 = .ok (.iconst 0, 1) := by decide +kernel
theorem dX6_pours_44 : decode cX6_pours 44 = .ok (.istore 8, 2) := by decide +kernel
theorem dX6_pours_46 : decode cX6_pours 46 = .ok (.iload 8, 2) := by decide +kernel
theorem dX6_pours_48 : decode cX6_pours 48 = .ok (.iload 7, 2) := by decide +kernel
theorem dX6_pours_50 : decode cX6_pours 50 = .ok (.if_icmp .ge 40, 3) := by decide +kernel
theorem dX6_pours_53 : decode cX6_pours 53 = .ok (.aload_n 0, 1) := by decide +kernel
theorem dX6_pours_54 : decode cX6_pours 54 = .ok (.getfield 7, 3) := by decide +kernel
theorem dX6_pours_57 : decode cX6_pours 57 = .ok (.bipush 64, 2) := by decide +kernel
theorem dX6_pours_59 : decode cX6_pours 59 = .ok (.aload_n 0, 1) := by decide +kernel
theorem dX6_pours_60 : decode cX6_pours 60 = .ok (.getfield 13, 3) := by decide +kernel
theorem dX6_pours_63 : decode cX6_pours 63 = .ok (.iload 6, 2) := by decide +kernel
theorem dX6_pours_65 : decode cX6_pours 65 = .ok (.iaload, 1) := by decide +kernel
theorem dX6_pours_66 : decode cX6_pours 66 = .ok (.imul, 1) := by decide +kernel
theorem dX6_pours_67 : decode cX6_pours 67 = .ok (.iload 8, 2) := by decide +kernel
theorem dX6_pours_69 : decode cX6_pours 69 = .ok (.iadd, 1) := by decide +kernel
theorem dX6_pours_70 : decode cX6_pours 70 = .ok (.aload_n 0, 1) := by decide +kernel
theorem dX6_pours_71 : decode cX6_pours 71 = .ok (.getfield 17, 3) := by decide +kernel
theorem dX6_pours_74 : decode cX6_pours 74 = .ok (.bipush 64, 2) := by decide +kernel
theorem dX6_pours_76 : decode cX6_pours 76 = .ok (.iload 6, 2) := by decide +kernel
theorem dX6_pours_78 : decode cX6_pours 78 = .ok (.imul, 1) := by decide +kernel
theorem dX6_pours_79 : decode cX6_pours 79 = .ok (.iload 8, 2) := by decide +kernel
theorem dX6_pours_81 : decode cX6_pours 81 = .ok (.iadd, 1) := by decide +kernel
theorem dX6_pours_82 : decode cX6_pours 82 = .ok (.baload, 1) := by decide +kernel
theorem dX6_pours_83 : decode cX6_pours 83 = .ok (.bastore, 1) := by decide +kernel
theorem dX6_pours_84 : decode cX6_pours 84 = .ok (.iinc 8 1, 3) := by decide +kernel
theorem dX6_pours_87 : decode cX6_pours 87 = .ok (.goto (-41), 3) := by decide +kernel
theorem dX6_pours_90 : decode cX6_pours 90 = .ok (.iload_n 3, 1) := by decide +kernel
theorem dX6_pours_91 : decode cX6_pours 91 = .ok (.iload 7, 2) := by decide +kernel
theorem dX6_pours_93 : decode cX6_pours 93 = .ok (.bipush 64, 2) := by decide +kernel
theorem dX6_pours_95 : decode cX6_pours 95 = .ok (.if_icmp .ne 7, 3) := by decide +kernel
theorem dX6_pours_98 : decode cX6_pours 98 = .ok (.iconst 1, 1) := by decide +kernel
theorem dX6_pours_99 : decode cX6_pours 99 = .ok (.goto 4, 3) := by decide +kernel
theorem dX6_pours_102 : decode cX6_pours 102 = .ok (.iconst 0, 1) := by decide +kernel
theorem dX6_pours_103 : decode cX6_pours 103 = .ok (.iadd, 1) := by decide +kernel
theorem dX6_pours_104 : decode cX6_pours 104 = .ok (.istore_n 3, 1) := by decide +kernel
theorem dX6_pours_105 : decode cX6_pours 105 = .ok (.lload 4, 2) := by decide +kernel
theorem dX6_pours_107 : decode cX6_pours 107 = .ok (.iload 7, 2) := by decide +kernel
theorem dX6_pours_109 : decode cX6_pours 109 = .ok (.i2l, 1) := by decide +kernel
theorem dX6_pours_110 : decode cX6_pours 110 = .ok (.lsub, 1) := by decide +kernel
theorem dX6_pours_111 : decode cX6_pours 111 = .ok (.lstore 4, 2) := by decide +kernel
theorem dX6_pours_113 : decode cX6_pours 113 = .ok (.iinc 6 1, 3) := by decide +kernel
theorem dX6_pours_116 : decode cX6_pours 116 = .ok (.goto (-108), 3) := by decide +kernel
theorem dX6_pours_119 : decode cX6_pours 119 = .ok (.aload_n 0, 1) := by decide +kernel
theorem dX6_pours_120 : decode cX6_pours 120 = .ok (.iconst 0, 1) := by decide +kernel
theorem dX6_pours_121 : decode cX6_pours 121 = .ok (.putfield 58, 3) := by decide +kernel
theorem dX6_pours_124 : decode cX6_pours 124 = .ok (.iload_n 3, 1) := by decide +kernel
theorem dX6_pours_125 : decode cX6_pours 125 = .ok (.ireturn, 1) := by decide +kernel
theorem dX6_forget_0 : decode cX6_forget 0 = .ok (.aload_n 0, 1) := by decide +kernel
theorem dX6_forget_1 : decode cX6_forget 1 = .ok (.iconst 0, 1) := by decide +kernel
theorem dX6_forget_2 : decode cX6_forget 2 = .ok (.putfield 71, 3) := by decide +kernel
theorem dX6_forget_5 : decode cX6_forget 5 = .ok (.aload_n 0, 1) := by decide +kernel
theorem dX6_forget_6 : decode cX6_forget 6 = .ok (.iconst 0, 1) := by decide +kernel
theorem dX6_forget_7 : decode cX6_forget 7 = .ok (.putfield 74, 3) := by decide +kernel
theorem dX6_forget_10 : decode cX6_forget 10 = .ok (.aload_n 0, 1) := by decide +kernel
theorem dX6_forget_11 : decode cX6_forget 11 = .ok (.iconst 0, 1) := by decide +kernel
theorem dX6_forget_12 : decode cX6_forget 12 = .ok (.putfield 77, 3) := by decide +kernel
theorem dX6_forget_15 : decode cX6_forget 15 = .ok (.aload_n 0, 1) := by decide +kernel
theorem dX6_forget_16 : decode cX6_forget 16 = .ok (.iconst 0, 1) := by decide +kernel
theorem dX6_forget_17 : decode cX6_forget 17 = .ok (.putfield 80, 3) := by decide +kernel
theorem dX6_forget_20 : decode cX6_forget 20 = .ok (.aload_n 0, 1) := by decide +kernel
theorem dX6_forget_21 : decode cX6_forget 21 = .ok (.iconst 0, 1) := by decide +kernel
theorem dX6_forget_22 : decode cX6_forget 22 = .ok (.putfield 58, 3) := by decide +kernel
theorem dX6_forget_25 : decode cX6_forget 25 = .ok (.aload_n 0, 1) := by decide +kernel
theorem dX6_forget_26 : decode cX6_forget 26 = .ok (.lconst 0, 1) := by decide +kernel
theorem dX6_forget_27 : decode cX6_forget 27 = .ok (.putfield 83, 3) := by decide +kernel
theorem dX6_forget_30 : decode cX6_forget 30 = .ok (.aload_n 0, 1) := by decide +kernel
theorem dX6_forget_31 : decode cX6_forget 31 = .ok (.lconst 1, 1) := by decide +kernel
theorem dX6_forget_32 : decode cX6_forget 32 = .ok (.putfield 87, 3) := by decide +kernel
theorem dX6_forget_35 : decode cX6_forget 35 = .ok (.aload_n 0, 1) := by decide +kernel
theorem dX6_forget_36 : decode cX6_forget 36 = .ok (.iconst 0, 1) := by decide +kernel
theorem dX6_forget_37 : decode cX6_forget 37 = .ok (.putfield 90, 3) := by decide +kernel
theorem dX6_forget_40 : decode cX6_forget 40 = .ok (.return_, 1) := by decide +kernel
theorem dX6_format_0 : decode cX6_format 0 = .ok (.iload_n 1, 1) := by decide +kernel
theorem dX6_format_1 : decode cX6_format 1 = .ok (.i2l, 1) := by decide +kernel
theorem dX6_format_2 : decode cX6_format 2 = .ok (.ldc2_w 93, 3) := by decide +kernel
theorem dX6_format_5 : decode cX6_format 5 = .ok (.ldc2_w 69, 3) := by decide +kernel
theorem dX6_format_8 : decode cX6_format 8 = .ok (.invokestatic 95, 3) := by decide +kernel
theorem dX6_format_11 : decode cX6_format 11 = .ok (.ifCond .ne 5, 3) := by decide +kernel
theorem dX6_format_14 : decode cX6_format 14 = .ok (.iconst (-1), 1) := by decide +kernel
theorem dX6_format_15 : decode cX6_format 15 = .ok (.ireturn, 1) := by decide +kernel
theorem dX6_format_16 : decode cX6_format 16 = .ok (.aload_n 0, 1) := by decide +kernel
theorem dX6_format_17 : decode cX6_format 17 = .ok (.iload_n 1, 1) := by decide +kernel
theorem dX6_format_18 : decode cX6_format 18 = .ok (.putfield 99, 3) := by decide +kernel
theorem dX6_format_21 : decode cX6_format 21 = .ok (.iconst 0, 1) := by decide +kernel
theorem dX6_format_22 : decode cX6_format 22 = .ok (.istore_n 2, 1) := by decide +kernel
theorem dX6_format_23 : decode cX6_format 23 = .ok (.iload_n 2, 1) := by decide +kernel
theorem dX6_format_24 : decode cX6_format 24 = .ok (.sipush 4096, 3) := by decide +kernel
theorem dX6_format_27 : decode cX6_format 27 = .ok (.if_icmp .ge 16, 3) := by decide +kernel
theorem dX6_format_30 : decode cX6_format 30 = .ok (.aload_n 0, 1) := by decide +kernel
theorem dX6_format_31 : decode cX6_format 31 = .ok (.getfield 7, 3) := by decide +kernel
theorem dX6_format_34 : decode cX6_format 34 = .ok (.iload_n 2, 1) := by decide +kernel
theorem dX6_format_35 : decode cX6_format 35 = .ok (.iconst 0, 1) := by decide +kernel
theorem dX6_format_36 : decode cX6_format 36 = .ok (.bastore, 1) := by decide +kernel
theorem dX6_format_37 : decode cX6_format 37 = .ok (.iinc 2 1, 3) := by decide +kernel
theorem dX6_format_40 : decode cX6_format 40 = .ok (.goto (-17), 3) := by decide +kernel
theorem dX6_format_43 : decode cX6_format 43 = .ok (.aload_n 0, 1) := by decide +kernel
theorem dX6_format_44 : decode cX6_format 44 = .ok (.invokevirtual 102, 3) := by decide +kernel
theorem dX6_format_47 : decode cX6_format 47 = .ok (.aload_n 0, 1) := by decide +kernel
theorem dX6_format_48 : decode cX6_format 48 = .ok (.iconst 1, 1) := by decide +kernel
theorem dX6_format_49 : decode cX6_format 49 = .ok (.putfield 105, 3) := by decide +kernel
theorem dX6_format_52 : decode cX6_format 52 = .ok (.iconst 0, 1) := by decide +kernel
theorem dX6_format_53 : decode cX6_format 53 = .ok (.ireturn, 1) := by decide +kernel
theorem dX6_isOfFiles_0 : decode cX6_isOfFiles 0 = .ok (.iconst 0, 1) := by decide +kernel
theorem dX6_isOfFiles_1 : decode cX6_isOfFiles 1 = .ok (.istore_n 2, 1) := by decide +kernel
theorem dX6_isOfFiles_2 : decode cX6_isOfFiles 2 = .ok (.iload_n 2, 1) := by decide +kernel
theorem dX6_isOfFiles_3 : decode cX6_isOfFiles 3 = .ok (.aload_n 0, 1) := by decide +kernel
theorem dX6_isOfFiles_4 : decode cX6_isOfFiles 4 = .ok (.getfield 74, 3) := by decide +kernel
theorem dX6_isOfFiles_7 : decode cX6_isOfFiles 7 = .ok (.if_icmp .ge 38, 3) := by decide +kernel
theorem dX6_isOfFiles_10 : decode cX6_isOfFiles 10 = .ok (.iload_n 1, 1) := by decide +kernel
theorem dX6_isOfFiles_11 : decode cX6_isOfFiles 11 = .ok (.aload_n 0, 1) := by decide +kernel
theorem dX6_isOfFiles_12 : decode cX6_isOfFiles 12 = .ok (.getfield 30, 3) := by decide +kernel
theorem dX6_isOfFiles_15 : decode cX6_isOfFiles 15 = .ok (.iload_n 2, 1) := by decide +kernel
theorem dX6_isOfFiles_16 : decode cX6_isOfFiles 16 = .ok (.iaload, 1) := by decide +kernel
theorem dX6_isOfFiles_17 : decode cX6_isOfFiles 17 = .ok (.if_icmp .lt 22, 3) := by decide +kernel
theorem dX6_isOfFiles_20 : decode cX6_isOfFiles 20 = .ok (.iload_n 1, 1) := by decide +kernel
theorem dX6_isOfFiles_21 : decode cX6_isOfFiles 21 = .ok (.aload_n 0, 1) := by decide +kernel
theorem dX6_isOfFiles_22 : decode cX6_isOfFiles 22 = .ok (.getfield 30, 3) := by decide +kernel
theorem dX6_isOfFiles_25 : decode cX6_isOfFiles 25 = .ok (.iload_n 2, 1) := by decide +kernel
theorem dX6_isOfFiles_26 : decode cX6_isOfFiles 26 = .ok (.iaload, 1) := by decide +kernel
theorem dX6_isOfFiles_27 : decode cX6_isOfFiles 27 = .ok (.aload_n 0, 1) := by decide +kernel
theorem dX6_isOfFiles_28 : decode cX6_isOfFiles 28 = .ok (.getfield 33, 3) := by decide +kernel
theorem dX6_isOfFiles_31 : decode cX6_isOfFiles 31 = .ok (.iload_n 2, 1) := by decide +kernel
theorem dX6_isOfFiles_32 : decode cX6_isOfFiles 32 = .ok (.iaload, 1) := by decide +kernel
theorem dX6_isOfFiles_33 : decode cX6_isOfFiles 33 = .ok (.iadd, 1) := by decide +kernel
theorem dX6_isOfFiles_34 : decode cX6_isOfFiles 34 = .ok (.if_icmp .ge 5, 3) := by decide +kernel
theorem dX6_isOfFiles_37 : decode cX6_isOfFiles 37 = .ok (.iconst 1, 1) := by decide +kernel
theorem dX6_isOfFiles_38 : decode cX6_isOfFiles 38 = .ok (.ireturn, 1) := by decide +kernel
theorem dX6_isOfFiles_39 : decode cX6_isOfFiles 39 = .ok (.iinc 2 1, 3) := by decide +kernel
theorem dX6_isOfFiles_42 : decode cX6_isOfFiles 42 = .ok (.goto (-40), 3) := by decide +kernel
theorem dX6_isOfFiles_45 : decode cX6_isOfFiles 45 = .ok (.iconst 0, 1) := by decide +kernel
theorem dX6_isOfFiles_46 : decode cX6_isOfFiles 46 = .ok (.ireturn, 1) := by decide +kernel
theorem dX6_useOf_0 : decode cX6_useOf 0 = .ok (.iload_n 1, 1) := by decide +kernel
theorem dX6_useOf_1 : decode cX6_useOf 1 = .ok (.iconst 2, 1) := by decide +kernel
theorem dX6_useOf_2 : decode cX6_useOf 2 = .ok (.if_icmp .ge 5, 3) := by decide +kernel
theorem dX6_useOf_5 : decode cX6_useOf 5 = .ok (.iconst 3, 1) := by decide +kernel
theorem dX6_useOf_6 : decode cX6_useOf 6 = .ok (.ireturn, 1) := by decide +kernel
theorem dX6_useOf_7 : decode cX6_useOf 7 = .ok (.aload_n 0, 1) := by decide +kernel
theorem dX6_useOf_8 : decode cX6_useOf 8 = .ok (.iload_n 1, 1) := by decide +kernel
theorem dX6_useOf_9 : decode cX6_useOf 9 = .ok (.invokevirtual 109, 3) := by decide +kernel
theorem dX6_useOf_12 : decode cX6_useOf 12 = .ok (.ifCond .eq 5, 3) := by decide +kernel
theorem dX6_useOf_15 : decode cX6_useOf 15 = .ok (.iconst 2, 1) := by decide +kernel
theorem dX6_useOf_16 : decode cX6_useOf 16 = .ok (.ireturn, 1) := by decide +kernel
theorem dX6_useOf_17 : decode cX6_useOf 17 = .ok (.iconst 0, 1) := by decide +kernel
theorem dX6_useOf_18 : decode cX6_useOf 18 = .ok (.istore_n 2, 1) := by decide +kernel
theorem dX6_useOf_19 : decode cX6_useOf 19 = .ok (.iload_n 2, 1) := by decide +kernel
theorem dX6_useOf_20 : decode cX6_useOf 20 = .ok (.aload_n 0, 1) := by decide +kernel
theorem dX6_useOf_21 : decode cX6_useOf 21 = .ok (.getfield 77, 3) := by decide +kernel
theorem dX6_useOf_24 : decode cX6_useOf 24 = .ok (.if_icmp .ge 21, 3) := by decide +kernel
theorem dX6_useOf_27 : decode cX6_useOf 27 = .ok (.aload_n 0, 1) := by decide +kernel
theorem dX6_useOf_28 : decode cX6_useOf 28 = .ok (.getfield 39, 3) := by decide +kernel
theorem dX6_useOf_31 : decode cX6_useOf 31 = .ok (.iload_n 2, 1) := by decide +kernel
theorem dX6_useOf_32 : decode cX6_useOf 32 = .ok (.iaload, 1) := by decide +kernel
theorem dX6_useOf_33 : decode cX6_useOf 33 = .ok (.iload_n 1, 1) := by decide +kernel
theorem dX6_useOf_34 : decode cX6_useOf 34 = .ok (.if_icmp .ne 5, 3) := by decide +kernel
theorem dX6_useOf_37 : decode cX6_useOf 37 = .ok (.iconst 1, 1) := by decide +kernel
theorem dX6_useOf_38 : decode cX6_useOf 38 = .ok (.ireturn, 1) := by decide +kernel
theorem dX6_useOf_39 : decode cX6_useOf 39 = .ok (.iinc 2 1, 3) := by decide +kernel
theorem dX6_useOf_42 : decode cX6_useOf 42 = .ok (.goto (-23), 3) := by decide +kernel
theorem dX6_useOf_45 : decode cX6_useOf 45 = .ok (.iconst 0, 1) := by decide +kernel
theorem dX6_useOf_46 : decode cX6_useOf 46 = .ok (.ireturn, 1) := by decide +kernel
theorem dX6_free_0 : decode cX6_free 0 = .ok (.iconst 0, 1) := by decide +kernel
theorem dX6_free_1 : decode cX6_free 1 = .ok (.istore_n 2, 1) := by decide +kernel
theorem dX6_free_2 : decode cX6_free 2 = .ok (.iconst 2, 1) := by decide +kernel
theorem dX6_free_3 : decode cX6_free 3 = .ok (.istore_n 3, 1) := by decide +kernel
theorem dX6_free_4 : decode cX6_free 4 = .ok (.iload_n 3, 1) := by decide +kernel
theorem dX6_free_5 : decode cX6_free 5 = .ok (.aload_n 0, 1) := by decide +kernel
theorem dX6_free_6 : decode cX6_free 6 = .ok (.getfield 99, 3) := by decide +kernel
theorem dX6_free_9 : decode cX6_free 9 = .ok (.if_icmp .ge 36, 3) := by decide +kernel
theorem dX6_free_12 : decode cX6_free 12 = .ok (.aload_n 0, 1) := by decide +kernel
theorem dX6_free_13 : decode cX6_free 13 = .ok (.iload_n 3, 1) := by decide +kernel
theorem dX6_free_14 : decode cX6_free 14 = .ok (.invokevirtual 113, 3) := by decide +kernel
theorem dX6_free_17 : decode cX6_free 17 = .ok (.ifCond .ne 9, 3) := by decide +kernel
theorem dX6_free_20 : decode cX6_free 20 = .ok (.iload_n 2, 1) := by decide +kernel
theorem dX6_free_21 : decode cX6_free 21 = .ok (.iconst 1, 1) := by decide +kernel
theorem dX6_free_22 : decode cX6_free 22 = .ok (.iadd, 1) := by decide +kernel
theorem dX6_free_23 : decode cX6_free 23 = .ok (.goto 4, 3) := by decide +kernel
theorem dX6_free_26 : decode cX6_free 26 = .ok (.iconst 0, 1) := by decide +kernel
theorem dX6_free_27 : decode cX6_free 27 = .ok (.istore_n 2, 1) := by decide +kernel
theorem dX6_free_28 : decode cX6_free 28 = .ok (.iload_n 2, 1) := by decide +kernel
theorem dX6_free_29 : decode cX6_free 29 = .ok (.iload_n 1, 1) := by decide +kernel
theorem dX6_free_30 : decode cX6_free 30 = .ok (.if_icmp .ne 9, 3) := by decide +kernel
theorem dX6_free_33 : decode cX6_free 33 = .ok (.iload_n 3, 1) := by decide +kernel
theorem dX6_free_34 : decode cX6_free 34 = .ok (.iload_n 1, 1) := by decide +kernel
theorem dX6_free_35 : decode cX6_free 35 = .ok (.isub, 1) := by decide +kernel
theorem dX6_free_36 : decode cX6_free 36 = .ok (.iconst 1, 1) := by decide +kernel
theorem dX6_free_37 : decode cX6_free 37 = .ok (.iadd, 1) := by decide +kernel
theorem dX6_free_38 : decode cX6_free 38 = .ok (.ireturn, 1) := by decide +kernel
theorem dX6_free_39 : decode cX6_free 39 = .ok (.iinc 3 1, 3) := by decide +kernel
theorem dX6_free_42 : decode cX6_free 42 = .ok (.goto (-38), 3) := by decide +kernel
theorem dX6_free_45 : decode cX6_free 45 = .ok (.iconst (-1), 1) := by decide +kernel
theorem dX6_free_46 : decode cX6_free 46 = .ok (.ireturn, 1) := by decide +kernel
theorem dX6_inFiles_0 : decode cX6_inFiles 0 = .ok (.iconst 0, 1) := by decide +kernel
theorem dX6_inFiles_1 : decode cX6_inFiles 1 = .ok (.istore_n 1, 1) := by decide +kernel
theorem dX6_inFiles_2 : decode cX6_inFiles 2 = .ok (.iconst 0, 1) := by decide +kernel
theorem dX6_inFiles_3 : decode cX6_inFiles 3 = .ok (.istore_n 2, 1) := by decide +kernel
theorem dX6_inFiles_4 : decode cX6_inFiles 4 = .ok (.iload_n 2, 1) := by decide +kernel
theorem dX6_inFiles_5 : decode cX6_inFiles 5 = .ok (.aload_n 0, 1) := by decide +kernel
theorem dX6_inFiles_6 : decode cX6_inFiles 6 = .ok (.getfield 74, 3) := by decide +kernel
theorem dX6_inFiles_9 : decode cX6_inFiles 9 = .ok (.if_icmp .ge 18, 3) := by decide +kernel
theorem dX6_inFiles_12 : decode cX6_inFiles 12 = .ok (.iload_n 1, 1) := by decide +kernel
theorem dX6_inFiles_13 : decode cX6_inFiles 13 = .ok (.aload_n 0, 1) := by decide +kernel
theorem dX6_inFiles_14 : decode cX6_inFiles 14 = .ok (.getfield 36, 3) := by decide +kernel
theorem dX6_inFiles_17 : decode cX6_inFiles 17 = .ok (.iload_n 2, 1) := by decide +kernel
theorem dX6_inFiles_18 : decode cX6_inFiles 18 = .ok (.iaload, 1) := by decide +kernel
theorem dX6_inFiles_19 : decode cX6_inFiles 19 = .ok (.iadd, 1) := by decide +kernel
theorem dX6_inFiles_20 : decode cX6_inFiles 20 = .ok (.istore_n 1, 1) := by decide +kernel
theorem dX6_inFiles_21 : decode cX6_inFiles 21 = .ok (.iinc 2 1, 3) := by decide +kernel
theorem dX6_inFiles_24 : decode cX6_inFiles 24 = .ok (.goto (-20), 3) := by decide +kernel
theorem dX6_inFiles_27 : decode cX6_inFiles 27 = .ok (.iload_n 1, 1) := by decide +kernel
theorem dX6_inFiles_28 : decode cX6_inFiles 28 = .ok (.ireturn, 1) := by decide +kernel
theorem dX6_writesLog_0 : decode cX6_writesLog 0 = .ok (.aload_n 0, 1) := by decide +kernel
theorem dX6_writesLog_1 : decode cX6_writesLog 1 = .ok (.iconst 1, 1) := by decide +kernel
theorem dX6_writesLog_2 : decode cX6_writesLog 2 = .ok (.invokevirtual 116, 3) := by decide +kernel
theorem dX6_writesLog_5 : decode cX6_writesLog 5 = .ok (.istore_n 1, 1) := by decide +kernel
theorem dX6_writesLog_6 : decode cX6_writesLog 6 = .ok (.iload_n 1, 1) := by decide +kernel
theorem dX6_writesLog_7 : decode cX6_writesLog 7 = .ok (.ifCond .ge 5, 3) := by decide +kernel
theorem dX6_writesLog_10 : decode cX6_writesLog 10 = .ok (.iconst 0, 1) := by decide +kernel
theorem dX6_writesLog_11 : decode cX6_writesLog 11 = .ok (.ireturn, 1) := by decide +kernel
theorem dX6_writesLog_12 : decode cX6_writesLog 12 = .ok (.aload_n 0, 1) := by decide +kernel
theorem dX6_writesLog_13 : decode cX6_writesLog 13 = .ok (.iload_n 1, 1) := by decide +kernel
theorem dX6_writesLog_14 : decode cX6_writesLog 14 = .ok (.invokevirtual 119, 3) := by decide +kernel
theorem dX6_writesLog_17 : decode cX6_writesLog 17 = .ok (.aload_n 0, 1) := by decide +kernel
theorem dX6_writesLog_18 : decode cX6_writesLog 18 = .ok (.iconst 0, 1) := by decide +kernel
theorem dX6_writesLog_19 : decode cX6_writesLog 19 = .ok (.lconst 1, 1) := by decide +kernel
theorem dX6_writesLog_20 : decode cX6_writesLog 20 = .ok (.iconst 1, 1) := by decide +kernel
theorem dX6_writesLog_21 : decode cX6_writesLog 21 = .ok (.invokevirtual 65, 3) := by decide +kernel
theorem dX6_writesLog_24 : decode cX6_writesLog 24 = .ok (.aload_n 0, 1) := by decide +kernel
theorem dX6_writesLog_25 : decode cX6_writesLog 25 = .ok (.iconst 1, 1) := by decide +kernel
theorem dX6_writesLog_26 : decode cX6_writesLog 26 = .ok (.aload_n 0, 1) := by decide +kernel
theorem dX6_writesLog_27 : decode cX6_writesLog 27 = .ok (.getfield 80, 3) := by decide +kernel
theorem dX6_writesLog_30 : decode cX6_writesLog 30 = .ok (.i2l, 1) := by decide +kernel
theorem dX6_writesLog_31 : decode cX6_writesLog 31 = .ok (.iconst 1, 1) := by decide +kernel
theorem dX6_writesLog_32 : decode cX6_writesLog 32 = .ok (.invokevirtual 65, 3) := by decide +kernel
theorem dX6_writesLog_35 : decode cX6_writesLog 35 = .ok (.aload_n 0, 1) := by decide +kernel
theorem dX6_writesLog_36 : decode cX6_writesLog 36 = .ok (.iconst 2, 1) := by decide +kernel
theorem dX6_writesLog_37 : decode cX6_writesLog 37 = .ok (.aload_n 0, 1) := by decide +kernel
theorem dX6_writesLog_38 : decode cX6_writesLog 38 = .ok (.getfield 87, 3) := by decide +kernel
theorem dX6_writesLog_41 : decode cX6_writesLog 41 = .ok (.aload_n 0, 1) := by decide +kernel
theorem dX6_writesLog_42 : decode cX6_writesLog 42 = .ok (.getfield 80, 3) := by decide +kernel
theorem dX6_writesLog_45 : decode cX6_writesLog 45 = .ok (.i2l, 1) := by decide +kernel
theorem dX6_writesLog_46 : decode cX6_writesLog 46 = .ok (.lsub, 1) := by decide +kernel
theorem dX6_writesLog_47 : decode cX6_writesLog 47 = .ok (.bipush 6, 2) := by decide +kernel
theorem dX6_writesLog_49 : decode cX6_writesLog 49 = .ok (.invokevirtual 65, 3) := by decide +kernel
theorem dX6_writesLog_52 : decode cX6_writesLog 52 = .ok (.iconst 0, 1) := by decide +kernel
theorem dX6_writesLog_53 : decode cX6_writesLog 53 = .ok (.istore_n 2, 1) := by decide +kernel
theorem dX6_writesLog_54 : decode cX6_writesLog 54 = .ok (.iload_n 2, 1) := by decide +kernel
theorem dX6_writesLog_55 : decode cX6_writesLog 55 = .ok (.aload_n 0, 1) := by decide +kernel
theorem dX6_writesLog_56 : decode cX6_writesLog 56 = .ok (.getfield 80, 3) := by decide +kernel
theorem dX6_writesLog_59 : decode cX6_writesLog 59 = .ok (.if_icmp .ge 67, 3) := by decide +kernel
theorem dX6_writesLog_62 : decode cX6_writesLog 62 = .ok (.aload_n 0, 1) := by decide +kernel
theorem dX6_writesLog_63 : decode cX6_writesLog 63 = .ok (.bipush 8, 2) := by decide +kernel
theorem dX6_writesLog_65 : decode cX6_writesLog 65 = .ok (.bipush 16, 2) := by decide +kernel
theorem dX6_writesLog_67 : decode cX6_writesLog 67 = .ok (.iload_n 2, 1) := by decide +kernel
theorem dX6_writesLog_68 : decode cX6_writesLog 68 = .ok (.imul, 1) := by decide +kernel
theorem dX6_writesLog_69 : decode cX6_writesLog 69 = .ok (.iadd, 1) := by decide +kernel
theorem dX6_writesLog_70 : decode cX6_writesLog 70 = .ok (.aload_n 0, 1) := by decide +kernel
theorem dX6_writesLog_71 : decode cX6_writesLog 71 = .ok (.getfield 20, 3) := by decide +kernel
theorem dX6_writesLog_74 : decode cX6_writesLog 74 = .ok (.aload_n 0, 1) := by decide +kernel
theorem dX6_writesLog_75 : decode cX6_writesLog 75 = .ok (.getfield 71, 3) := by decide +kernel
theorem dX6_writesLog_78 : decode cX6_writesLog 78 = .ok (.aload_n 0, 1) := by decide +kernel
theorem dX6_writesLog_79 : decode cX6_writesLog 79 = .ok (.getfield 80, 3) := by decide +kernel
theorem dX6_writesLog_82 : decode cX6_writesLog 82 = .ok (.isub, 1) := by decide +kernel
theorem dX6_writesLog_83 : decode cX6_writesLog 83 = .ok (.iload_n 2, 1) := by decide +kernel
theorem dX6_writesLog_84 : decode cX6_writesLog 84 = .ok (.iadd, 1) := by decide +kernel
theorem dX6_writesLog_85 : decode cX6_writesLog 85 = .ok (.laload, 1) := by decide +kernel
theorem dX6_writesLog_86 : decode cX6_writesLog 86 = .ok (.bipush 8, 2) := by decide +kernel
theorem dX6_writesLog_88 : decode cX6_writesLog 88 = .ok (.invokevirtual 65, 3) := by decide +kernel
theorem dX6_writesLog_91 : decode cX6_writesLog 91 = .ok (.aload_n 0, 1) := by decide +kernel
theorem dX6_writesLog_92 : decode cX6_writesLog 92 = .ok (.bipush 16, 2) := by decide +kernel
theorem dX6_writesLog_94 : decode cX6_writesLog 94 = .ok (.bipush 16, 2) := by decide +kernel
theorem dX6_writesLog_96 : decode cX6_writesLog 96 = .ok (.iload_n 2, 1) := by decide +kernel
theorem dX6_writesLog_97 : decode cX6_writesLog 97 = .ok (.imul, 1) := by decide +kernel
theorem dX6_writesLog_98 : decode cX6_writesLog 98 = .ok (.iadd, 1) := by decide +kernel
theorem dX6_writesLog_99 : decode cX6_writesLog 99 = .ok (.aload_n 0, 1) := by decide +kernel
theorem dX6_writesLog_100 : decode cX6_writesLog 100 = .ok (.getfield 24, 3) := by decide +kernel
theorem dX6_writesLog_103 : decode cX6_writesLog 103 = .ok (.aload_n 0, 1) := by decide +kernel
theorem dX6_writesLog_104 : decode cX6_writesLog 104 = .ok (.getfield 71, 3) := by decide +kernel
theorem dX6_writesLog_107 : decode cX6_writesLog 107 = .ok (.aload_n 0, 1) := by decide +kernel
theorem dX6_writesLog_108 : decode cX6_writesLog 108 = .ok (.getfield 80, 3) := by decide +kernel
theorem dX6_writesLog_111 : decode cX6_writesLog 111 = .ok (.isub, 1) := by decide +kernel
theorem dX6_writesLog_112 : decode cX6_writesLog 112 = .ok (.iload_n 2, 1) := by decide +kernel
theorem dX6_writesLog_113 : decode cX6_writesLog 113 = .ok (.iadd, 1) := by decide +kernel
theorem dX6_writesLog_114 : decode cX6_writesLog 114 = .ok (.laload, 1) := by decide +kernel
theorem dX6_writesLog_115 : decode cX6_writesLog 115 = .ok (.bipush 8, 2) := by decide +kernel
theorem dX6_writesLog_117 : decode cX6_writesLog 117 = .ok (.invokevirtual 65, 3) := by decide +kernel
theorem dX6_writesLog_120 : decode cX6_writesLog 120 = .ok (.iinc 2 1, 3) := by decide +kernel
theorem dX6_writesLog_123 : decode cX6_writesLog 123 = .ok (.goto (-69), 3) := by decide +kernel
theorem dX6_writesLog_126 : decode cX6_writesLog 126 = .ok (.aload_n 0, 1) := by decide +kernel
theorem dX6_writesLog_127 : decode cX6_writesLog 127 = .ok (.invokevirtual 123, 3) := by decide +kernel
theorem dX6_writesLog_130 : decode cX6_writesLog 130 = .ok (.aload_n 0, 1) := by decide +kernel
theorem dX6_writesLog_131 : decode cX6_writesLog 131 = .ok (.getfield 39, 3) := by decide +kernel
theorem dX6_writesLog_134 : decode cX6_writesLog 134 = .ok (.aload_n 0, 1) := by decide +kernel
theorem dX6_writesLog_135 : decode cX6_writesLog 135 = .ok (.getfield 77, 3) := by decide +kernel
theorem dX6_writesLog_138 : decode cX6_writesLog 138 = .ok (.iload_n 1, 1) := by decide +kernel
theorem dX6_writesLog_139 : decode cX6_writesLog 139 = .ok (.iastore, 1) := by decide +kernel
theorem dX6_writesLog_140 : decode cX6_writesLog 140 = .ok (.aload_n 0, 1) := by decide +kernel
theorem dX6_writesLog_141 : decode cX6_writesLog 141 = .ok (.getfield 42, 3) := by decide +kernel
theorem dX6_writesLog_144 : decode cX6_writesLog 144 = .ok (.aload_n 0, 1) := by decide +kernel
theorem dX6_writesLog_145 : decode cX6_writesLog 145 = .ok (.dup, 1) := by decide +kernel
theorem dX6_writesLog_146 : decode cX6_writesLog 146 = .ok (.getfield 77, 3) := by decide +kernel
theorem dX6_writesLog_149 : decode cX6_writesLog 149 = .ok (.dup_x1, 1) := by decide +kernel
theorem dX6_writesLog_150 : decode cX6_writesLog 150 = .ok (.iconst 1, 1) := by decide +kernel
theorem dX6_writesLog_151 : decode cX6_writesLog 151 = .ok (.iadd, 1) := by decide +kernel
theorem dX6_writesLog_152 : decode cX6_writesLog 152 = .ok (.putfield 77, 3) := by decide +kernel
theorem dX6_writesLog_155 : decode cX6_writesLog 155 = .ok (.aload_n 0, 1) := by decide +kernel
theorem dX6_writesLog_156 : decode cX6_writesLog 156 = .ok (.getfield 80, 3) := by decide +kernel
theorem dX6_writesLog_159 : decode cX6_writesLog 159 = .ok (.iastore, 1) := by decide +kernel
theorem dX6_writesLog_160 : decode cX6_writesLog 160 = .ok (.aload_n 0, 1) := by decide +kernel
theorem dX6_writesLog_161 : decode cX6_writesLog 161 = .ok (.iconst 0, 1) := by decide +kernel
theorem dX6_writesLog_162 : decode cX6_writesLog 162 = .ok (.putfield 80, 3) := by decide +kernel
theorem dX6_writesLog_165 : decode cX6_writesLog 165 = .ok (.iconst 1, 1) := by decide +kernel
theorem dX6_writesLog_166 : decode cX6_writesLog 166 = .ok (.ireturn, 1) := by decide +kernel
theorem dX6_add_0 : decode cX6_add 0 = .ok (.aload_n 0, 1) := by decide +kernel
theorem dX6_add_1 : decode cX6_add 1 = .ok (.getfield 105, 3) := by decide +kernel
theorem dX6_add_4 : decode cX6_add 4 = .ok (.ifCond .ne 6, 3) := by decide +kernel
theorem dX6_add_7 : decode cX6_add 7 = .ok (.bipush (-4), 2) := by decide +kernel
theorem dX6_add_9 : decode cX6_add 9 = .ok (.ireturn, 1) := by decide +kernel
theorem dX6_add_10 : decode cX6_add 10 = .ok (.aload_n 0, 1) := by decide +kernel
theorem dX6_add_11 : decode cX6_add 11 = .ok (.getfield 80, 3) := by decide +kernel
theorem dX6_add_14 : decode cX6_add 14 = .ok (.iconst 2, 1) := by decide +kernel
theorem dX6_add_15 : decode cX6_add 15 = .ok (.if_icmp .ne 14, 3) := by decide +kernel
theorem dX6_add_18 : decode cX6_add 18 = .ok (.aload_n 0, 1) := by decide +kernel
theorem dX6_add_19 : decode cX6_add 19 = .ok (.iconst 1, 1) := by decide +kernel
theorem dX6_add_20 : decode cX6_add 20 = .ok (.invokevirtual 116, 3) := by decide +kernel
theorem dX6_add_23 : decode cX6_add 23 = .ok (.ifCond .ge 6, 3) := by decide +kernel
theorem dX6_add_26 : decode cX6_add 26 = .ok (.bipush (-3), 2) := by decide +kernel
theorem dX6_add_28 : decode cX6_add 28 = .ok (.ireturn, 1) := by decide +kernel
theorem dX6_add_29 : decode cX6_add 29 = .ok (.aload_n 0, 1) := by decide +kernel
theorem dX6_add_30 : decode cX6_add 30 = .ok (.getfield 20, 3) := by decide +kernel
theorem dX6_add_33 : decode cX6_add 33 = .ok (.aload_n 0, 1) := by decide +kernel
theorem dX6_add_34 : decode cX6_add 34 = .ok (.getfield 71, 3) := by decide +kernel
theorem dX6_add_37 : decode cX6_add 37 = .ok (.lload_n 1, 1) := by decide +kernel
theorem dX6_add_38 : decode cX6_add 38 = .ok (.lastore, 1) := by decide +kernel
theorem dX6_add_39 : decode cX6_add 39 = .ok (.aload_n 0, 1) := by decide +kernel
theorem dX6_add_40 : decode cX6_add 40 = .ok (.getfield 24, 3) := by decide +kernel
theorem dX6_add_43 : decode cX6_add 43 = .ok (.aload_n 0, 1) := by decide +kernel
theorem dX6_add_44 : decode cX6_add 44 = .ok (.dup, 1) := by decide +kernel
theorem dX6_add_45 : decode cX6_add 45 = .ok (.getfield 71, 3) := by decide +kernel
theorem dX6_add_48 : decode cX6_add 48 = .ok (.dup_x1, 1) := by decide +kernel
theorem dX6_add_49 : decode cX6_add 49 = .ok (.iconst 1, 1) := by decide +kernel
theorem dX6_add_50 : decode cX6_add 50 = .ok (.iadd, 1) := by decide +kernel
theorem dX6_add_51 : decode cX6_add 51 = .ok (.putfield 71, 3) := by decide +kernel
theorem dX6_add_54 : decode cX6_add 54 = .ok (.lload_n 3, 1) := by decide +kernel
theorem dX6_add_55 : decode cX6_add 55 = .ok (.lastore, 1) := by decide +kernel
theorem dX6_add_56 : decode cX6_add 56 = .ok (.aload_n 0, 1) := by decide +kernel
theorem dX6_add_57 : decode cX6_add 57 = .ok (.dup, 1) := by decide +kernel
theorem dX6_add_58 : decode cX6_add 58 = .ok (.getfield 80, 3) := by decide +kernel
theorem dX6_add_61 : decode cX6_add 61 = .ok (.iconst 1, 1) := by decide +kernel
theorem dX6_add_62 : decode cX6_add 62 = .ok (.iadd, 1) := by decide +kernel
theorem dX6_add_63 : decode cX6_add 63 = .ok (.putfield 80, 3) := by decide +kernel
theorem dX6_add_66 : decode cX6_add 66 = .ok (.aload_n 0, 1) := by decide +kernel
theorem dX6_add_67 : decode cX6_add 67 = .ok (.dup, 1) := by decide +kernel
theorem dX6_add_68 : decode cX6_add 68 = .ok (.getfield 87, 3) := by decide +kernel
theorem dX6_add_71 : decode cX6_add 71 = .ok (.lconst 1, 1) := by decide +kernel
theorem dX6_add_72 : decode cX6_add 72 = .ok (.ladd, 1) := by decide +kernel
theorem dX6_add_73 : decode cX6_add 73 = .ok (.putfield 87, 3) := by decide +kernel
theorem dX6_add_76 : decode cX6_add 76 = .ok (.aload_n 0, 1) := by decide +kernel
theorem dX6_add_77 : decode cX6_add 77 = .ok (.getfield 80, 3) := by decide +kernel
theorem dX6_add_80 : decode cX6_add 80 = .ok (.iconst 3, 1) := by decide +kernel
theorem dX6_add_81 : decode cX6_add 81 = .ok (.if_icmp .ne 8, 3) := by decide +kernel
theorem dX6_add_84 : decode cX6_add 84 = .ok (.aload_n 0, 1) := by decide +kernel
theorem dX6_add_85 : decode cX6_add 85 = .ok (.invokevirtual 126, 3) := by decide +kernel
theorem dX6_add_88 : decode cX6_add 88 = .ok (.pop, 1) := by decide +kernel
theorem dX6_add_89 : decode cX6_add 89 = .ok (.aload_n 0, 1) := by decide +kernel
theorem dX6_add_90 : decode cX6_add 90 = .ok (.getfield 87, 3) := by decide +kernel
theorem dX6_add_93 : decode cX6_add 93 = .ok (.lconst 1, 1) := by decide +kernel
theorem dX6_add_94 : decode cX6_add 94 = .ok (.lsub, 1) := by decide +kernel
theorem dX6_add_95 : decode cX6_add 95 = .ok (.l2i, 1) := by decide +kernel
theorem dX6_add_96 : decode cX6_add 96 = .ok (.ireturn, 1) := by decide +kernel
theorem dX6_flush_0 : decode cX6_flush 0 = .ok (.aload_n 0, 1) := by decide +kernel
theorem dX6_flush_1 : decode cX6_flush 1 = .ok (.getfield 105, 3) := by decide +kernel
theorem dX6_flush_4 : decode cX6_flush 4 = .ok (.ifCond .ne 6, 3) := by decide +kernel
theorem dX6_flush_7 : decode cX6_flush 7 = .ok (.bipush (-4), 2) := by decide +kernel
theorem dX6_flush_9 : decode cX6_flush 9 = .ok (.ireturn, 1) := by decide +kernel
theorem dX6_flush_10 : decode cX6_flush 10 = .ok (.aload_n 0, 1) := by decide +kernel
theorem dX6_flush_11 : decode cX6_flush 11 = .ok (.getfield 80, 3) := by decide +kernel
theorem dX6_flush_14 : decode cX6_flush 14 = .ok (.istore_n 1, 1) := by decide +kernel
theorem dX6_flush_15 : decode cX6_flush 15 = .ok (.iload_n 1, 1) := by decide +kernel
theorem dX6_flush_16 : decode cX6_flush 16 = .ok (.ifCond .ne 5, 3) := by decide +kernel
theorem dX6_flush_19 : decode cX6_flush 19 = .ok (.iconst 0, 1) := by decide +kernel
theorem dX6_flush_20 : decode cX6_flush 20 = .ok (.ireturn, 1) := by decide +kernel
theorem dX6_flush_21 : decode cX6_flush 21 = .ok (.aload_n 0, 1) := by decide +kernel
theorem dX6_flush_22 : decode cX6_flush 22 = .ok (.invokevirtual 126, 3) := by decide +kernel
theorem dX6_flush_25 : decode cX6_flush 25 = .ok (.ifCond .eq 7, 3) := by decide +kernel
theorem dX6_flush_28 : decode cX6_flush 28 = .ok (.iload_n 1, 1) := by decide +kernel
theorem dX6_flush_29 : decode cX6_flush 29 = .ok (.goto 5, 3) := by decide +kernel
theorem dX6_flush_32 : decode cX6_flush 32 = .ok (.bipush (-3), 2) := by decide +kernel
theorem dX6_flush_34 : decode cX6_flush 34 = .ok (.ireturn, 1) := by decide +kernel
theorem dX6_sync_0 : decode cX6_sync 0 = .ok (.aload_n 0, 1) := by decide +kernel
theorem dX6_sync_1 : decode cX6_sync 1 = .ok (.getfield 105, 3) := by decide +kernel
theorem dX6_sync_4 : decode cX6_sync 4 = .ok (.ifCond .ne 6, 3) := by decide +kernel
theorem dX6_sync_7 : decode cX6_sync 7 = .ok (.bipush (-4), 2) := by decide +kernel
theorem dX6_sync_9 : decode cX6_sync 9 = .ok (.ireturn, 1) := by decide +kernel
theorem dX6_sync_10 : decode cX6_sync 10 = .ok (.aload_n 0, 1) := by decide +kernel
theorem dX6_sync_11 : decode cX6_sync 11 = .ok (.ldc2_w 69, 3) := by decide +kernel
theorem dX6_sync_14 : decode cX6_sync 14 = .ok (.aload_n 0, 1) := by decide +kernel
theorem dX6_sync_15 : decode cX6_sync 15 = .ok (.getfield 58, 3) := by decide +kernel
theorem dX6_sync_18 : decode cX6_sync 18 = .ok (.i2l, 1) := by decide +kernel
theorem dX6_sync_19 : decode cX6_sync 19 = .ok (.lmul, 1) := by decide +kernel
theorem dX6_sync_20 : decode cX6_sync 20 = .ok (.invokevirtual 130, 3) := by decide +kernel
theorem dX6_sync_23 : decode cX6_sync 23 = .ok (.ireturn, 1) := by decide +kernel
theorem dX6_sort_0 : decode cX6_sort 0 = .ok (.iload_n 1, 1) := by decide +kernel
theorem dX6_sort_1 : decode cX6_sort 1 = .ok (.iconst 1, 1) := by decide +kernel
theorem dX6_sort_2 : decode cX6_sort 2 = .ok (.iadd, 1) := by decide +kernel
theorem dX6_sort_3 : decode cX6_sort 3 = .ok (.istore_n 2, 1) := by decide +kernel
theorem dX6_sort_4 : decode cX6_sort 4 = .ok (.iload_n 2, 1) := by decide +kernel
theorem dX6_sort_5 : decode cX6_sort 5 = .ok (.aload_n 0, 1) := by decide +kernel
theorem dX6_sort_6 : decode cX6_sort 6 = .ok (.getfield 71, 3) := by decide +kernel
theorem dX6_sort_9 : decode cX6_sort 9 = .ok (.if_icmp .ge 102, 3) := by decide +kernel
theorem dX6_sort_12 : decode cX6_sort 12 = .ok (.aload_n 0, 1) := by decide +kernel
theorem dX6_sort_13 : decode cX6_sort 13 = .ok (.getfield 20, 3) := by decide +kernel
theorem dX6_sort_16 : decode cX6_sort 16 = .ok (.iload_n 2, 1) := by decide +kernel
theorem dX6_sort_17 : decode cX6_sort 17 = .ok (.laload, 1) := by decide +kernel
theorem dX6_sort_18 : decode cX6_sort 18 = .ok (.lstore_n 3, 1) := by decide +kernel
theorem dX6_sort_19 : decode cX6_sort 19 = .ok (.aload_n 0, 1) := by decide +kernel
theorem dX6_sort_20 : decode cX6_sort 20 = .ok (.getfield 24, 3) := by decide +kernel
theorem dX6_sort_23 : decode cX6_sort 23 = .ok (.iload_n 2, 1) := by decide +kernel
theorem dX6_sort_24 : decode cX6_sort 24 = .ok (.laload, 1) := by decide +kernel
theorem dX6_sort_25 : decode cX6_sort 25 = .ok (.lstore 5, 2) := by decide +kernel
theorem dX6_sort_27 : decode cX6_sort 27 = .ok (.iload_n 2, 1) := by decide +kernel
theorem dX6_sort_28 : decode cX6_sort 28 = .ok (.istore 7, 2) := by decide +kernel
theorem dX6_sort_30 : decode cX6_sort 30 = .ok (.iload 7, 2) := by decide +kernel
theorem dX6_sort_32 : decode cX6_sort 32 = .ok (.iload_n 1, 1) := by decide +kernel
theorem dX6_sort_33 : decode cX6_sort 33 = .ok (.if_icmp .le 55, 3) := by decide +kernel
theorem dX6_sort_36 : decode cX6_sort 36 = .ok (.aload_n 0, 1) := by decide +kernel
theorem dX6_sort_37 : decode cX6_sort 37 = .ok (.getfield 20, 3) := by decide +kernel
theorem dX6_sort_40 : decode cX6_sort 40 = .ok (.iload 7, 2) := by decide +kernel
theorem dX6_sort_42 : decode cX6_sort 42 = .ok (.iconst 1, 1) := by decide +kernel
theorem dX6_sort_43 : decode cX6_sort 43 = .ok (.isub, 1) := by decide +kernel
theorem dX6_sort_44 : decode cX6_sort 44 = .ok (.laload, 1) := by decide +kernel
theorem dX6_sort_45 : decode cX6_sort 45 = .ok (.lload_n 3, 1) := by decide +kernel
theorem dX6_sort_46 : decode cX6_sort 46 = .ok (.lcmp, 1) := by decide +kernel
theorem dX6_sort_47 : decode cX6_sort 47 = .ok (.ifCond .le 41, 3) := by decide +kernel
theorem dX6_sort_50 : decode cX6_sort 50 = .ok (.aload_n 0, 1) := by decide +kernel
theorem dX6_sort_51 : decode cX6_sort 51 = .ok (.getfield 20, 3) := by decide +kernel
theorem dX6_sort_54 : decode cX6_sort 54 = .ok (.iload 7, 2) := by decide +kernel
theorem dX6_sort_56 : decode cX6_sort 56 = .ok (.aload_n 0, 1) := by decide +kernel
theorem dX6_sort_57 : decode cX6_sort 57 = .ok (.getfield 20, 3) := by decide +kernel
theorem dX6_sort_60 : decode cX6_sort 60 = .ok (.iload 7, 2) := by decide +kernel
theorem dX6_sort_62 : decode cX6_sort 62 = .ok (.iconst 1, 1) := by decide +kernel
theorem dX6_sort_63 : decode cX6_sort 63 = .ok (.isub, 1) := by decide +kernel
theorem dX6_sort_64 : decode cX6_sort 64 = .ok (.laload, 1) := by decide +kernel
theorem dX6_sort_65 : decode cX6_sort 65 = .ok (.lastore, 1) := by decide +kernel
theorem dX6_sort_66 : decode cX6_sort 66 = .ok (.aload_n 0, 1) := by decide +kernel
theorem dX6_sort_67 : decode cX6_sort 67 = .ok (.getfield 24, 3) := by decide +kernel
theorem dX6_sort_70 : decode cX6_sort 70 = .ok (.iload 7, 2) := by decide +kernel
theorem dX6_sort_72 : decode cX6_sort 72 = .ok (.aload_n 0, 1) := by decide +kernel
theorem dX6_sort_73 : decode cX6_sort 73 = .ok (.getfield 24, 3) := by decide +kernel
theorem dX6_sort_76 : decode cX6_sort 76 = .ok (.iload 7, 2) := by decide +kernel
theorem dX6_sort_78 : decode cX6_sort 78 = .ok (.iconst 1, 1) := by decide +kernel
theorem dX6_sort_79 : decode cX6_sort 79 = .ok (.isub, 1) := by decide +kernel
theorem dX6_sort_80 : decode cX6_sort 80 = .ok (.laload, 1) := by decide +kernel
theorem dX6_sort_81 : decode cX6_sort 81 = .ok (.lastore, 1) := by decide +kernel
theorem dX6_sort_82 : decode cX6_sort 82 = .ok (.iinc 7 (-1), 3) := by decide +kernel
theorem dX6_sort_85 : decode cX6_sort 85 = .ok (.goto (-55), 3) := by decide +kernel
theorem dX6_sort_88 : decode cX6_sort 88 = .ok (.aload_n 0, 1) := by decide +kernel
theorem dX6_sort_89 : decode cX6_sort 89 = .ok (.getfield 20, 3) := by decide +kernel
theorem dX6_sort_92 : decode cX6_sort 92 = .ok (.iload 7, 2) := by decide +kernel
theorem dX6_sort_94 : decode cX6_sort 94 = .ok (.lload_n 3, 1) := by decide +kernel
theorem dX6_sort_95 : decode cX6_sort 95 = .ok (.lastore, 1) := by decide +kernel
theorem dX6_sort_96 : decode cX6_sort 96 = .ok (.aload_n 0, 1) := by decide +kernel
theorem dX6_sort_97 : decode cX6_sort 97 = .ok (.getfield 24, 3) := by decide +kernel
theorem dX6_sort_100 : decode cX6_sort 100 = .ok (.iload 7, 2) := by decide +kernel
theorem dX6_sort_102 : decode cX6_sort 102 = .ok (.lload 5, 2) := by decide +kernel
theorem dX6_sort_104 : decode cX6_sort 104 = .ok (.lastore, 1) := by decide +kernel
theorem dX6_sort_105 : decode cX6_sort 105 = .ok (.iinc 2 1, 3) := by decide +kernel
theorem dX6_sort_108 : decode cX6_sort 108 = .ok (.goto (-104), 3) := by decide +kernel
theorem dX6_sort_111 : decode cX6_sort 111 = .ok (.return_, 1) := by decide +kernel
theorem dX6_commit_0 : decode cX6_commit 0 = .ok (.iload_n 1, 1) := by decide +kernel
theorem dX6_commit_1 : decode cX6_commit 1 = .ok (.iconst (-1), 1) := by decide +kernel
theorem dX6_commit_2 : decode cX6_commit 2 = .ok (.if_icmp .ge 5, 3) := by decide +kernel
theorem dX6_commit_5 : decode cX6_commit 5 = .ok (.iconst (-1), 1) := by decide +kernel
theorem dX6_commit_6 : decode cX6_commit 6 = .ok (.ireturn, 1) := by decide +kernel
theorem dX6_commit_7 : decode cX6_commit 7 = .ok (.aload_n 0, 1) := by decide +kernel
theorem dX6_commit_8 : decode cX6_commit 8 = .ok (.getfield 105, 3) := by decide +kernel
theorem dX6_commit_11 : decode cX6_commit 11 = .ok (.ifCond .ne 6, 3) := by decide +kernel
theorem dX6_commit_14 : decode cX6_commit 14 = .ok (.bipush (-4), 2) := by decide +kernel
theorem dX6_commit_16 : decode cX6_commit 16 = .ok (.ireturn, 1) := by decide +kernel
theorem dX6_commit_17 : decode cX6_commit 17 = .ok (.aload_n 0, 1) := by decide +kernel
theorem dX6_commit_18 : decode cX6_commit 18 = .ok (.invokevirtual 134, 3) := by decide +kernel
theorem dX6_commit_21 : decode cX6_commit 21 = .ok (.istore_n 2, 1) := by decide +kernel
theorem dX6_commit_22 : decode cX6_commit 22 = .ok (.aload_n 0, 1) := by decide +kernel
theorem dX6_commit_23 : decode cX6_commit 23 = .ok (.getfield 71, 3) := by decide +kernel
theorem dX6_commit_26 : decode cX6_commit 26 = .ok (.iload_n 2, 1) := by decide +kernel
theorem dX6_commit_27 : decode cX6_commit 27 = .ok (.if_icmp .ne 5, 3) := by decide +kernel
theorem dX6_commit_30 : decode cX6_commit 30 = .ok (.iconst 0, 1) := by decide +kernel
theorem dX6_commit_31 : decode cX6_commit 31 = .ok (.ireturn, 1) := by decide +kernel
theorem dX6_commit_32 : decode cX6_commit 32 = .ok (.aload_n 0, 1) := by decide +kernel
theorem dX6_commit_33 : decode cX6_commit 33 = .ok (.getfield 74, 3) := by decide +kernel
theorem dX6_commit_36 : decode cX6_commit 36 = .ok (.iconst 5, 1) := by decide +kernel
theorem dX6_commit_37 : decode cX6_commit 37 = .ok (.if_icmp .ne 7, 3) := by decide +kernel
theorem dX6_commit_40 : decode cX6_commit 40 = .ok (.iconst 0, 1) := by decide +kernel
theorem dX6_commit_41 : decode cX6_commit 41 = .ok (.goto 4, 3) := by decide +kernel
theorem dX6_commit_44 : decode cX6_commit 44 = .ok (.iload_n 2, 1) := by decide +kernel
theorem dX6_commit_45 : decode cX6_commit 45 = .ok (.istore_n 3, 1) := by decide +kernel
theorem dX6_commit_46 : decode cX6_commit 46 = .ok (.aload_n 0, 1) := by decide +kernel
theorem dX6_commit_47 : decode cX6_commit 47 = .ok (.getfield 74, 3) := by decide +kernel
theorem dX6_commit_50 : decode cX6_commit 50 = .ok (.iconst 5, 1) := by decide +kernel
theorem dX6_commit_51 : decode cX6_commit 51 = .ok (.if_icmp .ne 7, 3) := by decide +kernel
theorem dX6_commit_54 : decode cX6_commit 54 = .ok (.iconst 0, 1) := by decide +kernel
theorem dX6_commit_55 : decode cX6_commit 55 = .ok (.goto 7, 3) := by decide +kernel
theorem dX6_commit_58 : decode cX6_commit 58 = .ok (.aload_n 0, 1) := by decide +kernel
theorem dX6_commit_59 : decode cX6_commit 59 = .ok (.getfield 74, 3) := by decide +kernel
theorem dX6_commit_62 : decode cX6_commit 62 = .ok (.istore 4, 2) := by decide +kernel
theorem dX6_commit_64 : decode cX6_commit 64 = .ok (.aload_n 0, 1) := by decide +kernel
theorem dX6_commit_65 : decode cX6_commit 65 = .ok (.getfield 71, 3) := by decide +kernel
theorem dX6_commit_68 : decode cX6_commit 68 = .ok (.iload_n 3, 1) := by decide +kernel
theorem dX6_commit_69 : decode cX6_commit 69 = .ok (.isub, 1) := by decide +kernel
theorem dX6_commit_70 : decode cX6_commit 70 = .ok (.istore 5, 2) := by decide +kernel
theorem dX6_commit_72 : decode cX6_commit 72 = .ok (.iload 5, 2) := by decide +kernel
theorem dX6_commit_74 : decode cX6_commit 74 = .ok (.iconst 2, 1) := by decide +kernel
theorem dX6_commit_75 : decode cX6_commit 75 = .ok (.iadd, 1) := by decide +kernel
theorem dX6_commit_76 : decode cX6_commit 76 = .ok (.iconst 3, 1) := by decide +kernel
theorem dX6_commit_77 : decode cX6_commit 77 = .ok (.idiv, 1) := by decide +kernel
theorem dX6_commit_78 : decode cX6_commit 78 = .ok (.istore 6, 2) := by decide +kernel
theorem dX6_commit_80 : decode cX6_commit 80 = .ok (.aload_n 0, 1) := by decide +kernel
theorem dX6_commit_81 : decode cX6_commit 81 = .ok (.iload 6, 2) := by decide +kernel
theorem dX6_commit_83 : decode cX6_commit 83 = .ok (.invokevirtual 116, 3) := by decide +kernel
theorem dX6_commit_86 : decode cX6_commit 86 = .ok (.istore 7, 2) := by decide +kernel
theorem dX6_commit_88 : decode cX6_commit 88 = .ok (.iload 7, 2) := by decide +kernel
theorem dX6_commit_90 : decode cX6_commit 90 = .ok (.ifCond .ge 6, 3) := by decide +kernel
theorem dX6_commit_93 : decode cX6_commit 93 = .ok (.bipush (-3), 2) := by decide +kernel
theorem dX6_commit_95 : decode cX6_commit 95 = .ok (.ireturn, 1) := by decide +kernel
theorem dX6_commit_96 : decode cX6_commit 96 = .ok (.aload_n 0, 1) := by decide +kernel
theorem dX6_commit_97 : decode cX6_commit 97 = .ok (.iload_n 3, 1) := by decide +kernel
theorem dX6_commit_98 : decode cX6_commit 98 = .ok (.invokevirtual 138, 3) := by decide +kernel
theorem dX6_commit_101 : decode cX6_commit 101 = .ok (.iconst 0, 1) := by decide +kernel
theorem dX6_commit_102 : decode cX6_commit 102 = .ok (.istore 8, 2) := by decide +kernel
theorem dX6_commit_104 : decode cX6_commit 104 = .ok (.iload 8, 2) := by decide +kernel
theorem dX6_commit_106 : decode cX6_commit 106 = .ok (.iload 6, 2) := by decide +kernel
theorem dX6_commit_108 : decode cX6_commit 108 = .ok (.if_icmp .ge 22, 3) := by decide +kernel
theorem dX6_commit_111 : decode cX6_commit 111 = .ok (.aload_n 0, 1) := by decide +kernel
theorem dX6_commit_112 : decode cX6_commit 112 = .ok (.iload 7, 2) := by decide +kernel
theorem dX6_commit_114 : decode cX6_commit 114 = .ok (.iload 8, 2) := by decide +kernel
theorem dX6_commit_116 : decode cX6_commit 116 = .ok (.iload 6, 2) := by decide +kernel
theorem dX6_commit_118 : decode cX6_commit 118 = .ok (.iload_n 3, 1) := by decide +kernel
theorem dX6_commit_119 : decode cX6_commit 119 = .ok (.iload 5, 2) := by decide +kernel
theorem dX6_commit_121 : decode cX6_commit 121 = .ok (.invokevirtual 141, 3) := by decide +kernel
theorem dX6_commit_124 : decode cX6_commit 124 = .ok (.iinc 8 1, 3) := by decide +kernel
theorem dX6_commit_127 : decode cX6_commit 127 = .ok (.goto (-23), 3) := by decide +kernel
theorem dX6_commit_130 : decode cX6_commit 130 = .ok (.aload_n 0, 1) := by decide +kernel
theorem dX6_commit_131 : decode cX6_commit 131 = .ok (.getfield 27, 3) := by decide +kernel
theorem dX6_commit_134 : decode cX6_commit 134 = .ok (.iload 4, 2) := by decide +kernel
theorem dX6_commit_136 : decode cX6_commit 136 = .ok (.aload_n 0, 1) := by decide +kernel
theorem dX6_commit_137 : decode cX6_commit 137 = .ok (.getfield 90, 3) := by decide +kernel
theorem dX6_commit_140 : decode cX6_commit 140 = .ok (.iconst 1, 1) := by decide +kernel
theorem dX6_commit_141 : decode cX6_commit 141 = .ok (.iadd, 1) := by decide +kernel
theorem dX6_commit_142 : decode cX6_commit 142 = .ok (.iastore, 1) := by decide +kernel
theorem dX6_commit_143 : decode cX6_commit 143 = .ok (.aload_n 0, 1) := by decide +kernel
theorem dX6_commit_144 : decode cX6_commit 144 = .ok (.getfield 30, 3) := by decide +kernel
theorem dX6_commit_147 : decode cX6_commit 147 = .ok (.iload 4, 2) := by decide +kernel
theorem dX6_commit_149 : decode cX6_commit 149 = .ok (.iload 7, 2) := by decide +kernel
theorem dX6_commit_151 : decode cX6_commit 151 = .ok (.iastore, 1) := by decide +kernel
theorem dX6_commit_152 : decode cX6_commit 152 = .ok (.aload_n 0, 1) := by decide +kernel
theorem dX6_commit_153 : decode cX6_commit 153 = .ok (.getfield 33, 3) := by decide +kernel
theorem dX6_commit_156 : decode cX6_commit 156 = .ok (.iload 4, 2) := by decide +kernel
theorem dX6_commit_158 : decode cX6_commit 158 = .ok (.iload 6, 2) := by decide +kernel
theorem dX6_commit_160 : decode cX6_commit 160 = .ok (.iastore, 1) := by decide +kernel
theorem dX6_commit_161 : decode cX6_commit 161 = .ok (.aload_n 0, 1) := by decide +kernel
theorem dX6_commit_162 : decode cX6_commit 162 = .ok (.getfield 36, 3) := by decide +kernel
theorem dX6_commit_165 : decode cX6_commit 165 = .ok (.iload 4, 2) := by decide +kernel
theorem dX6_commit_167 : decode cX6_commit 167 = .ok (.iload 5, 2) := by decide +kernel
theorem dX6_commit_169 : decode cX6_commit 169 = .ok (.iastore, 1) := by decide +kernel
theorem dX6_commit_170 : decode cX6_commit 170 = .ok (.aload_n 0, 1) := by decide +kernel
theorem dX6_commit_171 : decode cX6_commit 171 = .ok (.iload 4, 2) := by decide +kernel
theorem dX6_commit_173 : decode cX6_commit 173 = .ok (.iconst 1, 1) := by decide +kernel
theorem dX6_commit_174 : decode cX6_commit 174 = .ok (.iadd, 1) := by decide +kernel
theorem dX6_commit_175 : decode cX6_commit 175 = .ok (.invokevirtual 145, 3) := by decide +kernel
theorem dX6_commit_178 : decode cX6_commit 178 = .ok (.ldc2_w 69, 3) := by decide +kernel
theorem dX6_commit_181 : decode cX6_commit 181 = .ok (.aload_n 0, 1) := by decide +kernel
theorem dX6_commit_182 : decode cX6_commit 182 = .ok (.getfield 58, 3) := by decide +kernel
theorem dX6_commit_185 : decode cX6_commit 185 = .ok (.i2l, 1) := by decide +kernel
theorem dX6_commit_186 : decode cX6_commit 186 = .ok (.lmul, 1) := by decide +kernel
theorem dX6_commit_187 : decode cX6_commit 187 = .ok (.lstore 8, 2) := by decide +kernel
theorem dX6_commit_189 : decode cX6_commit 189 = .ok (.iload_n 1, 1) := by decide +kernel
theorem dX6_commit_190 : decode cX6_commit 190 = .ok (.ifCond .lt 25, 3) := by decide +kernel
theorem dX6_commit_193 : decode cX6_commit 193 = .ok (.iload_n 1, 1) := by decide +kernel
theorem dX6_commit_194 : decode cX6_commit 194 = .ok (.i2l, 1) := by decide +kernel
theorem dX6_commit_195 : decode cX6_commit 195 = .ok (.lload 8, 2) := by decide +kernel
theorem dX6_commit_197 : decode cX6_commit 197 = .ok (.lcmp, 1) := by decide +kernel
theorem dX6_commit_198 : decode cX6_commit 198 = .ok (.ifCond .ge 17, 3) := by decide +kernel
theorem dX6_commit_201 : decode cX6_commit 201 = .ok (.aload_n 0, 1) := by decide +kernel
theorem dX6_commit_202 : decode cX6_commit 202 = .ok (.iload_n 1, 1) := by decide +kernel
theorem dX6_commit_203 : decode cX6_commit 203 = .ok (.i2l, 1) := by decide +kernel
theorem dX6_commit_204 : decode cX6_commit 204 = .ok (.invokevirtual 130, 3) := by decide +kernel
theorem dX6_commit_207 : decode cX6_commit 207 = .ok (.pop, 1) := by decide +kernel
theorem dX6_commit_208 : decode cX6_commit 208 = .ok (.aload_n 0, 1) := by decide +kernel
theorem dX6_commit_209 : decode cX6_commit 209 = .ok (.invokevirtual 148, 3) := by decide +kernel
theorem dX6_commit_212 : decode cX6_commit 212 = .ok (.bipush (-2), 2) := by decide +kernel
theorem dX6_commit_214 : decode cX6_commit 214 = .ok (.ireturn, 1) := by decide +kernel
theorem dX6_commit_215 : decode cX6_commit 215 = .ok (.aload_n 0, 1) := by decide +kernel
theorem dX6_commit_216 : decode cX6_commit 216 = .ok (.lload 8, 2) := by decide +kernel
theorem dX6_commit_218 : decode cX6_commit 218 = .ok (.invokevirtual 130, 3) := by decide +kernel
theorem dX6_commit_221 : decode cX6_commit 221 = .ok (.pop, 1) := by decide +kernel
theorem dX6_commit_222 : decode cX6_commit 222 = .ok (.aload_n 0, 1) := by decide +kernel
theorem dX6_commit_223 : decode cX6_commit 223 = .ok (.iload 4, 2) := by decide +kernel
theorem dX6_commit_225 : decode cX6_commit 225 = .ok (.iconst 1, 1) := by decide +kernel
theorem dX6_commit_226 : decode cX6_commit 226 = .ok (.iadd, 1) := by decide +kernel
theorem dX6_commit_227 : decode cX6_commit 227 = .ok (.putfield 74, 3) := by decide +kernel
theorem dX6_commit_230 : decode cX6_commit 230 = .ok (.aload_n 0, 1) := by decide +kernel
theorem dX6_commit_231 : decode cX6_commit 231 = .ok (.iconst 0, 1) := by decide +kernel
theorem dX6_commit_232 : decode cX6_commit 232 = .ok (.putfield 77, 3) := by decide +kernel
theorem dX6_commit_235 : decode cX6_commit 235 = .ok (.aload_n 0, 1) := by decide +kernel
theorem dX6_commit_236 : decode cX6_commit 236 = .ok (.iconst 0, 1) := by decide +kernel
theorem dX6_commit_237 : decode cX6_commit 237 = .ok (.putfield 80, 3) := by decide +kernel
theorem dX6_commit_240 : decode cX6_commit 240 = .ok (.aload_n 0, 1) := by decide +kernel
theorem dX6_commit_241 : decode cX6_commit 241 = .ok (.dup, 1) := by decide +kernel
theorem dX6_commit_242 : decode cX6_commit 242 = .ok (.getfield 90, 3) := by decide +kernel
theorem dX6_commit_245 : decode cX6_commit 245 = .ok (.iconst 1, 1) := by decide +kernel
theorem dX6_commit_246 : decode cX6_commit 246 = .ok (.iadd, 1) := by decide +kernel
theorem dX6_commit_247 : decode cX6_commit 247 = .ok (.putfield 90, 3) := by decide +kernel
theorem dX6_commit_250 : decode cX6_commit 250 = .ok (.aload_n 0, 1) := by decide +kernel
theorem dX6_commit_251 : decode cX6_commit 251 = .ok (.dup, 1) := by decide +kernel
theorem dX6_commit_252 : decode cX6_commit 252 = .ok (.getfield 83, 3) := by decide +kernel
theorem dX6_commit_255 : decode cX6_commit 255 = .ok (.lconst 1, 1) := by decide +kernel
theorem dX6_commit_256 : decode cX6_commit 256 = .ok (.ladd, 1) := by decide +kernel
theorem dX6_commit_257 : decode cX6_commit 257 = .ok (.putfield 83, 3) := by decide +kernel
theorem dX6_commit_260 : decode cX6_commit 260 = .ok (.aload_n 0, 1) := by decide +kernel
theorem dX6_commit_261 : decode cX6_commit 261 = .ok (.getfield 83, 3) := by decide +kernel
theorem dX6_commit_264 : decode cX6_commit 264 = .ok (.l2i, 1) := by decide +kernel
theorem dX6_commit_265 : decode cX6_commit 265 = .ok (.ireturn, 1) := by decide +kernel
theorem dX6_writesFile_0 : decode cX6_writesFile 0 = .ok (.iload 5, 2) := by decide +kernel
theorem dX6_writesFile_2 : decode cX6_writesFile 2 = .ok (.iconst 3, 1) := by decide +kernel
theorem dX6_writesFile_3 : decode cX6_writesFile 3 = .ok (.iload_n 2, 1) := by decide +kernel
theorem dX6_writesFile_4 : decode cX6_writesFile 4 = .ok (.imul, 1) := by decide +kernel
theorem dX6_writesFile_5 : decode cX6_writesFile 5 = .ok (.isub, 1) := by decide +kernel
theorem dX6_writesFile_6 : decode cX6_writesFile 6 = .ok (.iconst 3, 1) := by decide +kernel
theorem dX6_writesFile_7 : decode cX6_writesFile 7 = .ok (.if_icmp .ge 12, 3) := by decide +kernel
theorem dX6_writesFile_10 : decode cX6_writesFile 10 = .ok (.iload 5, 2) := by decide +kernel
theorem dX6_writesFile_12 : decode cX6_writesFile 12 = .ok (.iconst 3, 1) := by decide +kernel
theorem dX6_writesFile_13 : decode cX6_writesFile 13 = .ok (.iload_n 2, 1) := by decide +kernel
theorem dX6_writesFile_14 : decode cX6_writesFile 14 = .ok (.imul, 1) := by decide +kernel
theorem dX6_writesFile_15 : decode cX6_writesFile 15 = .ok (.isub, 1) := by decide +kernel
theorem dX6_writesFile_16 : decode cX6_writesFile 16 = .ok (.goto 4, 3) := by decide +kernel
theorem dX6_writesFile_19 : decode cX6_writesFile 19 = .ok (.iconst 3, 1) := by decide +kernel
theorem dX6_writesFile_20 : decode cX6_writesFile 20 = .ok (.istore 6, 2) := by decide +kernel
theorem dX6_writesFile_22 : decode cX6_writesFile 22 = .ok (.aload_n 0, 1) := by decide +kernel
theorem dX6_writesFile_23 : decode cX6_writesFile 23 = .ok (.iload_n 1, 1) := by decide +kernel
theorem dX6_writesFile_24 : decode cX6_writesFile 24 = .ok (.iload_n 2, 1) := by decide +kernel
theorem dX6_writesFile_25 : decode cX6_writesFile 25 = .ok (.iadd, 1) := by decide +kernel
theorem dX6_writesFile_26 : decode cX6_writesFile 26 = .ok (.invokevirtual 119, 3) := by decide +kernel
theorem dX6_writesFile_29 : decode cX6_writesFile 29 = .ok (.aload_n 0, 1) := by decide +kernel
theorem dX6_writesFile_30 : decode cX6_writesFile 30 = .ok (.iconst 0, 1) := by decide +kernel
theorem dX6_writesFile_31 : decode cX6_writesFile 31 = .ok (.ldc2_w 151, 3) := by decide +kernel
theorem dX6_writesFile_34 : decode cX6_writesFile 34 = .ok (.iconst 1, 1) := by decide +kernel
theorem dX6_writesFile_35 : decode cX6_writesFile 35 = .ok (.invokevirtual 65, 3) := by decide +kernel
theorem dX6_writesFile_38 : decode cX6_writesFile 38 = .ok (.aload_n 0, 1) := by decide +kernel
theorem dX6_writesFile_39 : decode cX6_writesFile 39 = .ok (.iconst 1, 1) := by decide +kernel
theorem dX6_writesFile_40 : decode cX6_writesFile 40 = .ok (.iload 6, 2) := by decide +kernel
theorem dX6_writesFile_42 : decode cX6_writesFile 42 = .ok (.i2l, 1) := by decide +kernel
theorem dX6_writesFile_43 : decode cX6_writesFile 43 = .ok (.iconst 1, 1) := by decide +kernel
theorem dX6_writesFile_44 : decode cX6_writesFile 44 = .ok (.invokevirtual 65, 3) := by decide +kernel
theorem dX6_writesFile_47 : decode cX6_writesFile 47 = .ok (.aload_n 0, 1) := by decide +kernel
theorem dX6_writesFile_48 : decode cX6_writesFile 48 = .ok (.iconst 2, 1) := by decide +kernel
theorem dX6_writesFile_49 : decode cX6_writesFile 49 = .ok (.aload_n 0, 1) := by decide +kernel
theorem dX6_writesFile_50 : decode cX6_writesFile 50 = .ok (.getfield 90, 3) := by decide +kernel
theorem dX6_writesFile_53 : decode cX6_writesFile 53 = .ok (.iconst 1, 1) := by decide +kernel
theorem dX6_writesFile_54 : decode cX6_writesFile 54 = .ok (.iadd, 1) := by decide +kernel
theorem dX6_writesFile_55 : decode cX6_writesFile 55 = .ok (.i2l, 1) := by decide +kernel
theorem dX6_writesFile_56 : decode cX6_writesFile 56 = .ok (.iconst 2, 1) := by decide +kernel
theorem dX6_writesFile_57 : decode cX6_writesFile 57 = .ok (.invokevirtual 65, 3) := by decide +kernel
theorem dX6_writesFile_60 : decode cX6_writesFile 60 = .ok (.aload_n 0, 1) := by decide +kernel
theorem dX6_writesFile_61 : decode cX6_writesFile 61 = .ok (.iconst 4, 1) := by decide +kernel
theorem dX6_writesFile_62 : decode cX6_writesFile 62 = .ok (.iload_n 2, 1) := by decide +kernel
theorem dX6_writesFile_63 : decode cX6_writesFile 63 = .ok (.i2l, 1) := by decide +kernel
theorem dX6_writesFile_64 : decode cX6_writesFile 64 = .ok (.iconst 2, 1) := by decide +kernel
theorem dX6_writesFile_65 : decode cX6_writesFile 65 = .ok (.invokevirtual 65, 3) := by decide +kernel
theorem dX6_writesFile_68 : decode cX6_writesFile 68 = .ok (.aload_n 0, 1) := by decide +kernel
theorem dX6_writesFile_69 : decode cX6_writesFile 69 = .ok (.bipush 6, 2) := by decide +kernel
theorem dX6_writesFile_71 : decode cX6_writesFile 71 = .ok (.iload_n 3, 1) := by decide +kernel
theorem dX6_writesFile_72 : decode cX6_writesFile 72 = .ok (.i2l, 1) := by decide +kernel
theorem dX6_writesFile_73 : decode cX6_writesFile 73 = .ok (.iconst 2, 1) := by decide +kernel
theorem dX6_writesFile_74 : decode cX6_writesFile 74 = .ok (.invokevirtual 65, 3) := by decide +kernel
theorem dX6_writesFile_77 : decode cX6_writesFile 77 = .ok (.iconst 0, 1) := by decide +kernel
theorem dX6_writesFile_78 : decode cX6_writesFile 78 = .ok (.istore 7, 2) := by decide +kernel
theorem dX6_writesFile_80 : decode cX6_writesFile 80 = .ok (.iload 7, 2) := by decide +kernel
theorem dX6_writesFile_82 : decode cX6_writesFile 82 = .ok (.iload 6, 2) := by decide +kernel
theorem dX6_writesFile_84 : decode cX6_writesFile 84 = .ok (.if_icmp .ge 65, 3) := by decide +kernel
theorem dX6_writesFile_87 : decode cX6_writesFile 87 = .ok (.aload_n 0, 1) := by decide +kernel
theorem dX6_writesFile_88 : decode cX6_writesFile 88 = .ok (.bipush 8, 2) := by decide +kernel
theorem dX6_writesFile_90 : decode cX6_writesFile 90 = .ok (.bipush 16, 2) := by decide +kernel
theorem dX6_writesFile_92 : decode cX6_writesFile 92 = .ok (.iload 7, 2) := by decide +kernel
theorem dX6_writesFile_94 : decode cX6_writesFile 94 = .ok (.imul, 1) := by decide +kernel
theorem dX6_writesFile_95 : decode cX6_writesFile 95 = .ok (.iadd, 1) := by decide +kernel
theorem dX6_writesFile_96 : decode cX6_writesFile 96 = .ok (.aload_n 0, 1) := by decide +kernel
theorem dX6_writesFile_97 : decode cX6_writesFile 97 = .ok (.getfield 20, 3) := by decide +kernel
theorem dX6_writesFile_100 : decode cX6_writesFile 100 = .ok (.iload 4, 2) := by decide +kernel
theorem dX6_writesFile_102 : decode cX6_writesFile 102 = .ok (.iconst 3, 1) := by decide +kernel
theorem dX6_writesFile_103 : decode cX6_writesFile 103 = .ok (.iload_n 2, 1) := by decide +kernel
theorem dX6_writesFile_104 : decode cX6_writesFile 104 = .ok (.imul, 1) := by decide +kernel
theorem dX6_writesFile_105 : decode cX6_writesFile 105 = .ok (.iadd, 1) := by decide +kernel
theorem dX6_writesFile_106 : decode cX6_writesFile 106 = .ok (.iload 7, 2) := by decide +kernel
theorem dX6_writesFile_108 : decode cX6_writesFile 108 = .ok (.iadd, 1) := by decide +kernel
theorem dX6_writesFile_109 : decode cX6_writesFile 109 = .ok (.laload, 1) := by decide +kernel
theorem dX6_writesFile_110 : decode cX6_writesFile 110 = .ok (.bipush 8, 2) := by decide +kernel
theorem dX6_writesFile_112 : decode cX6_writesFile 112 = .ok (.invokevirtual 65, 3) := by decide +kernel
theorem dX6_writesFile_115 : decode cX6_writesFile 115 = .ok (.aload_n 0, 1) := by decide +kernel
theorem dX6_writesFile_116 : decode cX6_writesFile 116 = .ok (.bipush 16, 2) := by decide +kernel
theorem dX6_writesFile_118 : decode cX6_writesFile 118 = .ok (.bipush 16, 2) := by decide +kernel
theorem dX6_writesFile_120 : decode cX6_writesFile 120 = .ok (.iload 7, 2) := by decide +kernel
theorem dX6_writesFile_122 : decode cX6_writesFile 122 = .ok (.imul, 1) := by decide +kernel
theorem dX6_writesFile_123 : decode cX6_writesFile 123 = .ok (.iadd, 1) := by decide +kernel
theorem dX6_writesFile_124 : decode cX6_writesFile 124 = .ok (.aload_n 0, 1) := by decide +kernel
theorem dX6_writesFile_125 : decode cX6_writesFile 125 = .ok (.getfield 24, 3) := by decide +kernel
theorem dX6_writesFile_128 : decode cX6_writesFile 128 = .ok (.iload 4, 2) := by decide +kernel
theorem dX6_writesFile_130 : decode cX6_writesFile 130 = .ok (.iconst 3, 1) := by decide +kernel
theorem dX6_writesFile_131 : decode cX6_writesFile 131 = .ok (.iload_n 2, 1) := by decide +kernel
theorem dX6_writesFile_132 : decode cX6_writesFile 132 = .ok (.imul, 1) := by decide +kernel
theorem dX6_writesFile_133 : decode cX6_writesFile 133 = .ok (.iadd, 1) := by decide +kernel
theorem dX6_writesFile_134 : decode cX6_writesFile 134 = .ok (.iload 7, 2) := by decide +kernel
theorem dX6_writesFile_136 : decode cX6_writesFile 136 = .ok (.iadd, 1) := by decide +kernel
theorem dX6_writesFile_137 : decode cX6_writesFile 137 = .ok (.laload, 1) := by decide +kernel
theorem dX6_writesFile_138 : decode cX6_writesFile 138 = .ok (.bipush 8, 2) := by decide +kernel
theorem dX6_writesFile_140 : decode cX6_writesFile 140 = .ok (.invokevirtual 65, 3) := by decide +kernel
theorem dX6_writesFile_143 : decode cX6_writesFile 143 = .ok (.iinc 7 1, 3) := by decide +kernel
theorem dX6_writesFile_146 : decode cX6_writesFile 146 = .ok (.goto (-66), 3) := by decide +kernel
theorem dX6_writesFile_149 : decode cX6_writesFile 149 = .ok (.aload_n 0, 1) := by decide +kernel
theorem dX6_writesFile_150 : decode cX6_writesFile 150 = .ok (.invokevirtual 123, 3) := by decide +kernel
theorem dX6_writesFile_153 : decode cX6_writesFile 153 = .ok (.return_, 1) := by decide +kernel
theorem dX6_writesHead_0 : decode cX6_writesHead 0 = .ok (.aload_n 0, 1) := by decide +kernel
theorem dX6_writesHead_1 : decode cX6_writesHead 1 = .ok (.getfield 83, 3) := by decide +kernel
theorem dX6_writesHead_4 : decode cX6_writesHead 4 = .ok (.lconst 1, 1) := by decide +kernel
theorem dX6_writesHead_5 : decode cX6_writesHead 5 = .ok (.ladd, 1) := by decide +kernel
theorem dX6_writesHead_6 : decode cX6_writesHead 6 = .ok (.lstore_n 2, 1) := by decide +kernel
theorem dX6_writesHead_7 : decode cX6_writesHead 7 = .ok (.aload_n 0, 1) := by decide +kernel
theorem dX6_writesHead_8 : decode cX6_writesHead 8 = .ok (.lload_n 2, 1) := by decide +kernel
theorem dX6_writesHead_9 : decode cX6_writesHead 9 = .ok (.ldc2_w 151, 3) := by decide +kernel
theorem dX6_writesHead_12 : decode cX6_writesHead 12 = .ok (.lrem, 1) := by decide +kernel
theorem dX6_writesHead_13 : decode cX6_writesHead 13 = .ok (.l2i, 1) := by decide +kernel
theorem dX6_writesHead_14 : decode cX6_writesHead 14 = .ok (.invokevirtual 119, 3) := by decide +kernel
theorem dX6_writesHead_17 : decode cX6_writesHead 17 = .ok (.aload_n 0, 1) := by decide +kernel
theorem dX6_writesHead_18 : decode cX6_writesHead 18 = .ok (.iconst 0, 1) := by decide +kernel
theorem dX6_writesHead_19 : decode cX6_writesHead 19 = .ok (.ldc2_w 153, 3) := by decide +kernel
theorem dX6_writesHead_22 : decode cX6_writesHead 22 = .ok (.iconst 1, 1) := by decide +kernel
theorem dX6_writesHead_23 : decode cX6_writesHead 23 = .ok (.invokevirtual 65, 3) := by decide +kernel
theorem dX6_writesHead_26 : decode cX6_writesHead 26 = .ok (.aload_n 0, 1) := by decide +kernel
theorem dX6_writesHead_27 : decode cX6_writesHead 27 = .ok (.iconst 1, 1) := by decide +kernel
theorem dX6_writesHead_28 : decode cX6_writesHead 28 = .ok (.iload_n 1, 1) := by decide +kernel
theorem dX6_writesHead_29 : decode cX6_writesHead 29 = .ok (.i2l, 1) := by decide +kernel
theorem dX6_writesHead_30 : decode cX6_writesHead 30 = .ok (.iconst 1, 1) := by decide +kernel
theorem dX6_writesHead_31 : decode cX6_writesHead 31 = .ok (.invokevirtual 65, 3) := by decide +kernel
theorem dX6_writesHead_34 : decode cX6_writesHead 34 = .ok (.aload_n 0, 1) := by decide +kernel
theorem dX6_writesHead_35 : decode cX6_writesHead 35 = .ok (.iconst 2, 1) := by decide +kernel
theorem dX6_writesHead_36 : decode cX6_writesHead 36 = .ok (.lload_n 2, 1) := by decide +kernel
theorem dX6_writesHead_37 : decode cX6_writesHead 37 = .ok (.bipush 6, 2) := by decide +kernel
theorem dX6_writesHead_39 : decode cX6_writesHead 39 = .ok (.invokevirtual 65, 3) := by decide +kernel
theorem dX6_writesHead_42 : decode cX6_writesHead 42 = .ok (.iconst 0, 1) := by decide +kernel
theorem dX6_writesHead_43 : decode cX6_writesHead 43 = .ok (.istore 4, 2) := by decide +kernel
theorem dX6_writesHead_45 : decode cX6_writesHead 45 = .ok (.iload 4, 2) := by decide +kernel
theorem dX6_writesHead_47 : decode cX6_writesHead 47 = .ok (.iload_n 1, 1) := by decide +kernel
theorem dX6_writesHead_48 : decode cX6_writesHead 48 = .ok (.if_icmp .ge 93, 3) := by decide +kernel
theorem dX6_writesHead_51 : decode cX6_writesHead 51 = .ok (.aload_n 0, 1) := by decide +kernel
theorem dX6_writesHead_52 : decode cX6_writesHead 52 = .ok (.bipush 8, 2) := by decide +kernel
theorem dX6_writesHead_54 : decode cX6_writesHead 54 = .ok (.bipush 8, 2) := by decide +kernel
theorem dX6_writesHead_56 : decode cX6_writesHead 56 = .ok (.iload 4, 2) := by decide +kernel
theorem dX6_writesHead_58 : decode cX6_writesHead 58 = .ok (.imul, 1) := by decide +kernel
theorem dX6_writesHead_59 : decode cX6_writesHead 59 = .ok (.iadd, 1) := by decide +kernel
theorem dX6_writesHead_60 : decode cX6_writesHead 60 = .ok (.aload_n 0, 1) := by decide +kernel
theorem dX6_writesHead_61 : decode cX6_writesHead 61 = .ok (.getfield 27, 3) := by decide +kernel
theorem dX6_writesHead_64 : decode cX6_writesHead 64 = .ok (.iload 4, 2) := by decide +kernel
theorem dX6_writesHead_66 : decode cX6_writesHead 66 = .ok (.iaload, 1) := by decide +kernel
theorem dX6_writesHead_67 : decode cX6_writesHead 67 = .ok (.i2l, 1) := by decide +kernel
theorem dX6_writesHead_68 : decode cX6_writesHead 68 = .ok (.iconst 2, 1) := by decide +kernel
theorem dX6_writesHead_69 : decode cX6_writesHead 69 = .ok (.invokevirtual 65, 3) := by decide +kernel
theorem dX6_writesHead_72 : decode cX6_writesHead 72 = .ok (.aload_n 0, 1) := by decide +kernel
theorem dX6_writesHead_73 : decode cX6_writesHead 73 = .ok (.bipush 10, 2) := by decide +kernel
theorem dX6_writesHead_75 : decode cX6_writesHead 75 = .ok (.bipush 8, 2) := by decide +kernel
theorem dX6_writesHead_77 : decode cX6_writesHead 77 = .ok (.iload 4, 2) := by decide +kernel
theorem dX6_writesHead_79 : decode cX6_writesHead 79 = .ok (.imul, 1) := by decide +kernel
theorem dX6_writesHead_80 : decode cX6_writesHead 80 = .ok (.iadd, 1) := by decide +kernel
theorem dX6_writesHead_81 : decode cX6_writesHead 81 = .ok (.aload_n 0, 1) := by decide +kernel
theorem dX6_writesHead_82 : decode cX6_writesHead 82 = .ok (.getfield 30, 3) := by decide +kernel
theorem dX6_writesHead_85 : decode cX6_writesHead 85 = .ok (.iload 4, 2) := by decide +kernel
theorem dX6_writesHead_87 : decode cX6_writesHead 87 = .ok (.iaload, 1) := by decide +kernel
theorem dX6_writesHead_88 : decode cX6_writesHead 88 = .ok (.i2l, 1) := by decide +kernel
theorem dX6_writesHead_89 : decode cX6_writesHead 89 = .ok (.iconst 2, 1) := by decide +kernel
theorem dX6_writesHead_90 : decode cX6_writesHead 90 = .ok (.invokevirtual 65, 3) := by decide +kernel
theorem dX6_writesHead_93 : decode cX6_writesHead 93 = .ok (.aload_n 0, 1) := by decide +kernel
theorem dX6_writesHead_94 : decode cX6_writesHead 94 = .ok (.bipush 12, 2) := by decide +kernel
theorem dX6_writesHead_96 : decode cX6_writesHead 96 = .ok (.bipush 8, 2) := by decide +kernel
theorem dX6_writesHead_98 : decode cX6_writesHead 98 = .ok (.iload 4, 2) := by decide +kernel
theorem dX6_writesHead_100 : decode cX6_writesHead 100 = .ok (.imul, 1) := by decide +kernel
theorem dX6_writesHead_101 : decode cX6_writesHead 101 = .ok (.iadd, 1) := by decide +kernel
theorem dX6_writesHead_102 : decode cX6_writesHead 102 = .ok (.aload_n 0, 1) := by decide +kernel
theorem dX6_writesHead_103 : decode cX6_writesHead 103 = .ok (.getfield 33, 3) := by decide +kernel
theorem dX6_writesHead_106 : decode cX6_writesHead 106 = .ok (.iload 4, 2) := by decide +kernel
theorem dX6_writesHead_108 : decode cX6_writesHead 108 = .ok (.iaload, 1) := by decide +kernel
theorem dX6_writesHead_109 : decode cX6_writesHead 109 = .ok (.i2l, 1) := by decide +kernel
theorem dX6_writesHead_110 : decode cX6_writesHead 110 = .ok (.iconst 2, 1) := by decide +kernel
theorem dX6_writesHead_111 : decode cX6_writesHead 111 = .ok (.invokevirtual 65, 3) := by decide +kernel
theorem dX6_writesHead_114 : decode cX6_writesHead 114 = .ok (.aload_n 0, 1) := by decide +kernel
theorem dX6_writesHead_115 : decode cX6_writesHead 115 = .ok (.bipush 14, 2) := by decide +kernel
theorem dX6_writesHead_117 : decode cX6_writesHead 117 = .ok (.bipush 8, 2) := by decide +kernel
theorem dX6_writesHead_119 : decode cX6_writesHead 119 = .ok (.iload 4, 2) := by decide +kernel
theorem dX6_writesHead_121 : decode cX6_writesHead 121 = .ok (.imul, 1) := by decide +kernel
theorem dX6_writesHead_122 : decode cX6_writesHead 122 = .ok (.iadd, 1) := by decide +kernel
theorem dX6_writesHead_123 : decode cX6_writesHead 123 = .ok (.aload_n 0, 1) := by decide +kernel
theorem dX6_writesHead_124 : decode cX6_writesHead 124 = .ok (.getfield 36, 3) := by decide +kernel
theorem dX6_writesHead_127 : decode cX6_writesHead 127 = .ok (.iload 4, 2) := by decide +kernel
theorem dX6_writesHead_129 : decode cX6_writesHead 129 = .ok (.iaload, 1) := by decide +kernel
theorem dX6_writesHead_130 : decode cX6_writesHead 130 = .ok (.i2l, 1) := by decide +kernel
theorem dX6_writesHead_131 : decode cX6_writesHead 131 = .ok (.iconst 2, 1) := by decide +kernel
theorem dX6_writesHead_132 : decode cX6_writesHead 132 = .ok (.invokevirtual 65, 3) := by decide +kernel
theorem dX6_writesHead_135 : decode cX6_writesHead 135 = .ok (.iinc 4 1, 3) := by decide +kernel
theorem dX6_writesHead_138 : decode cX6_writesHead 138 = .ok (.goto (-93), 3) := by decide +kernel
theorem dX6_writesHead_141 : decode cX6_writesHead 141 = .ok (.aload_n 0, 1) := by decide +kernel
theorem dX6_writesHead_142 : decode cX6_writesHead 142 = .ok (.bipush 48, 2) := by decide +kernel
theorem dX6_writesHead_144 : decode cX6_writesHead 144 = .ok (.aload_n 0, 1) := by decide +kernel
theorem dX6_writesHead_145 : decode cX6_writesHead 145 = .ok (.getfield 87, 3) := by decide +kernel
theorem dX6_writesHead_148 : decode cX6_writesHead 148 = .ok (.bipush 8, 2) := by decide +kernel
theorem dX6_writesHead_150 : decode cX6_writesHead 150 = .ok (.invokevirtual 65, 3) := by decide +kernel
theorem dX6_writesHead_153 : decode cX6_writesHead 153 = .ok (.aload_n 0, 1) := by decide +kernel
theorem dX6_writesHead_154 : decode cX6_writesHead 154 = .ok (.invokevirtual 123, 3) := by decide +kernel
theorem dX6_writesHead_157 : decode cX6_writesHead 157 = .ok (.return_, 1) := by decide +kernel
theorem dX6_closes_0 : decode cX6_closes 0 = .ok (.aload_n 0, 1) := by decide +kernel
theorem dX6_closes_1 : decode cX6_closes 1 = .ok (.invokevirtual 102, 3) := by decide +kernel
theorem dX6_closes_4 : decode cX6_closes 4 = .ok (.aload_n 0, 1) := by decide +kernel
theorem dX6_closes_5 : decode cX6_closes 5 = .ok (.iconst 0, 1) := by decide +kernel
theorem dX6_closes_6 : decode cX6_closes 6 = .ok (.putfield 105, 3) := by decide +kernel
theorem dX6_closes_9 : decode cX6_closes 9 = .ok (.return_, 1) := by decide +kernel
theorem dX6_crash_0 : decode cX6_crash 0 = .ok (.iload_n 1, 1) := by decide +kernel
theorem dX6_crash_1 : decode cX6_crash 1 = .ok (.ifCond .ge 5, 3) := by decide +kernel
theorem dX6_crash_4 : decode cX6_crash 4 = .ok (.iconst (-1), 1) := by decide +kernel
theorem dX6_crash_5 : decode cX6_crash 5 = .ok (.ireturn, 1) := by decide +kernel
theorem dX6_crash_6 : decode cX6_crash 6 = .ok (.aload_n 0, 1) := by decide +kernel
theorem dX6_crash_7 : decode cX6_crash 7 = .ok (.getfield 105, 3) := by decide +kernel
theorem dX6_crash_10 : decode cX6_crash 10 = .ok (.ifCond .ne 6, 3) := by decide +kernel
theorem dX6_crash_13 : decode cX6_crash 13 = .ok (.bipush (-4), 2) := by decide +kernel
theorem dX6_crash_15 : decode cX6_crash 15 = .ok (.ireturn, 1) := by decide +kernel
theorem dX6_crash_16 : decode cX6_crash 16 = .ok (.aload_n 0, 1) := by decide +kernel
theorem dX6_crash_17 : decode cX6_crash 17 = .ok (.iload_n 1, 1) := by decide +kernel
theorem dX6_crash_18 : decode cX6_crash 18 = .ok (.i2l, 1) := by decide +kernel
theorem dX6_crash_19 : decode cX6_crash 19 = .ok (.invokevirtual 130, 3) := by decide +kernel
theorem dX6_crash_22 : decode cX6_crash 22 = .ok (.istore_n 2, 1) := by decide +kernel
theorem dX6_crash_23 : decode cX6_crash 23 = .ok (.aload_n 0, 1) := by decide +kernel
theorem dX6_crash_24 : decode cX6_crash 24 = .ok (.invokevirtual 148, 3) := by decide +kernel
theorem dX6_crash_27 : decode cX6_crash 27 = .ok (.iload_n 2, 1) := by decide +kernel
theorem dX6_crash_28 : decode cX6_crash 28 = .ok (.ireturn, 1) := by decide +kernel
theorem dX6_isHead_0 : decode cX6_isHead 0 = .ok (.bipush 64, 2) := by decide +kernel
theorem dX6_isHead_2 : decode cX6_isHead 2 = .ok (.iload_n 1, 1) := by decide +kernel
theorem dX6_isHead_3 : decode cX6_isHead 3 = .ok (.imul, 1) := by decide +kernel
theorem dX6_isHead_4 : decode cX6_isHead 4 = .ok (.istore_n 2, 1) := by decide +kernel
theorem dX6_isHead_5 : decode cX6_isHead 5 = .ok (.aload_n 0, 1) := by decide +kernel
theorem dX6_isHead_6 : decode cX6_isHead 6 = .ok (.getfield 7, 3) := by decide +kernel
theorem dX6_isHead_9 : decode cX6_isHead 9 = .ok (.iload_n 2, 1) := by decide +kernel
theorem dX6_isHead_10 : decode cX6_isHead 10 = .ok (.iconst 2, 1) := by decide +kernel
theorem dX6_isHead_11 : decode cX6_isHead 11 = .ok (.iadd, 1) := by decide +kernel
theorem dX6_isHead_12 : decode cX6_isHead 12 = .ok (.bipush 6, 2) := by decide +kernel
theorem dX6_isHead_14 : decode cX6_isHead 14 = .ok (.invokestatic 51, 3) := by decide +kernel
theorem dX6_isHead_17 : decode cX6_isHead 17 = .ok (.lstore_n 3, 1) := by decide +kernel
theorem dX6_isHead_18 : decode cX6_isHead 18 = .ok (.aload_n 0, 1) := by decide +kernel
theorem dX6_isHead_19 : decode cX6_isHead 19 = .ok (.iload_n 1, 1) := by decide +kernel
theorem dX6_isHead_20 : decode cX6_isHead 20 = .ok (.invokevirtual 155, 3) := by decide +kernel
theorem dX6_isHead_23 : decode cX6_isHead 23 = .ok (.ifCond .eq 81, 3) := by decide +kernel
theorem dX6_isHead_26 : decode cX6_isHead 26 = .ok (.aload_n 0, 1) := by decide +kernel
theorem dX6_isHead_27 : decode cX6_isHead 27 = .ok (.getfield 7, 3) := by decide +kernel
theorem dX6_isHead_30 : decode cX6_isHead 30 = .ok (.iload_n 2, 1) := by decide +kernel
theorem dX6_isHead_31 : decode cX6_isHead 31 = .ok (.baload, 1) := by decide +kernel
theorem dX6_isHead_32 : decode cX6_isHead 32 = .ok (.iconst 3, 1) := by decide +kernel
theorem dX6_isHead_33 : decode cX6_isHead 33 = .ok (.if_icmp .ne 71, 3) := by decide +kernel
theorem dX6_isHead_36 : decode cX6_isHead 36 = .ok (.aload_n 0, 1) := by decide +kernel
theorem dX6_isHead_37 : decode cX6_isHead 37 = .ok (.getfield 7, 3) := by decide +kernel
theorem dX6_isHead_40 : decode cX6_isHead 40 = .ok (.iload_n 2, 1) := by decide +kernel
theorem dX6_isHead_41 : decode cX6_isHead 41 = .ok (.iconst 1, 1) := by decide +kernel
theorem dX6_isHead_42 : decode cX6_isHead 42 = .ok (.iadd, 1) := by decide +kernel
theorem dX6_isHead_43 : decode cX6_isHead 43 = .ok (.baload, 1) := by decide +kernel
theorem dX6_isHead_44 : decode cX6_isHead 44 = .ok (.i2l, 1) := by decide +kernel
theorem dX6_isHead_45 : decode cX6_isHead 45 = .ok (.lconst 0, 1) := by decide +kernel
theorem dX6_isHead_46 : decode cX6_isHead 46 = .ok (.ldc2_w 158, 3) := by decide +kernel
theorem dX6_isHead_49 : decode cX6_isHead 49 = .ok (.invokestatic 95, 3) := by decide +kernel
theorem dX6_isHead_52 : decode cX6_isHead 52 = .ok (.ifCond .eq 52, 3) := by decide +kernel
theorem dX6_isHead_55 : decode cX6_isHead 55 = .ok (.lload_n 3, 1) := by decide +kernel
theorem dX6_isHead_56 : decode cX6_isHead 56 = .ok (.lconst 1, 1) := by decide +kernel
theorem dX6_isHead_57 : decode cX6_isHead 57 = .ok (.ldc2_w 160, 3) := by decide +kernel
theorem dX6_isHead_60 : decode cX6_isHead 60 = .ok (.invokestatic 95, 3) := by decide +kernel
theorem dX6_isHead_63 : decode cX6_isHead 63 = .ok (.ifCond .eq 41, 3) := by decide +kernel
theorem dX6_isHead_66 : decode cX6_isHead 66 = .ok (.lload_n 3, 1) := by decide +kernel
theorem dX6_isHead_67 : decode cX6_isHead 67 = .ok (.ldc2_w 151, 3) := by decide +kernel
theorem dX6_isHead_70 : decode cX6_isHead 70 = .ok (.lrem, 1) := by decide +kernel
theorem dX6_isHead_71 : decode cX6_isHead 71 = .ok (.iload_n 1, 1) := by decide +kernel
theorem dX6_isHead_72 : decode cX6_isHead 72 = .ok (.i2l, 1) := by decide +kernel
theorem dX6_isHead_73 : decode cX6_isHead 73 = .ok (.lcmp, 1) := by decide +kernel
theorem dX6_isHead_74 : decode cX6_isHead 74 = .ok (.ifCond .ne 30, 3) := by decide +kernel
theorem dX6_isHead_77 : decode cX6_isHead 77 = .ok (.aload_n 0, 1) := by decide +kernel
theorem dX6_isHead_78 : decode cX6_isHead 78 = .ok (.getfield 7, 3) := by decide +kernel
theorem dX6_isHead_81 : decode cX6_isHead 81 = .ok (.iload_n 2, 1) := by decide +kernel
theorem dX6_isHead_82 : decode cX6_isHead 82 = .ok (.bipush 48, 2) := by decide +kernel
theorem dX6_isHead_84 : decode cX6_isHead 84 = .ok (.iadd, 1) := by decide +kernel
theorem dX6_isHead_85 : decode cX6_isHead 85 = .ok (.bipush 8, 2) := by decide +kernel
theorem dX6_isHead_87 : decode cX6_isHead 87 = .ok (.invokestatic 51, 3) := by decide +kernel
theorem dX6_isHead_90 : decode cX6_isHead 90 = .ok (.lconst 1, 1) := by decide +kernel
theorem dX6_isHead_91 : decode cX6_isHead 91 = .ok (.ldc2_w 160, 3) := by decide +kernel
theorem dX6_isHead_94 : decode cX6_isHead 94 = .ok (.invokestatic 95, 3) := by decide +kernel
theorem dX6_isHead_97 : decode cX6_isHead 97 = .ok (.ifCond .eq 7, 3) := by decide +kernel
theorem dX6_isHead_100 : decode cX6_isHead 100 = .ok (.iconst 1, 1) := by decide +kernel
theorem dX6_isHead_101 : decode cX6_isHead 101 = .ok (.goto 4, 3) := by decide +kernel
theorem dX6_isHead_104 : decode cX6_isHead 104 = .ok (.iconst 0, 1) := by decide +kernel
theorem dX6_isHead_105 : decode cX6_isHead 105 = .ok (.istore 5, 2) := by decide +kernel
theorem dX6_isHead_107 : decode cX6_isHead 107 = .ok (.iload 5, 2) := by decide +kernel
theorem dX6_isHead_109 : decode cX6_isHead 109 = .ok (.ifCond .ne 5, 3) := by decide +kernel
theorem dX6_isHead_112 : decode cX6_isHead 112 = .ok (.iconst 0, 1) := by decide +kernel
theorem dX6_isHead_113 : decode cX6_isHead 113 = .ok (.ireturn, 1) := by decide +kernel
theorem dX6_isHead_114 : decode cX6_isHead 114 = .ok (.iconst 0, 1) := by decide +kernel
theorem dX6_isHead_115 : decode cX6_isHead 115 = .ok (.istore 6, 2) := by decide +kernel
theorem dX6_isHead_117 : decode cX6_isHead 117 = .ok (.iload 6, 2) := by decide +kernel
theorem dX6_isHead_119 : decode cX6_isHead 119 = .ok (.aload_n 0, 1) := by decide +kernel
theorem dX6_isHead_120 : decode cX6_isHead 120 = .ok (.getfield 7, 3) := by decide +kernel
theorem dX6_isHead_123 : decode cX6_isHead 123 = .ok (.iload_n 2, 1) := by decide +kernel
theorem dX6_isHead_124 : decode cX6_isHead 124 = .ok (.iconst 1, 1) := by decide +kernel
theorem dX6_isHead_125 : decode cX6_isHead 125 = .ok (.iadd, 1) := by decide +kernel
theorem dX6_isHead_126 : decode cX6_isHead 126 = .ok (.baload, 1) := by decide +kernel
theorem dX6_isHead_127 : decode cX6_isHead 127 = .ok (.if_icmp .ge 34, 3) := by decide +kernel
theorem dX6_isHead_130 : decode cX6_isHead 130 = .ok (.aload_n 0, 1) := by decide +kernel
theorem dX6_isHead_131 : decode cX6_isHead 131 = .ok (.iload_n 2, 1) := by decide +kernel
theorem dX6_isHead_132 : decode cX6_isHead 132 = .ok (.bipush 8, 2) := by decide +kernel
theorem dX6_isHead_134 : decode cX6_isHead 134 = .ok (.iadd, 1) := by decide +kernel
theorem dX6_isHead_135 : decode cX6_isHead 135 = .ok (.bipush 8, 2) := by decide +kernel
theorem dX6_isHead_137 : decode cX6_isHead 137 = .ok (.iload 6, 2) := by decide +kernel
theorem dX6_isHead_139 : decode cX6_isHead 139 = .ok (.imul, 1) := by decide +kernel
theorem dX6_isHead_140 : decode cX6_isHead 140 = .ok (.iadd, 1) := by decide +kernel
theorem dX6_isHead_141 : decode cX6_isHead 141 = .ok (.iload_n 2, 1) := by decide +kernel
theorem dX6_isHead_142 : decode cX6_isHead 142 = .ok (.bipush 8, 2) := by decide +kernel
theorem dX6_isHead_144 : decode cX6_isHead 144 = .ok (.iadd, 1) := by decide +kernel
theorem dX6_isHead_145 : decode cX6_isHead 145 = .ok (.iload 6, 2) := by decide +kernel
theorem dX6_isHead_147 : decode cX6_isHead 147 = .ok (.invokevirtual 162, 3) := by decide +kernel
theorem dX6_isHead_150 : decode cX6_isHead 150 = .ok (.ifCond .ne 5, 3) := by decide +kernel
theorem dX6_isHead_153 : decode cX6_isHead 153 = .ok (.iconst 0, 1) := by decide +kernel
theorem dX6_isHead_154 : decode cX6_isHead 154 = .ok (.ireturn, 1) := by decide +kernel
theorem dX6_isHead_155 : decode cX6_isHead 155 = .ok (.iinc 6 1, 3) := by decide +kernel
theorem dX6_isHead_158 : decode cX6_isHead 158 = .ok (.goto (-41), 3) := by decide +kernel
theorem dX6_isHead_161 : decode cX6_isHead 161 = .ok (.iconst 1, 1) := by decide +kernel
theorem dX6_isHead_162 : decode cX6_isHead 162 = .ok (.ireturn, 1) := by decide +kernel
theorem dX6_isFile_0 : decode cX6_isFile 0 = .ok (.aload_n 0, 1) := by decide +kernel
theorem dX6_isFile_1 : decode cX6_isFile 1 = .ok (.getfield 7, 3) := by decide +kernel
theorem dX6_isFile_4 : decode cX6_isFile 4 = .ok (.iload_n 1, 1) := by decide +kernel
theorem dX6_isFile_5 : decode cX6_isFile 5 = .ok (.iconst 2, 1) := by decide +kernel
theorem dX6_isFile_6 : decode cX6_isFile 6 = .ok (.iadd, 1) := by decide +kernel
theorem dX6_isFile_7 : decode cX6_isFile 7 = .ok (.iconst 2, 1) := by decide +kernel
theorem dX6_isFile_8 : decode cX6_isFile 8 = .ok (.invokestatic 51, 3) := by decide +kernel
theorem dX6_isFile_11 : decode cX6_isFile 11 = .ok (.lstore 4, 2) := by decide +kernel
theorem dX6_isFile_13 : decode cX6_isFile 13 = .ok (.aload_n 0, 1) := by decide +kernel
theorem dX6_isFile_14 : decode cX6_isFile 14 = .ok (.getfield 7, 3) := by decide +kernel
theorem dX6_isFile_17 : decode cX6_isFile 17 = .ok (.iload_n 1, 1) := by decide +kernel
theorem dX6_isFile_18 : decode cX6_isFile 18 = .ok (.iconst 4, 1) := by decide +kernel
theorem dX6_isFile_19 : decode cX6_isFile 19 = .ok (.iadd, 1) := by decide +kernel
theorem dX6_isFile_20 : decode cX6_isFile 20 = .ok (.iconst 2, 1) := by decide +kernel
theorem dX6_isFile_21 : decode cX6_isFile 21 = .ok (.invokestatic 51, 3) := by decide +kernel
theorem dX6_isFile_24 : decode cX6_isFile 24 = .ok (.lstore 6, 2) := by decide +kernel
theorem dX6_isFile_26 : decode cX6_isFile 26 = .ok (.aload_n 0, 1) := by decide +kernel
theorem dX6_isFile_27 : decode cX6_isFile 27 = .ok (.getfield 7, 3) := by decide +kernel
theorem dX6_isFile_30 : decode cX6_isFile 30 = .ok (.iload_n 1, 1) := by decide +kernel
theorem dX6_isFile_31 : decode cX6_isFile 31 = .ok (.bipush 6, 2) := by decide +kernel
theorem dX6_isFile_33 : decode cX6_isFile 33 = .ok (.iadd, 1) := by decide +kernel
theorem dX6_isFile_34 : decode cX6_isFile 34 = .ok (.iconst 2, 1) := by decide +kernel
theorem dX6_isFile_35 : decode cX6_isFile 35 = .ok (.invokestatic 51, 3) := by decide +kernel
theorem dX6_isFile_38 : decode cX6_isFile 38 = .ok (.lstore 8, 2) := by decide +kernel
theorem dX6_isFile_40 : decode cX6_isFile 40 = .ok (.lload 4, 2) := by decide +kernel
theorem dX6_isFile_42 : decode cX6_isFile 42 = .ok (.ldc2_w 151, 3) := by decide +kernel
theorem dX6_isFile_45 : decode cX6_isFile 45 = .ok (.lcmp, 1) := by decide +kernel
theorem dX6_isFile_46 : decode cX6_isFile 46 = .ok (.ifCond .lt 34, 3) := by decide +kernel
theorem dX6_isFile_49 : decode cX6_isFile 49 = .ok (.lload 6, 2) := by decide +kernel
theorem dX6_isFile_51 : decode cX6_isFile 51 = .ok (.lconst 1, 1) := by decide +kernel
theorem dX6_isFile_52 : decode cX6_isFile 52 = .ok (.lcmp, 1) := by decide +kernel
theorem dX6_isFile_53 : decode cX6_isFile 53 = .ok (.ifCond .lt 27, 3) := by decide +kernel
theorem dX6_isFile_56 : decode cX6_isFile 56 = .ok (.lload 8, 2) := by decide +kernel
theorem dX6_isFile_58 : decode cX6_isFile 58 = .ok (.ldc2_w 153, 3) := by decide +kernel
theorem dX6_isFile_61 : decode cX6_isFile 61 = .ok (.lload 6, 2) := by decide +kernel
theorem dX6_isFile_63 : decode cX6_isFile 63 = .ok (.lmul, 1) := by decide +kernel
theorem dX6_isFile_64 : decode cX6_isFile 64 = .ok (.ldc2_w 151, 3) := by decide +kernel
theorem dX6_isFile_67 : decode cX6_isFile 67 = .ok (.lsub, 1) := by decide +kernel
theorem dX6_isFile_68 : decode cX6_isFile 68 = .ok (.ldc2_w 153, 3) := by decide +kernel
theorem dX6_isFile_71 : decode cX6_isFile 71 = .ok (.lload 6, 2) := by decide +kernel
theorem dX6_isFile_73 : decode cX6_isFile 73 = .ok (.lmul, 1) := by decide +kernel
theorem dX6_isFile_74 : decode cX6_isFile 74 = .ok (.invokestatic 95, 3) := by decide +kernel
theorem dX6_isFile_77 : decode cX6_isFile 77 = .ok (.ifCond .ne 5, 3) := by decide +kernel
theorem dX6_isFile_80 : decode cX6_isFile 80 = .ok (.iconst 0, 1) := by decide +kernel
theorem dX6_isFile_81 : decode cX6_isFile 81 = .ok (.ireturn, 1) := by decide +kernel
theorem dX6_isFile_82 : decode cX6_isFile 82 = .ok (.iconst 0, 1) := by decide +kernel
theorem dX6_isFile_83 : decode cX6_isFile 83 = .ok (.istore 10, 2) := by decide +kernel
theorem dX6_isFile_85 : decode cX6_isFile 85 = .ok (.iload 10, 2) := by decide +kernel
theorem dX6_isFile_87 : decode cX6_isFile 87 = .ok (.iload_n 3, 1) := by decide +kernel
theorem dX6_isFile_88 : decode cX6_isFile 88 = .ok (.if_icmp .ge 71, 3) := by decide +kernel
theorem dX6_isFile_91 : decode cX6_isFile 91 = .ok (.aload_n 0, 1) := by decide +kernel
theorem dX6_isFile_92 : decode cX6_isFile 92 = .ok (.getfield 7, 3) := by decide +kernel
theorem dX6_isFile_95 : decode cX6_isFile 95 = .ok (.iload_n 2, 1) := by decide +kernel
theorem dX6_isFile_96 : decode cX6_isFile 96 = .ok (.bipush 8, 2) := by decide +kernel
theorem dX6_isFile_98 : decode cX6_isFile 98 = .ok (.iload 10, 2) := by decide +kernel
theorem dX6_isFile_100 : decode cX6_isFile 100 = .ok (.imul, 1) := by decide +kernel
theorem dX6_isFile_101 : decode cX6_isFile 101 = .ok (.iadd, 1) := by decide +kernel
theorem dX6_isFile_102 : decode cX6_isFile 102 = .ok (.iconst 2, 1) := by decide +kernel
theorem dX6_isFile_103 : decode cX6_isFile 103 = .ok (.iadd, 1) := by decide +kernel
theorem dX6_isFile_104 : decode cX6_isFile 104 = .ok (.iconst 2, 1) := by decide +kernel
theorem dX6_isFile_105 : decode cX6_isFile 105 = .ok (.invokestatic 51, 3) := by decide +kernel
theorem dX6_isFile_108 : decode cX6_isFile 108 = .ok (.lstore 11, 2) := by decide +kernel
theorem dX6_isFile_110 : decode cX6_isFile 110 = .ok (.aload_n 0, 1) := by decide +kernel
theorem dX6_isFile_111 : decode cX6_isFile 111 = .ok (.getfield 7, 3) := by decide +kernel
theorem dX6_isFile_114 : decode cX6_isFile 114 = .ok (.iload_n 2, 1) := by decide +kernel
theorem dX6_isFile_115 : decode cX6_isFile 115 = .ok (.bipush 8, 2) := by decide +kernel
theorem dX6_isFile_117 : decode cX6_isFile 117 = .ok (.iload 10, 2) := by decide +kernel
theorem dX6_isFile_119 : decode cX6_isFile 119 = .ok (.imul, 1) := by decide +kernel
theorem dX6_isFile_120 : decode cX6_isFile 120 = .ok (.iadd, 1) := by decide +kernel
theorem dX6_isFile_121 : decode cX6_isFile 121 = .ok (.iconst 4, 1) := by decide +kernel
theorem dX6_isFile_122 : decode cX6_isFile 122 = .ok (.iadd, 1) := by decide +kernel
theorem dX6_isFile_123 : decode cX6_isFile 123 = .ok (.iconst 2, 1) := by decide +kernel
theorem dX6_isFile_124 : decode cX6_isFile 124 = .ok (.invokestatic 51, 3) := by decide +kernel
theorem dX6_isFile_127 : decode cX6_isFile 127 = .ok (.lstore 13, 2) := by decide +kernel
theorem dX6_isFile_129 : decode cX6_isFile 129 = .ok (.lload 4, 2) := by decide +kernel
theorem dX6_isFile_131 : decode cX6_isFile 131 = .ok (.lload 11, 2) := by decide +kernel
theorem dX6_isFile_133 : decode cX6_isFile 133 = .ok (.lload 13, 2) := by decide +kernel
theorem dX6_isFile_135 : decode cX6_isFile 135 = .ok (.ladd, 1) := by decide +kernel
theorem dX6_isFile_136 : decode cX6_isFile 136 = .ok (.lcmp, 1) := by decide +kernel
theorem dX6_isFile_137 : decode cX6_isFile 137 = .ok (.ifCond .ge 16, 3) := by decide +kernel
theorem dX6_isFile_140 : decode cX6_isFile 140 = .ok (.lload 11, 2) := by decide +kernel
theorem dX6_isFile_142 : decode cX6_isFile 142 = .ok (.lload 4, 2) := by decide +kernel
theorem dX6_isFile_144 : decode cX6_isFile 144 = .ok (.lload 6, 2) := by decide +kernel
theorem dX6_isFile_146 : decode cX6_isFile 146 = .ok (.ladd, 1) := by decide +kernel
theorem dX6_isFile_147 : decode cX6_isFile 147 = .ok (.lcmp, 1) := by decide +kernel
theorem dX6_isFile_148 : decode cX6_isFile 148 = .ok (.ifCond .ge 5, 3) := by decide +kernel
theorem dX6_isFile_151 : decode cX6_isFile 151 = .ok (.iconst 0, 1) := by decide +kernel
theorem dX6_isFile_152 : decode cX6_isFile 152 = .ok (.ireturn, 1) := by decide +kernel
theorem dX6_isFile_153 : decode cX6_isFile 153 = .ok (.iinc 10 1, 3) := by decide +kernel
theorem dX6_isFile_156 : decode cX6_isFile 156 = .ok (.goto (-71), 3) := by decide +kernel
theorem dX6_isFile_159 : decode cX6_isFile 159 = .ok (.iconst 1, 1) := by decide +kernel
theorem dX6_isFile_160 : decode cX6_isFile 160 = .ok (.ireturn, 1) := by decide +kernel
theorem dX6_reads_0 : decode cX6_reads 0 = .ok (.iconst 0, 1) := by decide +kernel
theorem dX6_reads_1 : decode cX6_reads 1 = .ok (.istore_n 3, 1) := by decide +kernel
theorem dX6_reads_2 : decode cX6_reads 2 = .ok (.iload_n 3, 1) := by decide +kernel
theorem dX6_reads_3 : decode cX6_reads 3 = .ok (.iload_n 2, 1) := by decide +kernel
theorem dX6_reads_4 : decode cX6_reads 4 = .ok (.if_icmp .ge 76, 3) := by decide +kernel
theorem dX6_reads_7 : decode cX6_reads 7 = .ok (.aload_n 0, 1) := by decide +kernel
theorem dX6_reads_8 : decode cX6_reads 8 = .ok (.getfield 20, 3) := by decide +kernel
theorem dX6_reads_11 : decode cX6_reads 11 = .ok (.aload_n 0, 1) := by decide +kernel
theorem dX6_reads_12 : decode cX6_reads 12 = .ok (.getfield 71, 3) := by decide +kernel
theorem dX6_reads_15 : decode cX6_reads 15 = .ok (.aload_n 0, 1) := by decide +kernel
theorem dX6_reads_16 : decode cX6_reads 16 = .ok (.getfield 7, 3) := by decide +kernel
theorem dX6_reads_19 : decode cX6_reads 19 = .ok (.bipush 64, 2) := by decide +kernel
theorem dX6_reads_21 : decode cX6_reads 21 = .ok (.iload_n 1, 1) := by decide +kernel
theorem dX6_reads_22 : decode cX6_reads 22 = .ok (.imul, 1) := by decide +kernel
theorem dX6_reads_23 : decode cX6_reads 23 = .ok (.bipush 8, 2) := by decide +kernel
theorem dX6_reads_25 : decode cX6_reads 25 = .ok (.iadd, 1) := by decide +kernel
theorem dX6_reads_26 : decode cX6_reads 26 = .ok (.bipush 16, 2) := by decide +kernel
theorem dX6_reads_28 : decode cX6_reads 28 = .ok (.iload_n 3, 1) := by decide +kernel
theorem dX6_reads_29 : decode cX6_reads 29 = .ok (.imul, 1) := by decide +kernel
theorem dX6_reads_30 : decode cX6_reads 30 = .ok (.iadd, 1) := by decide +kernel
theorem dX6_reads_31 : decode cX6_reads 31 = .ok (.bipush 8, 2) := by decide +kernel
theorem dX6_reads_33 : decode cX6_reads 33 = .ok (.invokestatic 51, 3) := by decide +kernel
theorem dX6_reads_36 : decode cX6_reads 36 = .ok (.lastore, 1) := by decide +kernel
theorem dX6_reads_37 : decode cX6_reads 37 = .ok (.aload_n 0, 1) := by decide +kernel
theorem dX6_reads_38 : decode cX6_reads 38 = .ok (.getfield 24, 3) := by decide +kernel
theorem dX6_reads_41 : decode cX6_reads 41 = .ok (.aload_n 0, 1) := by decide +kernel
theorem dX6_reads_42 : decode cX6_reads 42 = .ok (.dup, 1) := by decide +kernel
theorem dX6_reads_43 : decode cX6_reads 43 = .ok (.getfield 71, 3) := by decide +kernel
theorem dX6_reads_46 : decode cX6_reads 46 = .ok (.dup_x1, 1) := by decide +kernel
theorem dX6_reads_47 : decode cX6_reads 47 = .ok (.iconst 1, 1) := by decide +kernel
theorem dX6_reads_48 : decode cX6_reads 48 = .ok (.iadd, 1) := by decide +kernel
theorem dX6_reads_49 : decode cX6_reads 49 = .ok (.putfield 71, 3) := by decide +kernel
theorem dX6_reads_52 : decode cX6_reads 52 = .ok (.aload_n 0, 1) := by decide +kernel
theorem dX6_reads_53 : decode cX6_reads 53 = .ok (.getfield 7, 3) := by decide +kernel
theorem dX6_reads_56 : decode cX6_reads 56 = .ok (.bipush 64, 2) := by decide +kernel
theorem dX6_reads_58 : decode cX6_reads 58 = .ok (.iload_n 1, 1) := by decide +kernel
theorem dX6_reads_59 : decode cX6_reads 59 = .ok (.imul, 1) := by decide +kernel
theorem dX6_reads_60 : decode cX6_reads 60 = .ok (.bipush 16, 2) := by decide +kernel
theorem dX6_reads_62 : decode cX6_reads 62 = .ok (.iadd, 1) := by decide +kernel
theorem dX6_reads_63 : decode cX6_reads 63 = .ok (.bipush 16, 2) := by decide +kernel
theorem dX6_reads_65 : decode cX6_reads 65 = .ok (.iload_n 3, 1) := by decide +kernel
theorem dX6_reads_66 : decode cX6_reads 66 = .ok (.imul, 1) := by decide +kernel
theorem dX6_reads_67 : decode cX6_reads 67 = .ok (.iadd, 1) := by decide +kernel
theorem dX6_reads_68 : decode cX6_reads 68 = .ok (.bipush 8, 2) := by decide +kernel
theorem dX6_reads_70 : decode cX6_reads 70 = .ok (.invokestatic 51, 3) := by decide +kernel
theorem dX6_reads_73 : decode cX6_reads 73 = .ok (.lastore, 1) := by decide +kernel
theorem dX6_reads_74 : decode cX6_reads 74 = .ok (.iinc 3 1, 3) := by decide +kernel
theorem dX6_reads_77 : decode cX6_reads 77 = .ok (.goto (-75), 3) := by decide +kernel
theorem dX6_reads_80 : decode cX6_reads 80 = .ok (.return_, 1) := by decide +kernel
theorem dX6_isFileBlock_0 : decode cX6_isFileBlock 0 = .ok (.aload_n 0, 1) := by decide +kernel
theorem dX6_isFileBlock_1 : decode cX6_isFileBlock 1 = .ok (.getfield 30, 3) := by decide +kernel
theorem dX6_isFileBlock_4 : decode cX6_isFileBlock 4 = .ok (.iload_n 1, 1) := by decide +kernel
theorem dX6_isFileBlock_5 : decode cX6_isFileBlock 5 = .ok (.iaload, 1) := by decide +kernel
theorem dX6_isFileBlock_6 : decode cX6_isFileBlock 6 = .ok (.iload_n 2, 1) := by decide +kernel
theorem dX6_isFileBlock_7 : decode cX6_isFileBlock 7 = .ok (.iadd, 1) := by decide +kernel
theorem dX6_isFileBlock_8 : decode cX6_isFileBlock 8 = .ok (.istore_n 3, 1) := by decide +kernel
theorem dX6_isFileBlock_9 : decode cX6_isFileBlock 9 = .ok (.iload_n 3, 1) := by decide +kernel
theorem dX6_isFileBlock_10 : decode cX6_isFileBlock 10 = .ok (.aload_n 0, 1) := by decide +kernel
theorem dX6_isFileBlock_11 : decode cX6_isFileBlock 11 = .ok (.getfield 99, 3) := by decide +kernel
theorem dX6_isFileBlock_14 : decode cX6_isFileBlock 14 = .ok (.if_icmp .ge 11, 3) := by decide +kernel
theorem dX6_isFileBlock_17 : decode cX6_isFileBlock 17 = .ok (.aload_n 0, 1) := by decide +kernel
theorem dX6_isFileBlock_18 : decode cX6_isFileBlock 18 = .ok (.iload_n 3, 1) := by decide +kernel
theorem dX6_isFileBlock_19 : decode cX6_isFileBlock 19 = .ok (.invokevirtual 155, 3) := by decide +kernel
theorem dX6_isFileBlock_22 : decode cX6_isFileBlock 22 = .ok (.ifCond .ne 5, 3) := by decide +kernel
theorem dX6_isFileBlock_25 : decode cX6_isFileBlock 25 = .ok (.iconst 0, 1) := by decide +kernel
theorem dX6_isFileBlock_26 : decode cX6_isFileBlock 26 = .ok (.ireturn, 1) := by decide +kernel
theorem dX6_isFileBlock_27 : decode cX6_isFileBlock 27 = .ok (.bipush 64, 2) := by decide +kernel
theorem dX6_isFileBlock_29 : decode cX6_isFileBlock 29 = .ok (.iload_n 3, 1) := by decide +kernel
theorem dX6_isFileBlock_30 : decode cX6_isFileBlock 30 = .ok (.imul, 1) := by decide +kernel
theorem dX6_isFileBlock_31 : decode cX6_isFileBlock 31 = .ok (.istore 4, 2) := by decide +kernel
theorem dX6_isFileBlock_33 : decode cX6_isFileBlock 33 = .ok (.aload_n 0, 1) := by decide +kernel
theorem dX6_isFileBlock_34 : decode cX6_isFileBlock 34 = .ok (.getfield 36, 3) := by decide +kernel
theorem dX6_isFileBlock_37 : decode cX6_isFileBlock 37 = .ok (.iload_n 1, 1) := by decide +kernel
theorem dX6_isFileBlock_38 : decode cX6_isFileBlock 38 = .ok (.iaload, 1) := by decide +kernel
theorem dX6_isFileBlock_39 : decode cX6_isFileBlock 39 = .ok (.iconst 3, 1) := by decide +kernel
theorem dX6_isFileBlock_40 : decode cX6_isFileBlock 40 = .ok (.iload_n 2, 1) := by decide +kernel
theorem dX6_isFileBlock_41 : decode cX6_isFileBlock 41 = .ok (.imul, 1) := by decide +kernel
theorem dX6_isFileBlock_42 : decode cX6_isFileBlock 42 = .ok (.isub, 1) := by decide +kernel
theorem dX6_isFileBlock_43 : decode cX6_isFileBlock 43 = .ok (.istore 5, 2) := by decide +kernel
theorem dX6_isFileBlock_45 : decode cX6_isFileBlock 45 = .ok (.iload 5, 2) := by decide +kernel
theorem dX6_isFileBlock_47 : decode cX6_isFileBlock 47 = .ok (.iconst 3, 1) := by decide +kernel
theorem dX6_isFileBlock_48 : decode cX6_isFileBlock 48 = .ok (.if_icmp .ge 8, 3) := by decide +kernel
theorem dX6_isFileBlock_51 : decode cX6_isFileBlock 51 = .ok (.iload 5, 2) := by decide +kernel
theorem dX6_isFileBlock_53 : decode cX6_isFileBlock 53 = .ok (.goto 4, 3) := by decide +kernel
theorem dX6_isFileBlock_56 : decode cX6_isFileBlock 56 = .ok (.iconst 3, 1) := by decide +kernel
theorem dX6_isFileBlock_57 : decode cX6_isFileBlock 57 = .ok (.istore 6, 2) := by decide +kernel
theorem dX6_isFileBlock_59 : decode cX6_isFileBlock 59 = .ok (.aload_n 0, 1) := by decide +kernel
theorem dX6_isFileBlock_60 : decode cX6_isFileBlock 60 = .ok (.getfield 7, 3) := by decide +kernel
theorem dX6_isFileBlock_63 : decode cX6_isFileBlock 63 = .ok (.iload 4, 2) := by decide +kernel
theorem dX6_isFileBlock_65 : decode cX6_isFileBlock 65 = .ok (.baload, 1) := by decide +kernel
theorem dX6_isFileBlock_66 : decode cX6_isFileBlock 66 = .ok (.iconst 2, 1) := by decide +kernel
theorem dX6_isFileBlock_67 : decode cX6_isFileBlock 67 = .ok (.if_icmp .ne 90, 3) := by decide +kernel
theorem dX6_isFileBlock_70 : decode cX6_isFileBlock 70 = .ok (.aload_n 0, 1) := by decide +kernel
theorem dX6_isFileBlock_71 : decode cX6_isFileBlock 71 = .ok (.getfield 7, 3) := by decide +kernel
theorem dX6_isFileBlock_74 : decode cX6_isFileBlock 74 = .ok (.iload 4, 2) := by decide +kernel
theorem dX6_isFileBlock_76 : decode cX6_isFileBlock 76 = .ok (.iconst 1, 1) := by decide +kernel
theorem dX6_isFileBlock_77 : decode cX6_isFileBlock 77 = .ok (.iadd, 1) := by decide +kernel
theorem dX6_isFileBlock_78 : decode cX6_isFileBlock 78 = .ok (.baload, 1) := by decide +kernel
theorem dX6_isFileBlock_79 : decode cX6_isFileBlock 79 = .ok (.sipush 255, 3) := by decide +kernel
theorem dX6_isFileBlock_82 : decode cX6_isFileBlock 82 = .ok (.iand, 1) := by decide +kernel
theorem dX6_isFileBlock_83 : decode cX6_isFileBlock 83 = .ok (.iload 6, 2) := by decide +kernel
theorem dX6_isFileBlock_85 : decode cX6_isFileBlock 85 = .ok (.if_icmp .ne 72, 3) := by decide +kernel
theorem dX6_isFileBlock_88 : decode cX6_isFileBlock 88 = .ok (.aload_n 0, 1) := by decide +kernel
theorem dX6_isFileBlock_89 : decode cX6_isFileBlock 89 = .ok (.getfield 7, 3) := by decide +kernel
theorem dX6_isFileBlock_92 : decode cX6_isFileBlock 92 = .ok (.iload 4, 2) := by decide +kernel
theorem dX6_isFileBlock_94 : decode cX6_isFileBlock 94 = .ok (.iconst 2, 1) := by decide +kernel
theorem dX6_isFileBlock_95 : decode cX6_isFileBlock 95 = .ok (.iadd, 1) := by decide +kernel
theorem dX6_isFileBlock_96 : decode cX6_isFileBlock 96 = .ok (.iconst 2, 1) := by decide +kernel
theorem dX6_isFileBlock_97 : decode cX6_isFileBlock 97 = .ok (.invokestatic 51, 3) := by decide +kernel
theorem dX6_isFileBlock_100 : decode cX6_isFileBlock 100 = .ok (.aload_n 0, 1) := by decide +kernel
theorem dX6_isFileBlock_101 : decode cX6_isFileBlock 101 = .ok (.getfield 27, 3) := by decide +kernel
theorem dX6_isFileBlock_104 : decode cX6_isFileBlock 104 = .ok (.iload_n 1, 1) := by decide +kernel
theorem dX6_isFileBlock_105 : decode cX6_isFileBlock 105 = .ok (.iaload, 1) := by decide +kernel
theorem dX6_isFileBlock_106 : decode cX6_isFileBlock 106 = .ok (.i2l, 1) := by decide +kernel
theorem dX6_isFileBlock_107 : decode cX6_isFileBlock 107 = .ok (.lcmp, 1) := by decide +kernel
theorem dX6_isFileBlock_108 : decode cX6_isFileBlock 108 = .ok (.ifCond .ne 49, 3) := by decide +kernel
theorem dX6_isFileBlock_111 : decode cX6_isFileBlock 111 = .ok (.aload_n 0, 1) := by decide +kernel
theorem dX6_isFileBlock_112 : decode cX6_isFileBlock 112 = .ok (.getfield 7, 3) := by decide +kernel
theorem dX6_isFileBlock_115 : decode cX6_isFileBlock 115 = .ok (.iload 4, 2) := by decide +kernel
theorem dX6_isFileBlock_117 : decode cX6_isFileBlock 117 = .ok (.iconst 4, 1) := by decide +kernel
theorem dX6_isFileBlock_118 : decode cX6_isFileBlock 118 = .ok (.iadd, 1) := by decide +kernel
theorem dX6_isFileBlock_119 : decode cX6_isFileBlock 119 = .ok (.iconst 2, 1) := by decide +kernel
theorem dX6_isFileBlock_120 : decode cX6_isFileBlock 120 = .ok (.invokestatic 51, 3) := by decide +kernel
theorem dX6_isFileBlock_123 : decode cX6_isFileBlock 123 = .ok (.iload_n 2, 1) := by decide +kernel
theorem dX6_isFileBlock_124 : decode cX6_isFileBlock 124 = .ok (.i2l, 1) := by decide +kernel
theorem dX6_isFileBlock_125 : decode cX6_isFileBlock 125 = .ok (.lcmp, 1) := by decide +kernel
theorem dX6_isFileBlock_126 : decode cX6_isFileBlock 126 = .ok (.ifCond .ne 31, 3) := by decide +kernel
theorem dX6_isFileBlock_129 : decode cX6_isFileBlock 129 = .ok (.aload_n 0, 1) := by decide +kernel
theorem dX6_isFileBlock_130 : decode cX6_isFileBlock 130 = .ok (.getfield 7, 3) := by decide +kernel
theorem dX6_isFileBlock_133 : decode cX6_isFileBlock 133 = .ok (.iload 4, 2) := by decide +kernel
theorem dX6_isFileBlock_135 : decode cX6_isFileBlock 135 = .ok (.bipush 6, 2) := by decide +kernel
theorem dX6_isFileBlock_137 : decode cX6_isFileBlock 137 = .ok (.iadd, 1) := by decide +kernel
theorem dX6_isFileBlock_138 : decode cX6_isFileBlock 138 = .ok (.iconst 2, 1) := by decide +kernel
theorem dX6_isFileBlock_139 : decode cX6_isFileBlock 139 = .ok (.invokestatic 51, 3) := by decide +kernel
theorem dX6_isFileBlock_142 : decode cX6_isFileBlock 142 = .ok (.aload_n 0, 1) := by decide +kernel
theorem dX6_isFileBlock_143 : decode cX6_isFileBlock 143 = .ok (.getfield 33, 3) := by decide +kernel
theorem dX6_isFileBlock_146 : decode cX6_isFileBlock 146 = .ok (.iload_n 1, 1) := by decide +kernel
theorem dX6_isFileBlock_147 : decode cX6_isFileBlock 147 = .ok (.iaload, 1) := by decide +kernel
theorem dX6_isFileBlock_148 : decode cX6_isFileBlock 148 = .ok (.i2l, 1) := by decide +kernel
theorem dX6_isFileBlock_149 : decode cX6_isFileBlock 149 = .ok (.lcmp, 1) := by decide +kernel
theorem dX6_isFileBlock_150 : decode cX6_isFileBlock 150 = .ok (.ifCond .ne 7, 3) := by decide +kernel
theorem dX6_isFileBlock_153 : decode cX6_isFileBlock 153 = .ok (.iconst 1, 1) := by decide +kernel
theorem dX6_isFileBlock_154 : decode cX6_isFileBlock 154 = .ok (.goto 4, 3) := by decide +kernel
theorem dX6_isFileBlock_157 : decode cX6_isFileBlock 157 = .ok (.iconst 0, 1) := by decide +kernel
theorem dX6_isFileBlock_158 : decode cX6_isFileBlock 158 = .ok (.ireturn, 1) := by decide +kernel
theorem dX6_open_0 : decode cX6_open 0 = .ok (.aload_n 0, 1) := by decide +kernel
theorem dX6_open_1 : decode cX6_open 1 = .ok (.getfield 105, 3) := by decide +kernel
theorem dX6_open_4 : decode cX6_open 4 = .ok (.ifCond .eq 6, 3) := by decide +kernel
theorem dX6_open_7 : decode cX6_open 7 = .ok (.bipush (-5), 2) := by decide +kernel
theorem dX6_open_9 : decode cX6_open 9 = .ok (.ireturn, 1) := by decide +kernel
theorem dX6_open_10 : decode cX6_open 10 = .ok (.aload_n 0, 1) := by decide +kernel
theorem dX6_open_11 : decode cX6_open 11 = .ok (.invokevirtual 102, 3) := by decide +kernel
theorem dX6_open_14 : decode cX6_open 14 = .ok (.iconst (-1), 1) := by decide +kernel
theorem dX6_open_15 : decode cX6_open 15 = .ok (.istore_n 1, 1) := by decide +kernel
theorem dX6_open_16 : decode cX6_open 16 = .ok (.iconst 0, 1) := by decide +kernel
theorem dX6_open_17 : decode cX6_open 17 = .ok (.istore_n 2, 1) := by decide +kernel
theorem dX6_open_18 : decode cX6_open 18 = .ok (.iload_n 2, 1) := by decide +kernel
theorem dX6_open_19 : decode cX6_open 19 = .ok (.iconst 2, 1) := by decide +kernel
theorem dX6_open_20 : decode cX6_open 20 = .ok (.if_icmp .ge 57, 3) := by decide +kernel
theorem dX6_open_23 : decode cX6_open 23 = .ok (.aload_n 0, 1) := by decide +kernel
theorem dX6_open_24 : decode cX6_open 24 = .ok (.iload_n 2, 1) := by decide +kernel
theorem dX6_open_25 : decode cX6_open 25 = .ok (.invokevirtual 166, 3) := by decide +kernel
theorem dX6_open_28 : decode cX6_open 28 = .ok (.ifCond .eq 43, 3) := by decide +kernel
theorem dX6_open_31 : decode cX6_open 31 = .ok (.iload_n 1, 1) := by decide +kernel
theorem dX6_open_32 : decode cX6_open 32 = .ok (.ifCond .lt 37, 3) := by decide +kernel
theorem dX6_open_35 : decode cX6_open 35 = .ok (.aload_n 0, 1) := by decide +kernel
theorem dX6_open_36 : decode cX6_open 36 = .ok (.getfield 7, 3) := by decide +kernel
theorem dX6_open_39 : decode cX6_open 39 = .ok (.bipush 64, 2) := by decide +kernel
theorem dX6_open_41 : decode cX6_open 41 = .ok (.iload_n 2, 1) := by decide +kernel
theorem dX6_open_42 : decode cX6_open 42 = .ok (.imul, 1) := by decide +kernel
theorem dX6_open_43 : decode cX6_open 43 = .ok (.iconst 2, 1) := by decide +kernel
theorem dX6_open_44 : decode cX6_open 44 = .ok (.iadd, 1) := by decide +kernel
theorem dX6_open_45 : decode cX6_open 45 = .ok (.bipush 6, 2) := by decide +kernel
theorem dX6_open_47 : decode cX6_open 47 = .ok (.invokestatic 51, 3) := by decide +kernel
theorem dX6_open_50 : decode cX6_open 50 = .ok (.aload_n 0, 1) := by decide +kernel
theorem dX6_open_51 : decode cX6_open 51 = .ok (.getfield 7, 3) := by decide +kernel
theorem dX6_open_54 : decode cX6_open 54 = .ok (.bipush 64, 2) := by decide +kernel
theorem dX6_open_56 : decode cX6_open 56 = .ok (.iload_n 1, 1) := by decide +kernel
theorem dX6_open_57 : decode cX6_open 57 = .ok (.imul, 1) := by decide +kernel
theorem dX6_open_58 : decode cX6_open 58 = .ok (.iconst 2, 1) := by decide +kernel
theorem dX6_open_59 : decode cX6_open 59 = .ok (.iadd, 1) := by decide +kernel
theorem dX6_open_60 : decode cX6_open 60 = .ok (.bipush 6, 2) := by decide +kernel
theorem dX6_open_62 : decode cX6_open 62 = .ok (.invokestatic 51, 3) := by decide +kernel
theorem dX6_open_65 : decode cX6_open 65 = .ok (.lcmp, 1) := by decide +kernel
theorem dX6_open_66 : decode cX6_open 66 = .ok (.ifCond .le 5, 3) := by decide +kernel
theorem dX6_open_69 : decode cX6_open 69 = .ok (.iload_n 2, 1) := by decide +kernel
theorem dX6_open_70 : decode cX6_open 70 = .ok (.istore_n 1, 1) := by decide +kernel
theorem dX6_open_71 : decode cX6_open 71 = .ok (.iinc 2 1, 3) := by decide +kernel
theorem dX6_open_74 : decode cX6_open 74 = .ok (.goto (-56), 3) := by decide +kernel
theorem dX6_open_77 : decode cX6_open 77 = .ok (.iload_n 1, 1) := by decide +kernel
theorem dX6_open_78 : decode cX6_open 78 = .ok (.ifCond .lt 25, 3) := by decide +kernel
theorem dX6_open_81 : decode cX6_open 81 = .ok (.aload_n 0, 1) := by decide +kernel
theorem dX6_open_82 : decode cX6_open 82 = .ok (.bipush 64, 2) := by decide +kernel
theorem dX6_open_84 : decode cX6_open 84 = .ok (.iload_n 1, 1) := by decide +kernel
theorem dX6_open_85 : decode cX6_open 85 = .ok (.imul, 1) := by decide +kernel
theorem dX6_open_86 : decode cX6_open 86 = .ok (.invokevirtual 169, 3) := by decide +kernel
theorem dX6_open_89 : decode cX6_open 89 = .ok (.istore_n 2, 1) := by decide +kernel
theorem dX6_open_90 : decode cX6_open 90 = .ok (.iload_n 2, 1) := by decide +kernel
theorem dX6_open_91 : decode cX6_open 91 = .ok (.ifCond .lt 12, 3) := by decide +kernel
theorem dX6_open_94 : decode cX6_open 94 = .ok (.aload_n 0, 1) := by decide +kernel
theorem dX6_open_95 : decode cX6_open 95 = .ok (.invokevirtual 102, 3) := by decide +kernel
theorem dX6_open_98 : decode cX6_open 98 = .ok (.bipush (-10), 2) := by decide +kernel
theorem dX6_open_100 : decode cX6_open 100 = .ok (.iload_n 2, 1) := by decide +kernel
theorem dX6_open_101 : decode cX6_open 101 = .ok (.isub, 1) := by decide +kernel
theorem dX6_open_102 : decode cX6_open 102 = .ok (.ireturn, 1) := by decide +kernel
theorem dX6_open_103 : decode cX6_open 103 = .ok (.aload_n 0, 1) := by decide +kernel
theorem dX6_open_104 : decode cX6_open 104 = .ok (.invokevirtual 172, 3) := by decide +kernel
theorem dX6_open_107 : decode cX6_open 107 = .ok (.aload_n 0, 1) := by decide +kernel
theorem dX6_open_108 : decode cX6_open 108 = .ok (.iconst 1, 1) := by decide +kernel
theorem dX6_open_109 : decode cX6_open 109 = .ok (.putfield 105, 3) := by decide +kernel
theorem dX6_open_112 : decode cX6_open 112 = .ok (.aload_n 0, 1) := by decide +kernel
theorem dX6_open_113 : decode cX6_open 113 = .ok (.getfield 71, 3) := by decide +kernel
theorem dX6_open_116 : decode cX6_open 116 = .ok (.ireturn, 1) := by decide +kernel
theorem dX6_readsFiles_0 : decode cX6_readsFiles 0 = .ok (.aload_n 0, 1) := by decide +kernel
theorem dX6_readsFiles_1 : decode cX6_readsFiles 1 = .ok (.aload_n 0, 1) := by decide +kernel
theorem dX6_readsFiles_2 : decode cX6_readsFiles 2 = .ok (.getfield 7, 3) := by decide +kernel
theorem dX6_readsFiles_5 : decode cX6_readsFiles 5 = .ok (.iload_n 1, 1) := by decide +kernel
theorem dX6_readsFiles_6 : decode cX6_readsFiles 6 = .ok (.iconst 2, 1) := by decide +kernel
theorem dX6_readsFiles_7 : decode cX6_readsFiles 7 = .ok (.iadd, 1) := by decide +kernel
theorem dX6_readsFiles_8 : decode cX6_readsFiles 8 = .ok (.bipush 6, 2) := by decide +kernel
theorem dX6_readsFiles_10 : decode cX6_readsFiles 10 = .ok (.invokestatic 51, 3) := by decide +kernel
theorem dX6_readsFiles_13 : decode cX6_readsFiles 13 = .ok (.putfield 83, 3) := by decide +kernel
theorem dX6_readsFiles_16 : decode cX6_readsFiles 16 = .ok (.aload_n 0, 1) := by decide +kernel
theorem dX6_readsFiles_17 : decode cX6_readsFiles 17 = .ok (.aload_n 0, 1) := by decide +kernel
theorem dX6_readsFiles_18 : decode cX6_readsFiles 18 = .ok (.getfield 7, 3) := by decide +kernel
theorem dX6_readsFiles_21 : decode cX6_readsFiles 21 = .ok (.iload_n 1, 1) := by decide +kernel
theorem dX6_readsFiles_22 : decode cX6_readsFiles 22 = .ok (.bipush 48, 2) := by decide +kernel
theorem dX6_readsFiles_24 : decode cX6_readsFiles 24 = .ok (.iadd, 1) := by decide +kernel
theorem dX6_readsFiles_25 : decode cX6_readsFiles 25 = .ok (.bipush 8, 2) := by decide +kernel
theorem dX6_readsFiles_27 : decode cX6_readsFiles 27 = .ok (.invokestatic 51, 3) := by decide +kernel
theorem dX6_readsFiles_30 : decode cX6_readsFiles 30 = .ok (.putfield 87, 3) := by decide +kernel
theorem dX6_readsFiles_33 : decode cX6_readsFiles 33 = .ok (.aload_n 0, 1) := by decide +kernel
theorem dX6_readsFiles_34 : decode cX6_readsFiles 34 = .ok (.aload_n 0, 1) := by decide +kernel
theorem dX6_readsFiles_35 : decode cX6_readsFiles 35 = .ok (.getfield 7, 3) := by decide +kernel
theorem dX6_readsFiles_38 : decode cX6_readsFiles 38 = .ok (.iload_n 1, 1) := by decide +kernel
theorem dX6_readsFiles_39 : decode cX6_readsFiles 39 = .ok (.iconst 1, 1) := by decide +kernel
theorem dX6_readsFiles_40 : decode cX6_readsFiles 40 = .ok (.iadd, 1) := by decide +kernel
theorem dX6_readsFiles_41 : decode cX6_readsFiles 41 = .ok (.baload, 1) := by decide +kernel
theorem dX6_readsFiles_42 : decode cX6_readsFiles 42 = .ok (.putfield 74, 3) := by decide +kernel
theorem dX6_readsFiles_45 : decode cX6_readsFiles 45 = .ok (.iconst 0, 1) := by decide +kernel
theorem dX6_readsFiles_46 : decode cX6_readsFiles 46 = .ok (.istore_n 2, 1) := by decide +kernel
theorem dX6_readsFiles_47 : decode cX6_readsFiles 47 = .ok (.iload_n 2, 1) := by decide +kernel
theorem dX6_readsFiles_48 : decode cX6_readsFiles 48 = .ok (.aload_n 0, 1) := by decide +kernel
theorem dX6_readsFiles_49 : decode cX6_readsFiles 49 = .ok (.getfield 74, 3) := by decide +kernel
theorem dX6_readsFiles_52 : decode cX6_readsFiles 52 = .ok (.if_icmp .ge 135, 3) := by decide +kernel
theorem dX6_readsFiles_55 : decode cX6_readsFiles 55 = .ok (.aload_n 0, 1) := by decide +kernel
theorem dX6_readsFiles_56 : decode cX6_readsFiles 56 = .ok (.getfield 27, 3) := by decide +kernel
theorem dX6_readsFiles_59 : decode cX6_readsFiles 59 = .ok (.iload_n 2, 1) := by decide +kernel
theorem dX6_readsFiles_60 : decode cX6_readsFiles 60 = .ok (.aload_n 0, 1) := by decide +kernel
theorem dX6_readsFiles_61 : decode cX6_readsFiles 61 = .ok (.getfield 7, 3) := by decide +kernel
theorem dX6_readsFiles_64 : decode cX6_readsFiles 64 = .ok (.iload_n 1, 1) := by decide +kernel
theorem dX6_readsFiles_65 : decode cX6_readsFiles 65 = .ok (.bipush 8, 2) := by decide +kernel
theorem dX6_readsFiles_67 : decode cX6_readsFiles 67 = .ok (.iadd, 1) := by decide +kernel
theorem dX6_readsFiles_68 : decode cX6_readsFiles 68 = .ok (.bipush 8, 2) := by decide +kernel
theorem dX6_readsFiles_70 : decode cX6_readsFiles 70 = .ok (.iload_n 2, 1) := by decide +kernel
theorem dX6_readsFiles_71 : decode cX6_readsFiles 71 = .ok (.imul, 1) := by decide +kernel
theorem dX6_readsFiles_72 : decode cX6_readsFiles 72 = .ok (.iadd, 1) := by decide +kernel
theorem dX6_readsFiles_73 : decode cX6_readsFiles 73 = .ok (.iconst 2, 1) := by decide +kernel
theorem dX6_readsFiles_74 : decode cX6_readsFiles 74 = .ok (.invokestatic 51, 3) := by decide +kernel
theorem dX6_readsFiles_77 : decode cX6_readsFiles 77 = .ok (.l2i, 1) := by decide +kernel
theorem dX6_readsFiles_78 : decode cX6_readsFiles 78 = .ok (.iastore, 1) := by decide +kernel
theorem dX6_readsFiles_79 : decode cX6_readsFiles 79 = .ok (.aload_n 0, 1) := by decide +kernel
theorem dX6_readsFiles_80 : decode cX6_readsFiles 80 = .ok (.getfield 30, 3) := by decide +kernel
theorem dX6_readsFiles_83 : decode cX6_readsFiles 83 = .ok (.iload_n 2, 1) := by decide +kernel
theorem dX6_readsFiles_84 : decode cX6_readsFiles 84 = .ok (.aload_n 0, 1) := by decide +kernel
theorem dX6_readsFiles_85 : decode cX6_readsFiles 85 = .ok (.getfield 7, 3) := by decide +kernel
theorem dX6_readsFiles_88 : decode cX6_readsFiles 88 = .ok (.iload_n 1, 1) := by decide +kernel
theorem dX6_readsFiles_89 : decode cX6_readsFiles 89 = .ok (.bipush 10, 2) := by decide +kernel
theorem dX6_readsFiles_91 : decode cX6_readsFiles 91 = .ok (.iadd, 1) := by decide +kernel
theorem dX6_readsFiles_92 : decode cX6_readsFiles 92 = .ok (.bipush 8, 2) := by decide +kernel
theorem dX6_readsFiles_94 : decode cX6_readsFiles 94 = .ok (.iload_n 2, 1) := by decide +kernel
theorem dX6_readsFiles_95 : decode cX6_readsFiles 95 = .ok (.imul, 1) := by decide +kernel
theorem dX6_readsFiles_96 : decode cX6_readsFiles 96 = .ok (.iadd, 1) := by decide +kernel
theorem dX6_readsFiles_97 : decode cX6_readsFiles 97 = .ok (.iconst 2, 1) := by decide +kernel
theorem dX6_readsFiles_98 : decode cX6_readsFiles 98 = .ok (.invokestatic 51, 3) := by decide +kernel
theorem dX6_readsFiles_101 : decode cX6_readsFiles 101 = .ok (.l2i, 1) := by decide +kernel
theorem dX6_readsFiles_102 : decode cX6_readsFiles 102 = .ok (.iastore, 1) := by decide +kernel
theorem dX6_readsFiles_103 : decode cX6_readsFiles 103 = .ok (.aload_n 0, 1) := by decide +kernel
theorem dX6_readsFiles_104 : decode cX6_readsFiles 104 = .ok (.getfield 33, 3) := by decide +kernel
theorem dX6_readsFiles_107 : decode cX6_readsFiles 107 = .ok (.iload_n 2, 1) := by decide +kernel
theorem dX6_readsFiles_108 : decode cX6_readsFiles 108 = .ok (.aload_n 0, 1) := by decide +kernel
theorem dX6_readsFiles_109 : decode cX6_readsFiles 109 = .ok (.getfield 7, 3) := by decide +kernel
theorem dX6_readsFiles_112 : decode cX6_readsFiles 112 = .ok (.iload_n 1, 1) := by decide +kernel
theorem dX6_readsFiles_113 : decode cX6_readsFiles 113 = .ok (.bipush 12, 2) := by decide +kernel
theorem dX6_readsFiles_115 : decode cX6_readsFiles 115 = .ok (.iadd, 1) := by decide +kernel
theorem dX6_readsFiles_116 : decode cX6_readsFiles 116 = .ok (.bipush 8, 2) := by decide +kernel
theorem dX6_readsFiles_118 : decode cX6_readsFiles 118 = .ok (.iload_n 2, 1) := by decide +kernel
theorem dX6_readsFiles_119 : decode cX6_readsFiles 119 = .ok (.imul, 1) := by decide +kernel
theorem dX6_readsFiles_120 : decode cX6_readsFiles 120 = .ok (.iadd, 1) := by decide +kernel
theorem dX6_readsFiles_121 : decode cX6_readsFiles 121 = .ok (.iconst 2, 1) := by decide +kernel
theorem dX6_readsFiles_122 : decode cX6_readsFiles 122 = .ok (.invokestatic 51, 3) := by decide +kernel
theorem dX6_readsFiles_125 : decode cX6_readsFiles 125 = .ok (.l2i, 1) := by decide +kernel
theorem dX6_readsFiles_126 : decode cX6_readsFiles 126 = .ok (.iastore, 1) := by decide +kernel
theorem dX6_readsFiles_127 : decode cX6_readsFiles 127 = .ok (.aload_n 0, 1) := by decide +kernel
theorem dX6_readsFiles_128 : decode cX6_readsFiles 128 = .ok (.getfield 36, 3) := by decide +kernel
theorem dX6_readsFiles_131 : decode cX6_readsFiles 131 = .ok (.iload_n 2, 1) := by decide +kernel
theorem dX6_readsFiles_132 : decode cX6_readsFiles 132 = .ok (.aload_n 0, 1) := by decide +kernel
theorem dX6_readsFiles_133 : decode cX6_readsFiles 133 = .ok (.getfield 7, 3) := by decide +kernel
theorem dX6_readsFiles_136 : decode cX6_readsFiles 136 = .ok (.iload_n 1, 1) := by decide +kernel
theorem dX6_readsFiles_137 : decode cX6_readsFiles 137 = .ok (.bipush 14, 2) := by decide +kernel
theorem dX6_readsFiles_139 : decode cX6_readsFiles 139 = .ok (.iadd, 1) := by decide +kernel
theorem dX6_readsFiles_140 : decode cX6_readsFiles 140 = .ok (.bipush 8, 2) := by decide +kernel
theorem dX6_readsFiles_142 : decode cX6_readsFiles 142 = .ok (.iload_n 2, 1) := by decide +kernel
theorem dX6_readsFiles_143 : decode cX6_readsFiles 143 = .ok (.imul, 1) := by decide +kernel
theorem dX6_readsFiles_144 : decode cX6_readsFiles 144 = .ok (.iadd, 1) := by decide +kernel
theorem dX6_readsFiles_145 : decode cX6_readsFiles 145 = .ok (.iconst 2, 1) := by decide +kernel
theorem dX6_readsFiles_146 : decode cX6_readsFiles 146 = .ok (.invokestatic 51, 3) := by decide +kernel
theorem dX6_readsFiles_149 : decode cX6_readsFiles 149 = .ok (.l2i, 1) := by decide +kernel
theorem dX6_readsFiles_150 : decode cX6_readsFiles 150 = .ok (.iastore, 1) := by decide +kernel
theorem dX6_readsFiles_151 : decode cX6_readsFiles 151 = .ok (.aload_n 0, 1) := by decide +kernel
theorem dX6_readsFiles_152 : decode cX6_readsFiles 152 = .ok (.aload_n 0, 1) := by decide +kernel
theorem dX6_readsFiles_153 : decode cX6_readsFiles 153 = .ok (.getfield 27, 3) := by decide +kernel
theorem dX6_readsFiles_156 : decode cX6_readsFiles 156 = .ok (.iload_n 2, 1) := by decide +kernel
theorem dX6_readsFiles_157 : decode cX6_readsFiles 157 = .ok (.iaload, 1) := by decide +kernel
theorem dX6_readsFiles_158 : decode cX6_readsFiles 158 = .ok (.aload_n 0, 1) := by decide +kernel
theorem dX6_readsFiles_159 : decode cX6_readsFiles 159 = .ok (.getfield 90, 3) := by decide +kernel
theorem dX6_readsFiles_162 : decode cX6_readsFiles 162 = .ok (.if_icmp .le 12, 3) := by decide +kernel
theorem dX6_readsFiles_165 : decode cX6_readsFiles 165 = .ok (.aload_n 0, 1) := by decide +kernel
theorem dX6_readsFiles_166 : decode cX6_readsFiles 166 = .ok (.getfield 27, 3) := by decide +kernel
theorem dX6_readsFiles_169 : decode cX6_readsFiles 169 = .ok (.iload_n 2, 1) := by decide +kernel
theorem dX6_readsFiles_170 : decode cX6_readsFiles 170 = .ok (.iaload, 1) := by decide +kernel
theorem dX6_readsFiles_171 : decode cX6_readsFiles 171 = .ok (.goto 7, 3) := by decide +kernel
theorem dX6_readsFiles_174 : decode cX6_readsFiles 174 = .ok (.aload_n 0, 1) := by decide +kernel
theorem dX6_readsFiles_175 : decode cX6_readsFiles 175 = .ok (.getfield 90, 3) := by decide +kernel
theorem dX6_readsFiles_178 : decode cX6_readsFiles 178 = .ok (.putfield 90, 3) := by decide +kernel
theorem dX6_readsFiles_181 : decode cX6_readsFiles 181 = .ok (.iinc 2 1, 3) := by decide +kernel
theorem dX6_readsFiles_184 : decode cX6_readsFiles 184 = .ok (.goto (-137), 3) := by decide +kernel
theorem dX6_readsFiles_187 : decode cX6_readsFiles 187 = .ok (.iconst 0, 1) := by decide +kernel
theorem dX6_readsFiles_188 : decode cX6_readsFiles 188 = .ok (.istore_n 2, 1) := by decide +kernel
theorem dX6_readsFiles_189 : decode cX6_readsFiles 189 = .ok (.iload_n 2, 1) := by decide +kernel
theorem dX6_readsFiles_190 : decode cX6_readsFiles 190 = .ok (.aload_n 0, 1) := by decide +kernel
theorem dX6_readsFiles_191 : decode cX6_readsFiles 191 = .ok (.getfield 74, 3) := by decide +kernel
theorem dX6_readsFiles_194 : decode cX6_readsFiles 194 = .ok (.if_icmp .ge 75, 3) := by decide +kernel
theorem dX6_readsFiles_197 : decode cX6_readsFiles 197 = .ok (.iconst 0, 1) := by decide +kernel
theorem dX6_readsFiles_198 : decode cX6_readsFiles 198 = .ok (.istore_n 3, 1) := by decide +kernel
theorem dX6_readsFiles_199 : decode cX6_readsFiles 199 = .ok (.iload_n 3, 1) := by decide +kernel
theorem dX6_readsFiles_200 : decode cX6_readsFiles 200 = .ok (.aload_n 0, 1) := by decide +kernel
theorem dX6_readsFiles_201 : decode cX6_readsFiles 201 = .ok (.getfield 33, 3) := by decide +kernel
theorem dX6_readsFiles_204 : decode cX6_readsFiles 204 = .ok (.iload_n 2, 1) := by decide +kernel
theorem dX6_readsFiles_205 : decode cX6_readsFiles 205 = .ok (.iaload, 1) := by decide +kernel
theorem dX6_readsFiles_206 : decode cX6_readsFiles 206 = .ok (.if_icmp .ge 57, 3) := by decide +kernel
theorem dX6_readsFiles_209 : decode cX6_readsFiles 209 = .ok (.aload_n 0, 1) := by decide +kernel
theorem dX6_readsFiles_210 : decode cX6_readsFiles 210 = .ok (.iload_n 2, 1) := by decide +kernel
theorem dX6_readsFiles_211 : decode cX6_readsFiles 211 = .ok (.iload_n 3, 1) := by decide +kernel
theorem dX6_readsFiles_212 : decode cX6_readsFiles 212 = .ok (.invokevirtual 175, 3) := by decide +kernel
theorem dX6_readsFiles_215 : decode cX6_readsFiles 215 = .ok (.ifCond .ne 12, 3) := by decide +kernel
theorem dX6_readsFiles_218 : decode cX6_readsFiles 218 = .ok (.aload_n 0, 1) := by decide +kernel
theorem dX6_readsFiles_219 : decode cX6_readsFiles 219 = .ok (.getfield 30, 3) := by decide +kernel
theorem dX6_readsFiles_222 : decode cX6_readsFiles 222 = .ok (.iload_n 2, 1) := by decide +kernel
theorem dX6_readsFiles_223 : decode cX6_readsFiles 223 = .ok (.iaload, 1) := by decide +kernel
theorem dX6_readsFiles_224 : decode cX6_readsFiles 224 = .ok (.iload_n 3, 1) := by decide +kernel
theorem dX6_readsFiles_225 : decode cX6_readsFiles 225 = .ok (.iadd, 1) := by decide +kernel
theorem dX6_readsFiles_226 : decode cX6_readsFiles 226 = .ok (.ireturn, 1) := by decide +kernel
theorem dX6_readsFiles_227 : decode cX6_readsFiles 227 = .ok (.aload_n 0, 1) := by decide +kernel
theorem dX6_readsFiles_228 : decode cX6_readsFiles 228 = .ok (.aload_n 0, 1) := by decide +kernel
theorem dX6_readsFiles_229 : decode cX6_readsFiles 229 = .ok (.getfield 30, 3) := by decide +kernel
theorem dX6_readsFiles_232 : decode cX6_readsFiles 232 = .ok (.iload_n 2, 1) := by decide +kernel
theorem dX6_readsFiles_233 : decode cX6_readsFiles 233 = .ok (.iaload, 1) := by decide +kernel
theorem dX6_readsFiles_234 : decode cX6_readsFiles 234 = .ok (.iload_n 3, 1) := by decide +kernel
theorem dX6_readsFiles_235 : decode cX6_readsFiles 235 = .ok (.iadd, 1) := by decide +kernel
theorem dX6_readsFiles_236 : decode cX6_readsFiles 236 = .ok (.aload_n 0, 1) := by decide +kernel
theorem dX6_readsFiles_237 : decode cX6_readsFiles 237 = .ok (.getfield 7, 3) := by decide +kernel
theorem dX6_readsFiles_240 : decode cX6_readsFiles 240 = .ok (.bipush 64, 2) := by decide +kernel
theorem dX6_readsFiles_242 : decode cX6_readsFiles 242 = .ok (.aload_n 0, 1) := by decide +kernel
theorem dX6_readsFiles_243 : decode cX6_readsFiles 243 = .ok (.getfield 30, 3) := by decide +kernel
theorem dX6_readsFiles_246 : decode cX6_readsFiles 246 = .ok (.iload_n 2, 1) := by decide +kernel
theorem dX6_readsFiles_247 : decode cX6_readsFiles 247 = .ok (.iaload, 1) := by decide +kernel
theorem dX6_readsFiles_248 : decode cX6_readsFiles 248 = .ok (.iload_n 3, 1) := by decide +kernel
theorem dX6_readsFiles_249 : decode cX6_readsFiles 249 = .ok (.iadd, 1) := by decide +kernel
theorem dX6_readsFiles_250 : decode cX6_readsFiles 250 = .ok (.imul, 1) := by decide +kernel
theorem dX6_readsFiles_251 : decode cX6_readsFiles 251 = .ok (.iconst 1, 1) := by decide +kernel
theorem dX6_readsFiles_252 : decode cX6_readsFiles 252 = .ok (.iadd, 1) := by decide +kernel
theorem dX6_readsFiles_253 : decode cX6_readsFiles 253 = .ok (.baload, 1) := by decide +kernel
theorem dX6_readsFiles_254 : decode cX6_readsFiles 254 = .ok (.invokevirtual 179, 3) := by decide +kernel
theorem dX6_readsFiles_257 : decode cX6_readsFiles 257 = .ok (.iinc 3 1, 3) := by decide +kernel
theorem dX6_readsFiles_260 : decode cX6_readsFiles 260 = .ok (.goto (-61), 3) := by decide +kernel
theorem dX6_readsFiles_263 : decode cX6_readsFiles 263 = .ok (.iinc 2 1, 3) := by decide +kernel
theorem dX6_readsFiles_266 : decode cX6_readsFiles 266 = .ok (.goto (-77), 3) := by decide +kernel
theorem dX6_readsFiles_269 : decode cX6_readsFiles 269 = .ok (.iconst (-1), 1) := by decide +kernel
theorem dX6_readsFiles_270 : decode cX6_readsFiles 270 = .ok (.ireturn, 1) := by decide +kernel
theorem dX6_isLog_0 : decode cX6_isLog 0 = .ok (.aload_n 0, 1) := by decide +kernel
theorem dX6_isLog_1 : decode cX6_isLog 1 = .ok (.iload_n 1, 1) := by decide +kernel
theorem dX6_isLog_2 : decode cX6_isLog 2 = .ok (.invokevirtual 109, 3) := by decide +kernel
theorem dX6_isLog_5 : decode cX6_isLog 5 = .ok (.ifCond .ne 28, 3) := by decide +kernel
theorem dX6_isLog_8 : decode cX6_isLog 8 = .ok (.aload_n 0, 1) := by decide +kernel
theorem dX6_isLog_9 : decode cX6_isLog 9 = .ok (.iload_n 1, 1) := by decide +kernel
theorem dX6_isLog_10 : decode cX6_isLog 10 = .ok (.invokevirtual 155, 3) := by decide +kernel
theorem dX6_isLog_13 : decode cX6_isLog 13 = .ok (.ifCond .eq 20, 3) := by decide +kernel
theorem dX6_isLog_16 : decode cX6_isLog 16 = .ok (.aload_n 0, 1) := by decide +kernel
theorem dX6_isLog_17 : decode cX6_isLog 17 = .ok (.getfield 7, 3) := by decide +kernel
theorem dX6_isLog_20 : decode cX6_isLog 20 = .ok (.bipush 64, 2) := by decide +kernel
theorem dX6_isLog_22 : decode cX6_isLog 22 = .ok (.iload_n 1, 1) := by decide +kernel
theorem dX6_isLog_23 : decode cX6_isLog 23 = .ok (.imul, 1) := by decide +kernel
theorem dX6_isLog_24 : decode cX6_isLog 24 = .ok (.baload, 1) := by decide +kernel
theorem dX6_isLog_25 : decode cX6_isLog 25 = .ok (.iconst 1, 1) := by decide +kernel
theorem dX6_isLog_26 : decode cX6_isLog 26 = .ok (.if_icmp .ne 7, 3) := by decide +kernel
theorem dX6_isLog_29 : decode cX6_isLog 29 = .ok (.iconst 1, 1) := by decide +kernel
theorem dX6_isLog_30 : decode cX6_isLog 30 = .ok (.goto 4, 3) := by decide +kernel
theorem dX6_isLog_33 : decode cX6_isLog 33 = .ok (.iconst 0, 1) := by decide +kernel
theorem dX6_isLog_34 : decode cX6_isLog 34 = .ok (.ireturn, 1) := by decide +kernel
theorem dX6_readsLogs_0 : decode cX6_readsLogs 0 = .ok (.iconst 0, 1) := by decide +kernel
theorem dX6_readsLogs_1 : decode cX6_readsLogs 1 = .ok (.istore_n 1, 1) := by decide +kernel
theorem dX6_readsLogs_2 : decode cX6_readsLogs 2 = .ok (.iload_n 1, 1) := by decide +kernel
theorem dX6_readsLogs_3 : decode cX6_readsLogs 3 = .ok (.ifCond .lt 146, 3) := by decide +kernel
theorem dX6_readsLogs_6 : decode cX6_readsLogs 6 = .ok (.iconst (-1), 1) := by decide +kernel
theorem dX6_readsLogs_7 : decode cX6_readsLogs 7 = .ok (.istore_n 1, 1) := by decide +kernel
theorem dX6_readsLogs_8 : decode cX6_readsLogs 8 = .ok (.iconst 2, 1) := by decide +kernel
theorem dX6_readsLogs_9 : decode cX6_readsLogs 9 = .ok (.istore_n 2, 1) := by decide +kernel
theorem dX6_readsLogs_10 : decode cX6_readsLogs 10 = .ok (.iload_n 2, 1) := by decide +kernel
theorem dX6_readsLogs_11 : decode cX6_readsLogs 11 = .ok (.aload_n 0, 1) := by decide +kernel
theorem dX6_readsLogs_12 : decode cX6_readsLogs 12 = .ok (.getfield 99, 3) := by decide +kernel
theorem dX6_readsLogs_15 : decode cX6_readsLogs 15 = .ok (.if_icmp .ge 68, 3) := by decide +kernel
theorem dX6_readsLogs_18 : decode cX6_readsLogs 18 = .ok (.iload_n 1, 1) := by decide +kernel
theorem dX6_readsLogs_19 : decode cX6_readsLogs 19 = .ok (.ifCond .ge 64, 3) := by decide +kernel
theorem dX6_readsLogs_22 : decode cX6_readsLogs 22 = .ok (.aload_n 0, 1) := by decide +kernel
theorem dX6_readsLogs_23 : decode cX6_readsLogs 23 = .ok (.iload_n 2, 1) := by decide +kernel
theorem dX6_readsLogs_24 : decode cX6_readsLogs 24 = .ok (.invokevirtual 183, 3) := by decide +kernel
theorem dX6_readsLogs_27 : decode cX6_readsLogs 27 = .ok (.ifCond .eq 50, 3) := by decide +kernel
theorem dX6_readsLogs_30 : decode cX6_readsLogs 30 = .ok (.aload_n 0, 1) := by decide +kernel
theorem dX6_readsLogs_31 : decode cX6_readsLogs 31 = .ok (.getfield 7, 3) := by decide +kernel
theorem dX6_readsLogs_34 : decode cX6_readsLogs 34 = .ok (.bipush 64, 2) := by decide +kernel
theorem dX6_readsLogs_36 : decode cX6_readsLogs 36 = .ok (.iload_n 2, 1) := by decide +kernel
theorem dX6_readsLogs_37 : decode cX6_readsLogs 37 = .ok (.imul, 1) := by decide +kernel
theorem dX6_readsLogs_38 : decode cX6_readsLogs 38 = .ok (.iconst 1, 1) := by decide +kernel
theorem dX6_readsLogs_39 : decode cX6_readsLogs 39 = .ok (.iadd, 1) := by decide +kernel
theorem dX6_readsLogs_40 : decode cX6_readsLogs 40 = .ok (.baload, 1) := by decide +kernel
theorem dX6_readsLogs_41 : decode cX6_readsLogs 41 = .ok (.i2l, 1) := by decide +kernel
theorem dX6_readsLogs_42 : decode cX6_readsLogs 42 = .ok (.lconst 1, 1) := by decide +kernel
theorem dX6_readsLogs_43 : decode cX6_readsLogs 43 = .ok (.ldc2_w 153, 3) := by decide +kernel
theorem dX6_readsLogs_46 : decode cX6_readsLogs 46 = .ok (.invokestatic 95, 3) := by decide +kernel
theorem dX6_readsLogs_49 : decode cX6_readsLogs 49 = .ok (.ifCond .eq 28, 3) := by decide +kernel
theorem dX6_readsLogs_52 : decode cX6_readsLogs 52 = .ok (.aload_n 0, 1) := by decide +kernel
theorem dX6_readsLogs_53 : decode cX6_readsLogs 53 = .ok (.getfield 7, 3) := by decide +kernel
theorem dX6_readsLogs_56 : decode cX6_readsLogs 56 = .ok (.bipush 64, 2) := by decide +kernel
theorem dX6_readsLogs_58 : decode cX6_readsLogs 58 = .ok (.iload_n 2, 1) := by decide +kernel
theorem dX6_readsLogs_59 : decode cX6_readsLogs 59 = .ok (.imul, 1) := by decide +kernel
theorem dX6_readsLogs_60 : decode cX6_readsLogs 60 = .ok (.iconst 2, 1) := by decide +kernel
theorem dX6_readsLogs_61 : decode cX6_readsLogs 61 = .ok (.iadd, 1) := by decide +kernel
theorem dX6_readsLogs_62 : decode cX6_readsLogs 62 = .ok (.bipush 6, 2) := by decide +kernel
theorem dX6_readsLogs_64 : decode cX6_readsLogs 64 = .ok (.invokestatic 51, 3) := by decide +kernel
theorem dX6_readsLogs_67 : decode cX6_readsLogs 67 = .ok (.aload_n 0, 1) := by decide +kernel
theorem dX6_readsLogs_68 : decode cX6_readsLogs 68 = .ok (.getfield 87, 3) := by decide +kernel
theorem dX6_readsLogs_71 : decode cX6_readsLogs 71 = .ok (.lcmp, 1) := by decide +kernel
theorem dX6_readsLogs_72 : decode cX6_readsLogs 72 = .ok (.ifCond .ne 5, 3) := by decide +kernel
theorem dX6_readsLogs_75 : decode cX6_readsLogs 75 = .ok (.iload_n 2, 1) := by decide +kernel
theorem dX6_readsLogs_76 : decode cX6_readsLogs 76 = .ok (.istore_n 1, 1) := by decide +kernel
theorem dX6_readsLogs_77 : decode cX6_readsLogs 77 = .ok (.iinc 2 1, 3) := by decide +kernel
theorem dX6_readsLogs_80 : decode cX6_readsLogs 80 = .ok (.goto (-70), 3) := by decide +kernel
theorem dX6_readsLogs_83 : decode cX6_readsLogs 83 = .ok (.iload_n 1, 1) := by decide +kernel
theorem dX6_readsLogs_84 : decode cX6_readsLogs 84 = .ok (.ifCond .ge 6, 3) := by decide +kernel
theorem dX6_readsLogs_87 : decode cX6_readsLogs 87 = .ok (.goto 62, 3) := by decide +kernel
theorem dX6_readsLogs_90 : decode cX6_readsLogs 90 = .ok (.aload_n 0, 1) := by decide +kernel
theorem dX6_readsLogs_91 : decode cX6_readsLogs 91 = .ok (.getfield 7, 3) := by decide +kernel
theorem dX6_readsLogs_94 : decode cX6_readsLogs 94 = .ok (.bipush 64, 2) := by decide +kernel
theorem dX6_readsLogs_96 : decode cX6_readsLogs 96 = .ok (.iload_n 1, 1) := by decide +kernel
theorem dX6_readsLogs_97 : decode cX6_readsLogs 97 = .ok (.imul, 1) := by decide +kernel
theorem dX6_readsLogs_98 : decode cX6_readsLogs 98 = .ok (.iconst 1, 1) := by decide +kernel
theorem dX6_readsLogs_99 : decode cX6_readsLogs 99 = .ok (.iadd, 1) := by decide +kernel
theorem dX6_readsLogs_100 : decode cX6_readsLogs 100 = .ok (.baload, 1) := by decide +kernel
theorem dX6_readsLogs_101 : decode cX6_readsLogs 101 = .ok (.istore_n 2, 1) := by decide +kernel
theorem dX6_readsLogs_102 : decode cX6_readsLogs 102 = .ok (.aload_n 0, 1) := by decide +kernel
theorem dX6_readsLogs_103 : decode cX6_readsLogs 103 = .ok (.iload_n 1, 1) := by decide +kernel
theorem dX6_readsLogs_104 : decode cX6_readsLogs 104 = .ok (.iload_n 2, 1) := by decide +kernel
theorem dX6_readsLogs_105 : decode cX6_readsLogs 105 = .ok (.invokevirtual 179, 3) := by decide +kernel
theorem dX6_readsLogs_108 : decode cX6_readsLogs 108 = .ok (.aload_n 0, 1) := by decide +kernel
theorem dX6_readsLogs_109 : decode cX6_readsLogs 109 = .ok (.getfield 39, 3) := by decide +kernel
theorem dX6_readsLogs_112 : decode cX6_readsLogs 112 = .ok (.aload_n 0, 1) := by decide +kernel
theorem dX6_readsLogs_113 : decode cX6_readsLogs 113 = .ok (.getfield 77, 3) := by decide +kernel
theorem dX6_readsLogs_116 : decode cX6_readsLogs 116 = .ok (.iload_n 1, 1) := by decide +kernel
theorem dX6_readsLogs_117 : decode cX6_readsLogs 117 = .ok (.iastore, 1) := by decide +kernel
theorem dX6_readsLogs_118 : decode cX6_readsLogs 118 = .ok (.aload_n 0, 1) := by decide +kernel
theorem dX6_readsLogs_119 : decode cX6_readsLogs 119 = .ok (.getfield 42, 3) := by decide +kernel
theorem dX6_readsLogs_122 : decode cX6_readsLogs 122 = .ok (.aload_n 0, 1) := by decide +kernel
theorem dX6_readsLogs_123 : decode cX6_readsLogs 123 = .ok (.dup, 1) := by decide +kernel
theorem dX6_readsLogs_124 : decode cX6_readsLogs 124 = .ok (.getfield 77, 3) := by decide +kernel
theorem dX6_readsLogs_127 : decode cX6_readsLogs 127 = .ok (.dup_x1, 1) := by decide +kernel
theorem dX6_readsLogs_128 : decode cX6_readsLogs 128 = .ok (.iconst 1, 1) := by decide +kernel
theorem dX6_readsLogs_129 : decode cX6_readsLogs 129 = .ok (.iadd, 1) := by decide +kernel
theorem dX6_readsLogs_130 : decode cX6_readsLogs 130 = .ok (.putfield 77, 3) := by decide +kernel
theorem dX6_readsLogs_133 : decode cX6_readsLogs 133 = .ok (.iload_n 2, 1) := by decide +kernel
theorem dX6_readsLogs_134 : decode cX6_readsLogs 134 = .ok (.iastore, 1) := by decide +kernel
theorem dX6_readsLogs_135 : decode cX6_readsLogs 135 = .ok (.aload_n 0, 1) := by decide +kernel
theorem dX6_readsLogs_136 : decode cX6_readsLogs 136 = .ok (.dup, 1) := by decide +kernel
theorem dX6_readsLogs_137 : decode cX6_readsLogs 137 = .ok (.getfield 87, 3) := by decide +kernel
theorem dX6_readsLogs_140 : decode cX6_readsLogs 140 = .ok (.iload_n 2, 1) := by decide +kernel
theorem dX6_readsLogs_141 : decode cX6_readsLogs 141 = .ok (.i2l, 1) := by decide +kernel
theorem dX6_readsLogs_142 : decode cX6_readsLogs 142 = .ok (.ladd, 1) := by decide +kernel
theorem dX6_readsLogs_143 : decode cX6_readsLogs 143 = .ok (.putfield 87, 3) := by decide +kernel
theorem dX6_readsLogs_146 : decode cX6_readsLogs 146 = .ok (.goto (-144), 3) := by decide +kernel
theorem dX6_readsLogs_149 : decode cX6_readsLogs 149 = .ok (.iconst 2, 1) := by decide +kernel
theorem dX6_readsLogs_150 : decode cX6_readsLogs 150 = .ok (.istore_n 2, 1) := by decide +kernel
theorem dX6_readsLogs_151 : decode cX6_readsLogs 151 = .ok (.iload_n 2, 1) := by decide +kernel
theorem dX6_readsLogs_152 : decode cX6_readsLogs 152 = .ok (.aload_n 0, 1) := by decide +kernel
theorem dX6_readsLogs_153 : decode cX6_readsLogs 153 = .ok (.getfield 99, 3) := by decide +kernel
theorem dX6_readsLogs_156 : decode cX6_readsLogs 156 = .ok (.if_icmp .ge 54, 3) := by decide +kernel
theorem dX6_readsLogs_159 : decode cX6_readsLogs 159 = .ok (.aload_n 0, 1) := by decide +kernel
theorem dX6_readsLogs_160 : decode cX6_readsLogs 160 = .ok (.iload_n 2, 1) := by decide +kernel
theorem dX6_readsLogs_161 : decode cX6_readsLogs 161 = .ok (.invokevirtual 113, 3) := by decide +kernel
theorem dX6_readsLogs_164 : decode cX6_readsLogs 164 = .ok (.ifCond .ne 40, 3) := by decide +kernel
theorem dX6_readsLogs_167 : decode cX6_readsLogs 167 = .ok (.aload_n 0, 1) := by decide +kernel
theorem dX6_readsLogs_168 : decode cX6_readsLogs 168 = .ok (.iload_n 2, 1) := by decide +kernel
theorem dX6_readsLogs_169 : decode cX6_readsLogs 169 = .ok (.invokevirtual 183, 3) := by decide +kernel
theorem dX6_readsLogs_172 : decode cX6_readsLogs 172 = .ok (.ifCond .ne 6, 3) := by decide +kernel
theorem dX6_readsLogs_175 : decode cX6_readsLogs 175 = .ok (.goto 29, 3) := by decide +kernel
theorem dX6_readsLogs_178 : decode cX6_readsLogs 178 = .ok (.iconst 0, 1) := by decide +kernel
theorem dX6_readsLogs_179 : decode cX6_readsLogs 179 = .ok (.istore_n 3, 1) := by decide +kernel
theorem dX6_readsLogs_180 : decode cX6_readsLogs 180 = .ok (.iload_n 3, 1) := by decide +kernel
theorem dX6_readsLogs_181 : decode cX6_readsLogs 181 = .ok (.bipush 64, 2) := by decide +kernel
theorem dX6_readsLogs_183 : decode cX6_readsLogs 183 = .ok (.if_icmp .ge 21, 3) := by decide +kernel
theorem dX6_readsLogs_186 : decode cX6_readsLogs 186 = .ok (.aload_n 0, 1) := by decide +kernel
theorem dX6_readsLogs_187 : decode cX6_readsLogs 187 = .ok (.getfield 7, 3) := by decide +kernel
theorem dX6_readsLogs_190 : decode cX6_readsLogs 190 = .ok (.bipush 64, 2) := by decide +kernel
theorem dX6_readsLogs_192 : decode cX6_readsLogs 192 = .ok (.iload_n 2, 1) := by decide +kernel
theorem dX6_readsLogs_193 : decode cX6_readsLogs 193 = .ok (.imul, 1) := by decide +kernel
theorem dX6_readsLogs_194 : decode cX6_readsLogs 194 = .ok (.iload_n 3, 1) := by decide +kernel
theorem dX6_readsLogs_195 : decode cX6_readsLogs 195 = .ok (.iadd, 1) := by decide +kernel
theorem dX6_readsLogs_196 : decode cX6_readsLogs 196 = .ok (.iconst 0, 1) := by decide +kernel
theorem dX6_readsLogs_197 : decode cX6_readsLogs 197 = .ok (.bastore, 1) := by decide +kernel
theorem dX6_readsLogs_198 : decode cX6_readsLogs 198 = .ok (.iinc 3 1, 3) := by decide +kernel
theorem dX6_readsLogs_201 : decode cX6_readsLogs 201 = .ok (.goto (-21), 3) := by decide +kernel
theorem dX6_readsLogs_204 : decode cX6_readsLogs 204 = .ok (.iinc 2 1, 3) := by decide +kernel
theorem dX6_readsLogs_207 : decode cX6_readsLogs 207 = .ok (.goto (-56), 3) := by decide +kernel
theorem dX6_readsLogs_210 : decode cX6_readsLogs 210 = .ok (.return_, 1) := by decide +kernel
theorem dX6_isQueued_0 : decode cX6_isQueued 0 = .ok (.iconst 0, 1) := by decide +kernel
theorem dX6_isQueued_1 : decode cX6_isQueued 1 = .ok (.istore_n 2, 1) := by decide +kernel
theorem dX6_isQueued_2 : decode cX6_isQueued 2 = .ok (.iload_n 2, 1) := by decide +kernel
theorem dX6_isQueued_3 : decode cX6_isQueued 3 = .ok (.aload_n 0, 1) := by decide +kernel
theorem dX6_isQueued_4 : decode cX6_isQueued 4 = .ok (.getfield 58, 3) := by decide +kernel
theorem dX6_isQueued_7 : decode cX6_isQueued 7 = .ok (.if_icmp .ge 21, 3) := by decide +kernel
theorem dX6_isQueued_10 : decode cX6_isQueued 10 = .ok (.aload_n 0, 1) := by decide +kernel
theorem dX6_isQueued_11 : decode cX6_isQueued 11 = .ok (.getfield 13, 3) := by decide +kernel
theorem dX6_isQueued_14 : decode cX6_isQueued 14 = .ok (.iload_n 2, 1) := by decide +kernel
theorem dX6_isQueued_15 : decode cX6_isQueued 15 = .ok (.iaload, 1) := by decide +kernel
theorem dX6_isQueued_16 : decode cX6_isQueued 16 = .ok (.iload_n 1, 1) := by decide +kernel
theorem dX6_isQueued_17 : decode cX6_isQueued 17 = .ok (.if_icmp .ne 5, 3) := by decide +kernel
theorem dX6_isQueued_20 : decode cX6_isQueued 20 = .ok (.iconst 1, 1) := by decide +kernel
theorem dX6_isQueued_21 : decode cX6_isQueued 21 = .ok (.ireturn, 1) := by decide +kernel
theorem dX6_isQueued_22 : decode cX6_isQueued 22 = .ok (.iinc 2 1, 3) := by decide +kernel
theorem dX6_isQueued_25 : decode cX6_isQueued 25 = .ok (.goto (-23), 3) := by decide +kernel
theorem dX6_isQueued_28 : decode cX6_isQueued 28 = .ok (.iconst 0, 1) := by decide +kernel
theorem dX6_isQueued_29 : decode cX6_isQueued 29 = .ok (.ireturn, 1) := by decide +kernel
theorem dX6_acknowledged_0 : decode cX6_acknowledged 0 = .ok (.aload_n 0, 1) := by decide +kernel
theorem dX6_acknowledged_1 : decode cX6_acknowledged 1 = .ok (.getfield 105, 3) := by decide +kernel
theorem dX6_acknowledged_4 : decode cX6_acknowledged 4 = .ok (.ifCond .ne 6, 3) := by decide +kernel
theorem dX6_acknowledged_7 : decode cX6_acknowledged 7 = .ok (.bipush (-4), 2) := by decide +kernel
theorem dX6_acknowledged_9 : decode cX6_acknowledged 9 = .ok (.ireturn, 1) := by decide +kernel
theorem dX6_acknowledged_10 : decode cX6_acknowledged 10 = .ok (.aload_n 0, 1) := by decide +kernel
theorem dX6_acknowledged_11 : decode cX6_acknowledged 11 = .ok (.getfield 87, 3) := by decide +kernel
theorem dX6_acknowledged_14 : decode cX6_acknowledged 14 = .ok (.lconst 1, 1) := by decide +kernel
theorem dX6_acknowledged_15 : decode cX6_acknowledged 15 = .ok (.lsub, 1) := by decide +kernel
theorem dX6_acknowledged_16 : decode cX6_acknowledged 16 = .ok (.aload_n 0, 1) := by decide +kernel
theorem dX6_acknowledged_17 : decode cX6_acknowledged 17 = .ok (.getfield 80, 3) := by decide +kernel
theorem dX6_acknowledged_20 : decode cX6_acknowledged 20 = .ok (.i2l, 1) := by decide +kernel
theorem dX6_acknowledged_21 : decode cX6_acknowledged 21 = .ok (.lsub, 1) := by decide +kernel
theorem dX6_acknowledged_22 : decode cX6_acknowledged 22 = .ok (.lstore_n 1, 1) := by decide +kernel
theorem dX6_acknowledged_23 : decode cX6_acknowledged 23 = .ok (.aload_n 0, 1) := by decide +kernel
theorem dX6_acknowledged_24 : decode cX6_acknowledged 24 = .ok (.getfield 77, 3) := by decide +kernel
theorem dX6_acknowledged_27 : decode cX6_acknowledged 27 = .ok (.iconst 1, 1) := by decide +kernel
theorem dX6_acknowledged_28 : decode cX6_acknowledged 28 = .ok (.isub, 1) := by decide +kernel
theorem dX6_acknowledged_29 : decode cX6_acknowledged 29 = .ok (.istore_n 3, 1) := by decide +kernel
theorem dX6_acknowledged_30 : decode cX6_acknowledged 30 = .ok (.iload_n 3, 1) := by decide +kernel
theorem dX6_acknowledged_31 : decode cX6_acknowledged 31 = .ok (.ifCond .lt 32, 3) := by decide +kernel
theorem dX6_acknowledged_34 : decode cX6_acknowledged 34 = .ok (.aload_n 0, 1) := by decide +kernel
theorem dX6_acknowledged_35 : decode cX6_acknowledged 35 = .ok (.aload_n 0, 1) := by decide +kernel
theorem dX6_acknowledged_36 : decode cX6_acknowledged 36 = .ok (.getfield 39, 3) := by decide +kernel
theorem dX6_acknowledged_39 : decode cX6_acknowledged 39 = .ok (.iload_n 3, 1) := by decide +kernel
theorem dX6_acknowledged_40 : decode cX6_acknowledged 40 = .ok (.iaload, 1) := by decide +kernel
theorem dX6_acknowledged_41 : decode cX6_acknowledged 41 = .ok (.invokevirtual 186, 3) := by decide +kernel
theorem dX6_acknowledged_44 : decode cX6_acknowledged 44 = .ok (.ifCond .eq 13, 3) := by decide +kernel
theorem dX6_acknowledged_47 : decode cX6_acknowledged 47 = .ok (.lload_n 1, 1) := by decide +kernel
theorem dX6_acknowledged_48 : decode cX6_acknowledged 48 = .ok (.aload_n 0, 1) := by decide +kernel
theorem dX6_acknowledged_49 : decode cX6_acknowledged 49 = .ok (.getfield 42, 3) := by decide +kernel
theorem dX6_acknowledged_52 : decode cX6_acknowledged 52 = .ok (.iload_n 3, 1) := by decide +kernel
theorem dX6_acknowledged_53 : decode cX6_acknowledged 53 = .ok (.iaload, 1) := by decide +kernel
theorem dX6_acknowledged_54 : decode cX6_acknowledged 54 = .ok (.i2l, 1) := by decide +kernel
theorem dX6_acknowledged_55 : decode cX6_acknowledged 55 = .ok (.lsub, 1) := by decide +kernel
theorem dX6_acknowledged_56 : decode cX6_acknowledged 56 = .ok (.lstore_n 1, 1) := by decide +kernel
theorem dX6_acknowledged_57 : decode cX6_acknowledged 57 = .ok (.iinc 3 (-1), 3) := by decide +kernel
theorem dX6_acknowledged_60 : decode cX6_acknowledged 60 = .ok (.goto (-30), 3) := by decide +kernel
theorem dX6_acknowledged_63 : decode cX6_acknowledged 63 = .ok (.lload_n 1, 1) := by decide +kernel
theorem dX6_acknowledged_64 : decode cX6_acknowledged 64 = .ok (.l2i, 1) := by decide +kernel
theorem dX6_acknowledged_65 : decode cX6_acknowledged 65 = .ok (.ireturn, 1) := by decide +kernel
theorem dX6_get_0 : decode cX6_get 0 = .ok (.lconst 0, 1) := by decide +kernel
theorem dX6_get_1 : decode cX6_get 1 = .ok (.lstore_n 3, 1) := by decide +kernel
theorem dX6_get_2 : decode cX6_get 2 = .ok (.iconst 0, 1) := by decide +kernel
theorem dX6_get_3 : decode cX6_get 3 = .ok (.istore 5, 2) := by decide +kernel
theorem dX6_get_5 : decode cX6_get 5 = .ok (.iload 5, 2) := by decide +kernel
theorem dX6_get_7 : decode cX6_get 7 = .ok (.aload_n 0, 1) := by decide +kernel
theorem dX6_get_8 : decode cX6_get 8 = .ok (.getfield 71, 3) := by decide +kernel
theorem dX6_get_11 : decode cX6_get 11 = .ok (.if_icmp .ge 33, 3) := by decide +kernel
theorem dX6_get_14 : decode cX6_get 14 = .ok (.aload_n 0, 1) := by decide +kernel
theorem dX6_get_15 : decode cX6_get 15 = .ok (.getfield 20, 3) := by decide +kernel
theorem dX6_get_18 : decode cX6_get 18 = .ok (.iload 5, 2) := by decide +kernel
theorem dX6_get_20 : decode cX6_get 20 = .ok (.laload, 1) := by decide +kernel
theorem dX6_get_21 : decode cX6_get 21 = .ok (.lload_n 1, 1) := by decide +kernel
theorem dX6_get_22 : decode cX6_get 22 = .ok (.lcmp, 1) := by decide +kernel
theorem dX6_get_23 : decode cX6_get 23 = .ok (.ifCond .ne 13, 3) := by decide +kernel
theorem dX6_get_26 : decode cX6_get 26 = .ok (.aload_n 0, 1) := by decide +kernel
theorem dX6_get_27 : decode cX6_get 27 = .ok (.getfield 24, 3) := by decide +kernel
theorem dX6_get_30 : decode cX6_get 30 = .ok (.iload 5, 2) := by decide +kernel
theorem dX6_get_32 : decode cX6_get 32 = .ok (.laload, 1) := by decide +kernel
theorem dX6_get_33 : decode cX6_get 33 = .ok (.goto 4, 3) := by decide +kernel
theorem dX6_get_36 : decode cX6_get 36 = .ok (.lload_n 3, 1) := by decide +kernel
theorem dX6_get_37 : decode cX6_get 37 = .ok (.lstore_n 3, 1) := by decide +kernel
theorem dX6_get_38 : decode cX6_get 38 = .ok (.iinc 5 1, 3) := by decide +kernel
theorem dX6_get_41 : decode cX6_get 41 = .ok (.goto (-36), 3) := by decide +kernel
theorem dX6_get_44 : decode cX6_get 44 = .ok (.lload_n 3, 1) := by decide +kernel
theorem dX6_get_45 : decode cX6_get 45 = .ok (.lreturn, 1) := by decide +kernel
theorem dX6_times_0 : decode cX6_times 0 = .ok (.aload_n 0, 1) := by decide +kernel
theorem dX6_times_1 : decode cX6_times 1 = .ok (.getfield 105, 3) := by decide +kernel
theorem dX6_times_4 : decode cX6_times 4 = .ok (.ifCond .ne 6, 3) := by decide +kernel
theorem dX6_times_7 : decode cX6_times 7 = .ok (.bipush (-4), 2) := by decide +kernel
theorem dX6_times_9 : decode cX6_times 9 = .ok (.ireturn, 1) := by decide +kernel
theorem dX6_times_10 : decode cX6_times 10 = .ok (.iconst 0, 1) := by decide +kernel
theorem dX6_times_11 : decode cX6_times 11 = .ok (.istore_n 3, 1) := by decide +kernel
theorem dX6_times_12 : decode cX6_times 12 = .ok (.iconst 0, 1) := by decide +kernel
theorem dX6_times_13 : decode cX6_times 13 = .ok (.istore 4, 2) := by decide +kernel
theorem dX6_times_15 : decode cX6_times 15 = .ok (.iload 4, 2) := by decide +kernel
theorem dX6_times_17 : decode cX6_times 17 = .ok (.aload_n 0, 1) := by decide +kernel
theorem dX6_times_18 : decode cX6_times 18 = .ok (.getfield 71, 3) := by decide +kernel
theorem dX6_times_21 : decode cX6_times 21 = .ok (.if_icmp .ge 29, 3) := by decide +kernel
theorem dX6_times_24 : decode cX6_times 24 = .ok (.iload_n 3, 1) := by decide +kernel
theorem dX6_times_25 : decode cX6_times 25 = .ok (.aload_n 0, 1) := by decide +kernel
theorem dX6_times_26 : decode cX6_times 26 = .ok (.getfield 20, 3) := by decide +kernel
theorem dX6_times_29 : decode cX6_times 29 = .ok (.iload 4, 2) := by decide +kernel
theorem dX6_times_31 : decode cX6_times 31 = .ok (.laload, 1) := by decide +kernel
theorem dX6_times_32 : decode cX6_times 32 = .ok (.lload_n 1, 1) := by decide +kernel
theorem dX6_times_33 : decode cX6_times 33 = .ok (.lcmp, 1) := by decide +kernel
theorem dX6_times_34 : decode cX6_times 34 = .ok (.ifCond .ne 7, 3) := by decide +kernel
theorem dX6_times_37 : decode cX6_times 37 = .ok (.iconst 1, 1) := by decide +kernel
theorem dX6_times_38 : decode cX6_times 38 = .ok (.goto 4, 3) := by decide +kernel
theorem dX6_times_41 : decode cX6_times 41 = .ok (.iconst 0, 1) := by decide +kernel
theorem dX6_times_42 : decode cX6_times 42 = .ok (.iadd, 1) := by decide +kernel
theorem dX6_times_43 : decode cX6_times 43 = .ok (.istore_n 3, 1) := by decide +kernel
theorem dX6_times_44 : decode cX6_times 44 = .ok (.iinc 4 1, 3) := by decide +kernel
theorem dX6_times_47 : decode cX6_times 47 = .ok (.goto (-32), 3) := by decide +kernel
theorem dX6_times_50 : decode cX6_times 50 = .ok (.iload_n 3, 1) := by decide +kernel
theorem dX6_times_51 : decode cX6_times 51 = .ok (.ireturn, 1) := by decide +kernel
theorem dX6_record_0 : decode cX6_record 0 = .ok (.iload_n 1, 1) := by decide +kernel
theorem dX6_record_1 : decode cX6_record 1 = .ok (.i2l, 1) := by decide +kernel
theorem dX6_record_2 : decode cX6_record 2 = .ok (.lconst 0, 1) := by decide +kernel
theorem dX6_record_3 : decode cX6_record 3 = .ok (.aload_n 0, 1) := by decide +kernel
theorem dX6_record_4 : decode cX6_record 4 = .ok (.getfield 71, 3) := by decide +kernel
theorem dX6_record_7 : decode cX6_record 7 = .ok (.iconst 1, 1) := by decide +kernel
theorem dX6_record_8 : decode cX6_record 8 = .ok (.isub, 1) := by decide +kernel
theorem dX6_record_9 : decode cX6_record 9 = .ok (.i2l, 1) := by decide +kernel
theorem dX6_record_10 : decode cX6_record 10 = .ok (.invokestatic 95, 3) := by decide +kernel
theorem dX6_record_13 : decode cX6_record 13 = .ok (.ifCond .eq 15, 3) := by decide +kernel
theorem dX6_record_16 : decode cX6_record 16 = .ok (.iload_n 2, 1) := by decide +kernel
theorem dX6_record_17 : decode cX6_record 17 = .ok (.i2l, 1) := by decide +kernel
theorem dX6_record_18 : decode cX6_record 18 = .ok (.lconst 0, 1) := by decide +kernel
theorem dX6_record_19 : decode cX6_record 19 = .ok (.ldc2_w 151, 3) := by decide +kernel
theorem dX6_record_22 : decode cX6_record 22 = .ok (.invokestatic 95, 3) := by decide +kernel
theorem dX6_record_25 : decode cX6_record 25 = .ok (.ifCond .ne 5, 3) := by decide +kernel
theorem dX6_record_28 : decode cX6_record 28 = .ok (.lconst 0, 1) := by decide +kernel
theorem dX6_record_29 : decode cX6_record 29 = .ok (.lreturn, 1) := by decide +kernel
theorem dX6_record_30 : decode cX6_record 30 = .ok (.iconst 0, 1) := by decide +kernel
theorem dX6_record_31 : decode cX6_record 31 = .ok (.istore_n 3, 1) := by decide +kernel
theorem dX6_record_32 : decode cX6_record 32 = .ok (.iload_n 3, 1) := by decide +kernel
theorem dX6_record_33 : decode cX6_record 33 = .ok (.aload_n 0, 1) := by decide +kernel
theorem dX6_record_34 : decode cX6_record 34 = .ok (.getfield 71, 3) := by decide +kernel
theorem dX6_record_37 : decode cX6_record 37 = .ok (.if_icmp .ge 149, 3) := by decide +kernel
theorem dX6_record_40 : decode cX6_record 40 = .ok (.iconst 0, 1) := by decide +kernel
theorem dX6_record_41 : decode cX6_record 41 = .ok (.istore 4, 2) := by decide +kernel
theorem dX6_record_43 : decode cX6_record 43 = .ok (.iconst 0, 1) := by decide +kernel
theorem dX6_record_44 : decode cX6_record 44 = .ok (.istore 5, 2) := by decide +kernel
theorem dX6_record_46 : decode cX6_record 46 = .ok (.iload 5, 2) := by decide +kernel
theorem dX6_record_48 : decode cX6_record 48 = .ok (.aload_n 0, 1) := by decide +kernel
theorem dX6_record_49 : decode cX6_record 49 = .ok (.getfield 71, 3) := by decide +kernel
theorem dX6_record_52 : decode cX6_record 52 = .ok (.if_icmp .ge 59, 3) := by decide +kernel
theorem dX6_record_55 : decode cX6_record 55 = .ok (.iload 4, 2) := by decide +kernel
theorem dX6_record_57 : decode cX6_record 57 = .ok (.aload_n 0, 1) := by decide +kernel
theorem dX6_record_58 : decode cX6_record 58 = .ok (.getfield 20, 3) := by decide +kernel
theorem dX6_record_61 : decode cX6_record 61 = .ok (.iload 5, 2) := by decide +kernel
theorem dX6_record_63 : decode cX6_record 63 = .ok (.laload, 1) := by decide +kernel
theorem dX6_record_64 : decode cX6_record 64 = .ok (.aload_n 0, 1) := by decide +kernel
theorem dX6_record_65 : decode cX6_record 65 = .ok (.getfield 20, 3) := by decide +kernel
theorem dX6_record_68 : decode cX6_record 68 = .ok (.iload_n 3, 1) := by decide +kernel
theorem dX6_record_69 : decode cX6_record 69 = .ok (.laload, 1) := by decide +kernel
theorem dX6_record_70 : decode cX6_record 70 = .ok (.lcmp, 1) := by decide +kernel
theorem dX6_record_71 : decode cX6_record 71 = .ok (.ifCond .lt 26, 3) := by decide +kernel
theorem dX6_record_74 : decode cX6_record 74 = .ok (.aload_n 0, 1) := by decide +kernel
theorem dX6_record_75 : decode cX6_record 75 = .ok (.getfield 20, 3) := by decide +kernel
theorem dX6_record_78 : decode cX6_record 78 = .ok (.iload 5, 2) := by decide +kernel
theorem dX6_record_80 : decode cX6_record 80 = .ok (.laload, 1) := by decide +kernel
theorem dX6_record_81 : decode cX6_record 81 = .ok (.aload_n 0, 1) := by decide +kernel
theorem dX6_record_82 : decode cX6_record 82 = .ok (.getfield 20, 3) := by decide +kernel
theorem dX6_record_85 : decode cX6_record 85 = .ok (.iload_n 3, 1) := by decide +kernel
theorem dX6_record_86 : decode cX6_record 86 = .ok (.laload, 1) := by decide +kernel
theorem dX6_record_87 : decode cX6_record 87 = .ok (.lcmp, 1) := by decide +kernel
theorem dX6_record_88 : decode cX6_record 88 = .ok (.ifCond .ne 13, 3) := by decide +kernel
theorem dX6_record_91 : decode cX6_record 91 = .ok (.iload 5, 2) := by decide +kernel
theorem dX6_record_93 : decode cX6_record 93 = .ok (.iload_n 3, 1) := by decide +kernel
theorem dX6_record_94 : decode cX6_record 94 = .ok (.if_icmp .ge 7, 3) := by decide +kernel
theorem dX6_record_97 : decode cX6_record 97 = .ok (.iconst 1, 1) := by decide +kernel
theorem dX6_record_98 : decode cX6_record 98 = .ok (.goto 4, 3) := by decide +kernel
theorem dX6_record_101 : decode cX6_record 101 = .ok (.iconst 0, 1) := by decide +kernel
theorem dX6_record_102 : decode cX6_record 102 = .ok (.iadd, 1) := by decide +kernel
theorem dX6_record_103 : decode cX6_record 103 = .ok (.istore 4, 2) := by decide +kernel
theorem dX6_record_105 : decode cX6_record 105 = .ok (.iinc 5 1, 3) := by decide +kernel
theorem dX6_record_108 : decode cX6_record 108 = .ok (.goto (-62), 3) := by decide +kernel
theorem dX6_record_111 : decode cX6_record 111 = .ok (.iload 4, 2) := by decide +kernel
theorem dX6_record_113 : decode cX6_record 113 = .ok (.iload_n 1, 1) := by decide +kernel
theorem dX6_record_114 : decode cX6_record 114 = .ok (.if_icmp .eq 6, 3) := by decide +kernel
theorem dX6_record_117 : decode cX6_record 117 = .ok (.goto 63, 3) := by decide +kernel
theorem dX6_record_120 : decode cX6_record 120 = .ok (.iload_n 2, 1) := by decide +kernel
theorem dX6_record_121 : decode cX6_record 121 = .ok (.ifCond .ne 12, 3) := by decide +kernel
theorem dX6_record_124 : decode cX6_record 124 = .ok (.aload_n 0, 1) := by decide +kernel
theorem dX6_record_125 : decode cX6_record 125 = .ok (.getfield 20, 3) := by decide +kernel
theorem dX6_record_128 : decode cX6_record 128 = .ok (.iload_n 3, 1) := by decide +kernel
theorem dX6_record_129 : decode cX6_record 129 = .ok (.laload, 1) := by decide +kernel
theorem dX6_record_130 : decode cX6_record 130 = .ok (.goto 49, 3) := by decide +kernel
theorem dX6_record_133 : decode cX6_record 133 = .ok (.iload_n 2, 1) := by decide +kernel
theorem dX6_record_134 : decode cX6_record 134 = .ok (.iconst 1, 1) := by decide +kernel
theorem dX6_record_135 : decode cX6_record 135 = .ok (.if_icmp .ne 12, 3) := by decide +kernel
theorem dX6_record_138 : decode cX6_record 138 = .ok (.aload_n 0, 1) := by decide +kernel
theorem dX6_record_139 : decode cX6_record 139 = .ok (.getfield 24, 3) := by decide +kernel
theorem dX6_record_142 : decode cX6_record 142 = .ok (.iload_n 3, 1) := by decide +kernel
theorem dX6_record_143 : decode cX6_record 143 = .ok (.laload, 1) := by decide +kernel
theorem dX6_record_144 : decode cX6_record 144 = .ok (.goto 35, 3) := by decide +kernel
theorem dX6_record_147 : decode cX6_record 147 = .ok (.iload_n 3, 1) := by decide +kernel
theorem dX6_record_148 : decode cX6_record 148 = .ok (.aload_n 0, 1) := by decide +kernel
theorem dX6_record_149 : decode cX6_record 149 = .ok (.invokevirtual 134, 3) := by decide +kernel
theorem dX6_record_152 : decode cX6_record 152 = .ok (.if_icmp .ge 7, 3) := by decide +kernel
theorem dX6_record_155 : decode cX6_record 155 = .ok (.lconst 0, 1) := by decide +kernel
theorem dX6_record_156 : decode cX6_record 156 = .ok (.goto 23, 3) := by decide +kernel
theorem dX6_record_159 : decode cX6_record 159 = .ok (.iload_n 3, 1) := by decide +kernel
theorem dX6_record_160 : decode cX6_record 160 = .ok (.aload_n 0, 1) := by decide +kernel
theorem dX6_record_161 : decode cX6_record 161 = .ok (.getfield 71, 3) := by decide +kernel
theorem dX6_record_164 : decode cX6_record 164 = .ok (.aload_n 0, 1) := by decide +kernel
theorem dX6_record_165 : decode cX6_record 165 = .ok (.getfield 80, 3) := by decide +kernel
theorem dX6_record_168 : decode cX6_record 168 = .ok (.isub, 1) := by decide +kernel
theorem dX6_record_169 : decode cX6_record 169 = .ok (.if_icmp .ge 7, 3) := by decide +kernel
theorem dX6_record_172 : decode cX6_record 172 = .ok (.lconst 1, 1) := by decide +kernel
theorem dX6_record_173 : decode cX6_record 173 = .ok (.goto 6, 3) := by decide +kernel
theorem dX6_record_176 : decode cX6_record 176 = .ok (.ldc2_w 151, 3) := by decide +kernel
theorem dX6_record_179 : decode cX6_record 179 = .ok (.lreturn, 1) := by decide +kernel
theorem dX6_record_180 : decode cX6_record 180 = .ok (.iinc 3 1, 3) := by decide +kernel
theorem dX6_record_183 : decode cX6_record 183 = .ok (.goto (-151), 3) := by decide +kernel
theorem dX6_record_186 : decode cX6_record 186 = .ok (.lconst 0, 1) := by decide +kernel
theorem dX6_record_187 : decode cX6_record 187 = .ok (.lreturn, 1) := by decide +kernel
theorem dX6_file_0 : decode cX6_file 0 = .ok (.iload_n 1, 1) := by decide +kernel
theorem dX6_file_1 : decode cX6_file 1 = .ok (.i2l, 1) := by decide +kernel
theorem dX6_file_2 : decode cX6_file 2 = .ok (.lconst 0, 1) := by decide +kernel
theorem dX6_file_3 : decode cX6_file 3 = .ok (.ldc2_w 93, 3) := by decide +kernel
theorem dX6_file_6 : decode cX6_file 6 = .ok (.invokestatic 95, 3) := by decide +kernel
theorem dX6_file_9 : decode cX6_file 9 = .ok (.ifCond .eq 15, 3) := by decide +kernel
theorem dX6_file_12 : decode cX6_file 12 = .ok (.iload_n 2, 1) := by decide +kernel
theorem dX6_file_13 : decode cX6_file 13 = .ok (.i2l, 1) := by decide +kernel
theorem dX6_file_14 : decode cX6_file 14 = .ok (.lconst 0, 1) := by decide +kernel
theorem dX6_file_15 : decode cX6_file 15 = .ok (.ldc2_w 153, 3) := by decide +kernel
theorem dX6_file_18 : decode cX6_file 18 = .ok (.invokestatic 95, 3) := by decide +kernel
theorem dX6_file_21 : decode cX6_file 21 = .ok (.ifCond .ne 5, 3) := by decide +kernel
theorem dX6_file_24 : decode cX6_file 24 = .ok (.iconst (-1), 1) := by decide +kernel
theorem dX6_file_25 : decode cX6_file 25 = .ok (.ireturn, 1) := by decide +kernel
theorem dX6_file_26 : decode cX6_file 26 = .ok (.aload_n 0, 1) := by decide +kernel
theorem dX6_file_27 : decode cX6_file 27 = .ok (.getfield 105, 3) := by decide +kernel
theorem dX6_file_30 : decode cX6_file 30 = .ok (.ifCond .ne 6, 3) := by decide +kernel
theorem dX6_file_33 : decode cX6_file 33 = .ok (.bipush (-4), 2) := by decide +kernel
theorem dX6_file_35 : decode cX6_file 35 = .ok (.ireturn, 1) := by decide +kernel
theorem dX6_file_36 : decode cX6_file 36 = .ok (.iload_n 1, 1) := by decide +kernel
theorem dX6_file_37 : decode cX6_file 37 = .ok (.aload_n 0, 1) := by decide +kernel
theorem dX6_file_38 : decode cX6_file 38 = .ok (.getfield 74, 3) := by decide +kernel
theorem dX6_file_41 : decode cX6_file 41 = .ok (.if_icmp .lt 5, 3) := by decide +kernel
theorem dX6_file_44 : decode cX6_file 44 = .ok (.iconst (-1), 1) := by decide +kernel
theorem dX6_file_45 : decode cX6_file 45 = .ok (.ireturn, 1) := by decide +kernel
theorem dX6_file_46 : decode cX6_file 46 = .ok (.iload_n 2, 1) := by decide +kernel
theorem dX6_file_47 : decode cX6_file 47 = .ok (.ifCond .ne 12, 3) := by decide +kernel
theorem dX6_file_50 : decode cX6_file 50 = .ok (.aload_n 0, 1) := by decide +kernel
theorem dX6_file_51 : decode cX6_file 51 = .ok (.getfield 27, 3) := by decide +kernel
theorem dX6_file_54 : decode cX6_file 54 = .ok (.iload_n 1, 1) := by decide +kernel
theorem dX6_file_55 : decode cX6_file 55 = .ok (.iaload, 1) := by decide +kernel
theorem dX6_file_56 : decode cX6_file 56 = .ok (.goto 37, 3) := by decide +kernel
theorem dX6_file_59 : decode cX6_file 59 = .ok (.iload_n 2, 1) := by decide +kernel
theorem dX6_file_60 : decode cX6_file 60 = .ok (.iconst 1, 1) := by decide +kernel
theorem dX6_file_61 : decode cX6_file 61 = .ok (.if_icmp .ne 12, 3) := by decide +kernel
theorem dX6_file_64 : decode cX6_file 64 = .ok (.aload_n 0, 1) := by decide +kernel
theorem dX6_file_65 : decode cX6_file 65 = .ok (.getfield 30, 3) := by decide +kernel
theorem dX6_file_68 : decode cX6_file 68 = .ok (.iload_n 1, 1) := by decide +kernel
theorem dX6_file_69 : decode cX6_file 69 = .ok (.iaload, 1) := by decide +kernel
theorem dX6_file_70 : decode cX6_file 70 = .ok (.goto 23, 3) := by decide +kernel
theorem dX6_file_73 : decode cX6_file 73 = .ok (.iload_n 2, 1) := by decide +kernel
theorem dX6_file_74 : decode cX6_file 74 = .ok (.iconst 2, 1) := by decide +kernel
theorem dX6_file_75 : decode cX6_file 75 = .ok (.if_icmp .ne 12, 3) := by decide +kernel
theorem dX6_file_78 : decode cX6_file 78 = .ok (.aload_n 0, 1) := by decide +kernel
theorem dX6_file_79 : decode cX6_file 79 = .ok (.getfield 33, 3) := by decide +kernel
theorem dX6_file_82 : decode cX6_file 82 = .ok (.iload_n 1, 1) := by decide +kernel
theorem dX6_file_83 : decode cX6_file 83 = .ok (.iaload, 1) := by decide +kernel
theorem dX6_file_84 : decode cX6_file 84 = .ok (.goto 9, 3) := by decide +kernel
theorem dX6_file_87 : decode cX6_file 87 = .ok (.aload_n 0, 1) := by decide +kernel
theorem dX6_file_88 : decode cX6_file 88 = .ok (.getfield 36, 3) := by decide +kernel
theorem dX6_file_91 : decode cX6_file 91 = .ok (.iload_n 1, 1) := by decide +kernel
theorem dX6_file_92 : decode cX6_file 92 = .ok (.iaload, 1) := by decide +kernel
theorem dX6_file_93 : decode cX6_file 93 = .ok (.ireturn, 1) := by decide +kernel
theorem dX6_use_0 : decode cX6_use 0 = .ok (.iload_n 1, 1) := by decide +kernel
theorem dX6_use_1 : decode cX6_use 1 = .ok (.i2l, 1) := by decide +kernel
theorem dX6_use_2 : decode cX6_use 2 = .ok (.lconst 0, 1) := by decide +kernel
theorem dX6_use_3 : decode cX6_use 3 = .ok (.aload_n 0, 1) := by decide +kernel
theorem dX6_use_4 : decode cX6_use 4 = .ok (.getfield 99, 3) := by decide +kernel
theorem dX6_use_7 : decode cX6_use 7 = .ok (.iconst 1, 1) := by decide +kernel
theorem dX6_use_8 : decode cX6_use 8 = .ok (.isub, 1) := by decide +kernel
theorem dX6_use_9 : decode cX6_use 9 = .ok (.i2l, 1) := by decide +kernel
theorem dX6_use_10 : decode cX6_use 10 = .ok (.invokestatic 95, 3) := by decide +kernel
theorem dX6_use_13 : decode cX6_use 13 = .ok (.ifCond .ne 5, 3) := by decide +kernel
theorem dX6_use_16 : decode cX6_use 16 = .ok (.iconst (-1), 1) := by decide +kernel
theorem dX6_use_17 : decode cX6_use 17 = .ok (.ireturn, 1) := by decide +kernel
theorem dX6_use_18 : decode cX6_use 18 = .ok (.aload_n 0, 1) := by decide +kernel
theorem dX6_use_19 : decode cX6_use 19 = .ok (.getfield 105, 3) := by decide +kernel
theorem dX6_use_22 : decode cX6_use 22 = .ok (.ifCond .eq 11, 3) := by decide +kernel
theorem dX6_use_25 : decode cX6_use 25 = .ok (.aload_n 0, 1) := by decide +kernel
theorem dX6_use_26 : decode cX6_use 26 = .ok (.iload_n 1, 1) := by decide +kernel
theorem dX6_use_27 : decode cX6_use 27 = .ok (.invokevirtual 113, 3) := by decide +kernel
theorem dX6_use_30 : decode cX6_use 30 = .ok (.goto 5, 3) := by decide +kernel
theorem dX6_use_33 : decode cX6_use 33 = .ok (.bipush (-4), 2) := by decide +kernel
theorem dX6_use_35 : decode cX6_use 35 = .ok (.ireturn, 1) := by decide +kernel
theorem dX6_octet_0 : decode cX6_octet 0 = .ok (.iload_n 1, 1) := by decide +kernel
theorem dX6_octet_1 : decode cX6_octet 1 = .ok (.i2l, 1) := by decide +kernel
theorem dX6_octet_2 : decode cX6_octet 2 = .ok (.lconst 0, 1) := by decide +kernel
theorem dX6_octet_3 : decode cX6_octet 3 = .ok (.aload_n 0, 1) := by decide +kernel
theorem dX6_octet_4 : decode cX6_octet 4 = .ok (.getfield 99, 3) := by decide +kernel
theorem dX6_octet_7 : decode cX6_octet 7 = .ok (.iconst 1, 1) := by decide +kernel
theorem dX6_octet_8 : decode cX6_octet 8 = .ok (.isub, 1) := by decide +kernel
theorem dX6_octet_9 : decode cX6_octet 9 = .ok (.i2l, 1) := by decide +kernel
theorem dX6_octet_10 : decode cX6_octet 10 = .ok (.invokestatic 95, 3) := by decide +kernel
theorem dX6_octet_13 : decode cX6_octet 13 = .ok (.ifCond .eq 33, 3) := by decide +kernel
theorem dX6_octet_16 : decode cX6_octet 16 = .ok (.iload_n 2, 1) := by decide +kernel
theorem dX6_octet_17 : decode cX6_octet 17 = .ok (.i2l, 1) := by decide +kernel
theorem dX6_octet_18 : decode cX6_octet 18 = .ok (.lconst 0, 1) := by decide +kernel
theorem dX6_octet_19 : decode cX6_octet 19 = .ok (.ldc2_w 189, 3) := by decide +kernel
theorem dX6_octet_22 : decode cX6_octet 22 = .ok (.invokestatic 95, 3) := by decide +kernel
theorem dX6_octet_25 : decode cX6_octet 25 = .ok (.ifCond .eq 21, 3) := by decide +kernel
theorem dX6_octet_28 : decode cX6_octet 28 = .ok (.aload_n 0, 1) := by decide +kernel
theorem dX6_octet_29 : decode cX6_octet 29 = .ok (.getfield 7, 3) := by decide +kernel
theorem dX6_octet_32 : decode cX6_octet 32 = .ok (.bipush 64, 2) := by decide +kernel
theorem dX6_octet_34 : decode cX6_octet 34 = .ok (.iload_n 1, 1) := by decide +kernel
theorem dX6_octet_35 : decode cX6_octet 35 = .ok (.imul, 1) := by decide +kernel
theorem dX6_octet_36 : decode cX6_octet 36 = .ok (.iload_n 2, 1) := by decide +kernel
theorem dX6_octet_37 : decode cX6_octet 37 = .ok (.iadd, 1) := by decide +kernel
theorem dX6_octet_38 : decode cX6_octet 38 = .ok (.baload, 1) := by decide +kernel
theorem dX6_octet_39 : decode cX6_octet 39 = .ok (.sipush 255, 3) := by decide +kernel
theorem dX6_octet_42 : decode cX6_octet 42 = .ok (.iand, 1) := by decide +kernel
theorem dX6_octet_43 : decode cX6_octet 43 = .ok (.goto 4, 3) := by decide +kernel
theorem dX6_octet_46 : decode cX6_octet 46 = .ok (.iconst (-1), 1) := by decide +kernel
theorem dX6_octet_47 : decode cX6_octet 47 = .ok (.ireturn, 1) := by decide +kernel
theorem dX6_poke_0 : decode cX6_poke 0 = .ok (.iload_n 1, 1) := by decide +kernel
theorem dX6_poke_1 : decode cX6_poke 1 = .ok (.i2l, 1) := by decide +kernel
theorem dX6_poke_2 : decode cX6_poke 2 = .ok (.lconst 0, 1) := by decide +kernel
theorem dX6_poke_3 : decode cX6_poke 3 = .ok (.aload_n 0, 1) := by decide +kernel
theorem dX6_poke_4 : decode cX6_poke 4 = .ok (.getfield 99, 3) := by decide +kernel
theorem dX6_poke_7 : decode cX6_poke 7 = .ok (.iconst 1, 1) := by decide +kernel
theorem dX6_poke_8 : decode cX6_poke 8 = .ok (.isub, 1) := by decide +kernel
theorem dX6_poke_9 : decode cX6_poke 9 = .ok (.i2l, 1) := by decide +kernel
theorem dX6_poke_10 : decode cX6_poke 10 = .ok (.invokestatic 95, 3) := by decide +kernel
theorem dX6_poke_13 : decode cX6_poke 13 = .ok (.ifCond .eq 27, 3) := by decide +kernel
theorem dX6_poke_16 : decode cX6_poke 16 = .ok (.iload_n 2, 1) := by decide +kernel
theorem dX6_poke_17 : decode cX6_poke 17 = .ok (.i2l, 1) := by decide +kernel
theorem dX6_poke_18 : decode cX6_poke 18 = .ok (.lconst 0, 1) := by decide +kernel
theorem dX6_poke_19 : decode cX6_poke 19 = .ok (.ldc2_w 189, 3) := by decide +kernel
theorem dX6_poke_22 : decode cX6_poke 22 = .ok (.invokestatic 95, 3) := by decide +kernel
theorem dX6_poke_25 : decode cX6_poke 25 = .ok (.ifCond .eq 15, 3) := by decide +kernel
theorem dX6_poke_28 : decode cX6_poke 28 = .ok (.iload_n 3, 1) := by decide +kernel
theorem dX6_poke_29 : decode cX6_poke 29 = .ok (.i2l, 1) := by decide +kernel
theorem dX6_poke_30 : decode cX6_poke 30 = .ok (.lconst 1, 1) := by decide +kernel
theorem dX6_poke_31 : decode cX6_poke 31 = .ok (.ldc2_w 191, 3) := by decide +kernel
theorem dX6_poke_34 : decode cX6_poke 34 = .ok (.invokestatic 95, 3) := by decide +kernel
theorem dX6_poke_37 : decode cX6_poke 37 = .ok (.ifCond .ne 5, 3) := by decide +kernel
theorem dX6_poke_40 : decode cX6_poke 40 = .ok (.iconst (-1), 1) := by decide +kernel
theorem dX6_poke_41 : decode cX6_poke 41 = .ok (.ireturn, 1) := by decide +kernel
theorem dX6_poke_42 : decode cX6_poke 42 = .ok (.aload_n 0, 1) := by decide +kernel
theorem dX6_poke_43 : decode cX6_poke 43 = .ok (.getfield 7, 3) := by decide +kernel
theorem dX6_poke_46 : decode cX6_poke 46 = .ok (.bipush 64, 2) := by decide +kernel
theorem dX6_poke_48 : decode cX6_poke 48 = .ok (.iload_n 1, 1) := by decide +kernel
theorem dX6_poke_49 : decode cX6_poke 49 = .ok (.imul, 1) := by decide +kernel
theorem dX6_poke_50 : decode cX6_poke 50 = .ok (.iload_n 2, 1) := by decide +kernel
theorem dX6_poke_51 : decode cX6_poke 51 = .ok (.iadd, 1) := by decide +kernel
theorem dX6_poke_52 : decode cX6_poke 52 = .ok (.dup2, 1) := by decide +kernel
theorem dX6_poke_53 : decode cX6_poke 53 = .ok (.baload, 1) := by decide +kernel
theorem dX6_poke_54 : decode cX6_poke 54 = .ok (.iload_n 3, 1) := by decide +kernel
theorem dX6_poke_55 : decode cX6_poke 55 = .ok (.i2b, 1) := by decide +kernel
theorem dX6_poke_56 : decode cX6_poke 56 = .ok (.ixor, 1) := by decide +kernel
theorem dX6_poke_57 : decode cX6_poke 57 = .ok (.i2b, 1) := by decide +kernel
theorem dX6_poke_58 : decode cX6_poke 58 = .ok (.bastore, 1) := by decide +kernel
theorem dX6_poke_59 : decode cX6_poke 59 = .ok (.aload_n 0, 1) := by decide +kernel
theorem dX6_poke_60 : decode cX6_poke 60 = .ok (.getfield 7, 3) := by decide +kernel
theorem dX6_poke_63 : decode cX6_poke 63 = .ok (.bipush 64, 2) := by decide +kernel
theorem dX6_poke_65 : decode cX6_poke 65 = .ok (.iload_n 1, 1) := by decide +kernel
theorem dX6_poke_66 : decode cX6_poke 66 = .ok (.imul, 1) := by decide +kernel
theorem dX6_poke_67 : decode cX6_poke 67 = .ok (.iload_n 2, 1) := by decide +kernel
theorem dX6_poke_68 : decode cX6_poke 68 = .ok (.iadd, 1) := by decide +kernel
theorem dX6_poke_69 : decode cX6_poke 69 = .ok (.baload, 1) := by decide +kernel
theorem dX6_poke_70 : decode cX6_poke 70 = .ok (.sipush 255, 3) := by decide +kernel
theorem dX6_poke_73 : decode cX6_poke 73 = .ok (.iand, 1) := by decide +kernel
theorem dX6_poke_74 : decode cX6_poke 74 = .ok (.ireturn, 1) := by decide +kernel
theorem dX6_bad_0 : decode cX6_bad 0 = .ok (.aload_n 0, 1) := by decide +kernel
theorem dX6_bad_1 : decode cX6_bad 1 = .ok (.getfield 105, 3) := by decide +kernel
theorem dX6_bad_4 : decode cX6_bad 4 = .ok (.ifCond .ne 6, 3) := by decide +kernel
theorem dX6_bad_7 : decode cX6_bad 7 = .ok (.bipush (-4), 2) := by decide +kernel
theorem dX6_bad_9 : decode cX6_bad 9 = .ok (.ireturn, 1) := by decide +kernel
theorem dX6_bad_10 : decode cX6_bad 10 = .ok (.iconst 0, 1) := by decide +kernel
theorem dX6_bad_11 : decode cX6_bad 11 = .ok (.istore_n 1, 1) := by decide +kernel
theorem dX6_bad_12 : decode cX6_bad 12 = .ok (.iload_n 1, 1) := by decide +kernel
theorem dX6_bad_13 : decode cX6_bad 13 = .ok (.aload_n 0, 1) := by decide +kernel
theorem dX6_bad_14 : decode cX6_bad 14 = .ok (.getfield 99, 3) := by decide +kernel
theorem dX6_bad_17 : decode cX6_bad 17 = .ok (.if_icmp .ge 83, 3) := by decide +kernel
theorem dX6_bad_20 : decode cX6_bad 20 = .ok (.aload_n 0, 1) := by decide +kernel
theorem dX6_bad_21 : decode cX6_bad 21 = .ok (.iload_n 1, 1) := by decide +kernel
theorem dX6_bad_22 : decode cX6_bad 22 = .ok (.invokevirtual 113, 3) := by decide +kernel
theorem dX6_bad_25 : decode cX6_bad 25 = .ok (.istore_n 2, 1) := by decide +kernel
theorem dX6_bad_26 : decode cX6_bad 26 = .ok (.iload_n 1, 1) := by decide +kernel
theorem dX6_bad_27 : decode cX6_bad 27 = .ok (.iconst 2, 1) := by decide +kernel
theorem dX6_bad_28 : decode cX6_bad 28 = .ok (.if_icmp .ge 34, 3) := by decide +kernel
theorem dX6_bad_31 : decode cX6_bad 31 = .ok (.aload_n 0, 1) := by decide +kernel
theorem dX6_bad_32 : decode cX6_bad 32 = .ok (.getfield 83, 3) := by decide +kernel
theorem dX6_bad_35 : decode cX6_bad 35 = .ok (.lconst 0, 1) := by decide +kernel
theorem dX6_bad_36 : decode cX6_bad 36 = .ok (.lcmp, 1) := by decide +kernel
theorem dX6_bad_37 : decode cX6_bad 37 = .ok (.ifCond .le 21, 3) := by decide +kernel
theorem dX6_bad_40 : decode cX6_bad 40 = .ok (.aload_n 0, 1) := by decide +kernel
theorem dX6_bad_41 : decode cX6_bad 41 = .ok (.getfield 83, 3) := by decide +kernel
theorem dX6_bad_44 : decode cX6_bad 44 = .ok (.ldc2_w 151, 3) := by decide +kernel
theorem dX6_bad_47 : decode cX6_bad 47 = .ok (.lrem, 1) := by decide +kernel
theorem dX6_bad_48 : decode cX6_bad 48 = .ok (.iload_n 1, 1) := by decide +kernel
theorem dX6_bad_49 : decode cX6_bad 49 = .ok (.i2l, 1) := by decide +kernel
theorem dX6_bad_50 : decode cX6_bad 50 = .ok (.lcmp, 1) := by decide +kernel
theorem dX6_bad_51 : decode cX6_bad 51 = .ok (.ifCond .ne 7, 3) := by decide +kernel
theorem dX6_bad_54 : decode cX6_bad 54 = .ok (.iconst 1, 1) := by decide +kernel
theorem dX6_bad_55 : decode cX6_bad 55 = .ok (.goto 16, 3) := by decide +kernel
theorem dX6_bad_58 : decode cX6_bad 58 = .ok (.iconst 0, 1) := by decide +kernel
theorem dX6_bad_59 : decode cX6_bad 59 = .ok (.goto 12, 3) := by decide +kernel
theorem dX6_bad_62 : decode cX6_bad 62 = .ok (.iload_n 2, 1) := by decide +kernel
theorem dX6_bad_63 : decode cX6_bad 63 = .ok (.ifCond .le 7, 3) := by decide +kernel
theorem dX6_bad_66 : decode cX6_bad 66 = .ok (.iconst 1, 1) := by decide +kernel
theorem dX6_bad_67 : decode cX6_bad 67 = .ok (.goto 4, 3) := by decide +kernel
theorem dX6_bad_70 : decode cX6_bad 70 = .ok (.iconst 0, 1) := by decide +kernel
theorem dX6_bad_71 : decode cX6_bad 71 = .ok (.istore_n 3, 1) := by decide +kernel
theorem dX6_bad_72 : decode cX6_bad 72 = .ok (.iload_n 3, 1) := by decide +kernel
theorem dX6_bad_73 : decode cX6_bad 73 = .ok (.ifCond .eq 21, 3) := by decide +kernel
theorem dX6_bad_76 : decode cX6_bad 76 = .ok (.aload_n 0, 1) := by decide +kernel
theorem dX6_bad_77 : decode cX6_bad 77 = .ok (.iload_n 1, 1) := by decide +kernel
theorem dX6_bad_78 : decode cX6_bad 78 = .ok (.invokevirtual 186, 3) := by decide +kernel
theorem dX6_bad_81 : decode cX6_bad 81 = .ok (.ifCond .ne 13, 3) := by decide +kernel
theorem dX6_bad_84 : decode cX6_bad 84 = .ok (.aload_n 0, 1) := by decide +kernel
theorem dX6_bad_85 : decode cX6_bad 85 = .ok (.iload_n 1, 1) := by decide +kernel
theorem dX6_bad_86 : decode cX6_bad 86 = .ok (.invokevirtual 155, 3) := by decide +kernel
theorem dX6_bad_89 : decode cX6_bad 89 = .ok (.ifCond .ne 5, 3) := by decide +kernel
theorem dX6_bad_92 : decode cX6_bad 92 = .ok (.iload_n 1, 1) := by decide +kernel
theorem dX6_bad_93 : decode cX6_bad 93 = .ok (.ireturn, 1) := by decide +kernel
theorem dX6_bad_94 : decode cX6_bad 94 = .ok (.iinc 1 1, 3) := by decide +kernel
theorem dX6_bad_97 : decode cX6_bad 97 = .ok (.goto (-85), 3) := by decide +kernel
theorem dX6_bad_100 : decode cX6_bad 100 = .ok (.bipush (-2), 2) := by decide +kernel
theorem dX6_bad_102 : decode cX6_bad 102 = .ok (.ireturn, 1) := by decide +kernel
theorem dX6_queued_0 : decode cX6_queued 0 = .ok (.aload_n 0, 1) := by decide +kernel
theorem dX6_queued_1 : decode cX6_queued 1 = .ok (.getfield 105, 3) := by decide +kernel
theorem dX6_queued_4 : decode cX6_queued 4 = .ok (.ifCond .ne 6, 3) := by decide +kernel
theorem dX6_queued_7 : decode cX6_queued 7 = .ok (.bipush (-4), 2) := by decide +kernel
theorem dX6_queued_9 : decode cX6_queued 9 = .ok (.ireturn, 1) := by decide +kernel
theorem dX6_queued_10 : decode cX6_queued 10 = .ok (.iload_n 1, 1) := by decide +kernel
theorem dX6_queued_11 : decode cX6_queued 11 = .ok (.i2l, 1) := by decide +kernel
theorem dX6_queued_12 : decode cX6_queued 12 = .ok (.lconst 0, 1) := by decide +kernel
theorem dX6_queued_13 : decode cX6_queued 13 = .ok (.aload_n 0, 1) := by decide +kernel
theorem dX6_queued_14 : decode cX6_queued 14 = .ok (.getfield 58, 3) := by decide +kernel
theorem dX6_queued_17 : decode cX6_queued 17 = .ok (.iconst 1, 1) := by decide +kernel
theorem dX6_queued_18 : decode cX6_queued 18 = .ok (.isub, 1) := by decide +kernel
theorem dX6_queued_19 : decode cX6_queued 19 = .ok (.i2l, 1) := by decide +kernel
theorem dX6_queued_20 : decode cX6_queued 20 = .ok (.invokestatic 95, 3) := by decide +kernel
theorem dX6_queued_23 : decode cX6_queued 23 = .ok (.ifCond .eq 12, 3) := by decide +kernel
theorem dX6_queued_26 : decode cX6_queued 26 = .ok (.aload_n 0, 1) := by decide +kernel
theorem dX6_queued_27 : decode cX6_queued 27 = .ok (.getfield 13, 3) := by decide +kernel
theorem dX6_queued_30 : decode cX6_queued 30 = .ok (.iload_n 1, 1) := by decide +kernel
theorem dX6_queued_31 : decode cX6_queued 31 = .ok (.iaload, 1) := by decide +kernel
theorem dX6_queued_32 : decode cX6_queued 32 = .ok (.goto 5, 3) := by decide +kernel
theorem dX6_queued_35 : decode cX6_queued 35 = .ok (.bipush (-2), 2) := by decide +kernel
theorem dX6_queued_37 : decode cX6_queued 37 = .ok (.ireturn, 1) := by decide +kernel
theorem dX6_count_0 : decode cX6_count 0 = .ok (.iload_n 1, 1) := by decide +kernel
theorem dX6_count_1 : decode cX6_count 1 = .ok (.i2l, 1) := by decide +kernel
theorem dX6_count_2 : decode cX6_count 2 = .ok (.lconst 0, 1) := by decide +kernel
theorem dX6_count_3 : decode cX6_count 3 = .ok (.ldc2_w 193, 3) := by decide +kernel
theorem dX6_count_6 : decode cX6_count 6 = .ok (.invokestatic 95, 3) := by decide +kernel
theorem dX6_count_9 : decode cX6_count 9 = .ok (.ifCond .ne 5, 3) := by decide +kernel
theorem dX6_count_12 : decode cX6_count 12 = .ok (.iconst (-1), 1) := by decide +kernel
theorem dX6_count_13 : decode cX6_count 13 = .ok (.ireturn, 1) := by decide +kernel
theorem dX6_count_14 : decode cX6_count 14 = .ok (.iload_n 1, 1) := by decide +kernel
theorem dX6_count_15 : decode cX6_count 15 = .ok (.ifCond .ne 8, 3) := by decide +kernel
theorem dX6_count_18 : decode cX6_count 18 = .ok (.aload_n 0, 1) := by decide +kernel
theorem dX6_count_19 : decode cX6_count 19 = .ok (.getfield 99, 3) := by decide +kernel
theorem dX6_count_22 : decode cX6_count 22 = .ok (.ireturn, 1) := by decide +kernel
theorem dX6_count_23 : decode cX6_count 23 = .ok (.iload_n 1, 1) := by decide +kernel
theorem dX6_count_24 : decode cX6_count 24 = .ok (.bipush 9, 2) := by decide +kernel
theorem dX6_count_26 : decode cX6_count 26 = .ok (.if_icmp .ne 16, 3) := by decide +kernel
theorem dX6_count_29 : decode cX6_count 29 = .ok (.aload_n 0, 1) := by decide +kernel
theorem dX6_count_30 : decode cX6_count 30 = .ok (.getfield 105, 3) := by decide +kernel
theorem dX6_count_33 : decode cX6_count 33 = .ok (.ifCond .eq 7, 3) := by decide +kernel
theorem dX6_count_36 : decode cX6_count 36 = .ok (.iconst 1, 1) := by decide +kernel
theorem dX6_count_37 : decode cX6_count 37 = .ok (.goto 4, 3) := by decide +kernel
theorem dX6_count_40 : decode cX6_count 40 = .ok (.iconst 0, 1) := by decide +kernel
theorem dX6_count_41 : decode cX6_count 41 = .ok (.ireturn, 1) := by decide +kernel
theorem dX6_count_42 : decode cX6_count 42 = .ok (.aload_n 0, 1) := by decide +kernel
theorem dX6_count_43 : decode cX6_count 43 = .ok (.getfield 105, 3) := by decide +kernel
theorem dX6_count_46 : decode cX6_count 46 = .ok (.ifCond .ne 5, 3) := by decide +kernel
theorem dX6_count_49 : decode cX6_count 49 = .ok (.iconst 0, 1) := by decide +kernel
theorem dX6_count_50 : decode cX6_count 50 = .ok (.ireturn, 1) := by decide +kernel
theorem dX6_count_51 : decode cX6_count 51 = .ok (.iload_n 1, 1) := by decide +kernel
theorem dX6_count_52 : decode cX6_count 52 = .ok (.tableswitch 121 1 8 #[48, 84, 89, 94, 99, 104, 109, 115], 48) := by decide +kernel
theorem dX6_count_100 : decode cX6_count 100 = .ok (.iconst 0, 1) := by decide +kernel
theorem dX6_count_101 : decode cX6_count 101 = .ok (.istore_n 2, 1) := by decide +kernel
theorem dX6_count_102 : decode cX6_count 102 = .ok (.iconst 2, 1) := by decide +kernel
theorem dX6_count_103 : decode cX6_count 103 = .ok (.istore_n 3, 1) := by decide +kernel
theorem dX6_count_104 : decode cX6_count 104 = .ok (.iload_n 3, 1) := by decide +kernel
theorem dX6_count_105 : decode cX6_count 105 = .ok (.aload_n 0, 1) := by decide +kernel
theorem dX6_count_106 : decode cX6_count 106 = .ok (.getfield 99, 3) := by decide +kernel
theorem dX6_count_109 : decode cX6_count 109 = .ok (.if_icmp .ge 25, 3) := by decide +kernel
theorem dX6_count_112 : decode cX6_count 112 = .ok (.iload_n 2, 1) := by decide +kernel
theorem dX6_count_113 : decode cX6_count 113 = .ok (.aload_n 0, 1) := by decide +kernel
theorem dX6_count_114 : decode cX6_count 114 = .ok (.iload_n 3, 1) := by decide +kernel
theorem dX6_count_115 : decode cX6_count 115 = .ok (.invokevirtual 113, 3) := by decide +kernel
theorem dX6_count_118 : decode cX6_count 118 = .ok (.ifCond .ne 7, 3) := by decide +kernel
theorem dX6_count_121 : decode cX6_count 121 = .ok (.iconst 1, 1) := by decide +kernel
theorem dX6_count_122 : decode cX6_count 122 = .ok (.goto 4, 3) := by decide +kernel
theorem dX6_count_125 : decode cX6_count 125 = .ok (.iconst 0, 1) := by decide +kernel
theorem dX6_count_126 : decode cX6_count 126 = .ok (.iadd, 1) := by decide +kernel
theorem dX6_count_127 : decode cX6_count 127 = .ok (.istore_n 2, 1) := by decide +kernel
theorem dX6_count_128 : decode cX6_count 128 = .ok (.iinc 3 1, 3) := by decide +kernel
theorem dX6_count_131 : decode cX6_count 131 = .ok (.goto (-27), 3) := by decide +kernel
theorem dX6_count_134 : decode cX6_count 134 = .ok (.iload_n 2, 1) := by decide +kernel
theorem dX6_count_135 : decode cX6_count 135 = .ok (.ireturn, 1) := by decide +kernel
theorem dX6_count_136 : decode cX6_count 136 = .ok (.aload_n 0, 1) := by decide +kernel
theorem dX6_count_137 : decode cX6_count 137 = .ok (.getfield 74, 3) := by decide +kernel
theorem dX6_count_140 : decode cX6_count 140 = .ok (.ireturn, 1) := by decide +kernel
theorem dX6_count_141 : decode cX6_count 141 = .ok (.aload_n 0, 1) := by decide +kernel
theorem dX6_count_142 : decode cX6_count 142 = .ok (.getfield 71, 3) := by decide +kernel
theorem dX6_count_145 : decode cX6_count 145 = .ok (.ireturn, 1) := by decide +kernel
theorem dX6_count_146 : decode cX6_count 146 = .ok (.aload_n 0, 1) := by decide +kernel
theorem dX6_count_147 : decode cX6_count 147 = .ok (.getfield 80, 3) := by decide +kernel
theorem dX6_count_150 : decode cX6_count 150 = .ok (.ireturn, 1) := by decide +kernel
theorem dX6_count_151 : decode cX6_count 151 = .ok (.aload_n 0, 1) := by decide +kernel
theorem dX6_count_152 : decode cX6_count 152 = .ok (.getfield 77, 3) := by decide +kernel
theorem dX6_count_155 : decode cX6_count 155 = .ok (.ireturn, 1) := by decide +kernel
theorem dX6_count_156 : decode cX6_count 156 = .ok (.aload_n 0, 1) := by decide +kernel
theorem dX6_count_157 : decode cX6_count 157 = .ok (.getfield 58, 3) := by decide +kernel
theorem dX6_count_160 : decode cX6_count 160 = .ok (.ireturn, 1) := by decide +kernel
theorem dX6_count_161 : decode cX6_count 161 = .ok (.aload_n 0, 1) := by decide +kernel
theorem dX6_count_162 : decode cX6_count 162 = .ok (.getfield 83, 3) := by decide +kernel
theorem dX6_count_165 : decode cX6_count 165 = .ok (.l2i, 1) := by decide +kernel
theorem dX6_count_166 : decode cX6_count 166 = .ok (.ireturn, 1) := by decide +kernel
theorem dX6_count_167 : decode cX6_count 167 = .ok (.aload_n 0, 1) := by decide +kernel
theorem dX6_count_168 : decode cX6_count 168 = .ok (.getfield 87, 3) := by decide +kernel
theorem dX6_count_171 : decode cX6_count 171 = .ok (.l2i, 1) := by decide +kernel
theorem dX6_count_172 : decode cX6_count 172 = .ok (.ireturn, 1) := by decide +kernel
theorem dX6_count_173 : decode cX6_count 173 = .ok (.aload_n 0, 1) := by decide +kernel
theorem dX6_count_174 : decode cX6_count 174 = .ok (.getfield 90, 3) := by decide +kernel
theorem dX6_count_177 : decode cX6_count 177 = .ok (.ireturn, 1) := by decide +kernel
