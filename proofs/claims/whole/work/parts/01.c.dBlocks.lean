theorem dX0_init_0 : decode cX0_init 0 = .ok (.aload_n 0, 1) := by decide +kernel
theorem dX0_init_1 : decode cX0_init 1 = .ok (.invokespecial 3, 3) := by decide +kernel
theorem dX0_init_4 : decode cX0_init 4 = .ok (.aload_n 0, 1) := by decide +kernel
theorem dX0_init_5 : decode cX0_init 5 = .ok (.sipush 4096, 3) := by decide +kernel
theorem dX0_init_8 : decode cX0_init 8 = .ok (.newarray .byte, 2) := by decide +kernel
theorem dX0_init_10 : decode cX0_init 10 = .ok (.putfield 9, 3) := by decide +kernel
theorem dX0_init_13 : decode cX0_init 13 = .ok (.aload_n 0, 1) := by decide +kernel
theorem dX0_init_14 : decode cX0_init 14 = .ok (.iload_n 1, 1) := by decide +kernel
theorem dX0_init_15 : decode cX0_init 15 = .ok (.putfield 15, 3) := by decide +kernel
theorem dX0_init_18 : decode cX0_init 18 = .ok (.return_, 1) := by decide +kernel
theorem dX0_renew_0 : decode cX0_renew 0 = .ok (.aload_n 0, 1) := by decide +kernel
theorem dX0_renew_1 : decode cX0_renew 1 = .ok (.iload_n 1, 1) := by decide +kernel
theorem dX0_renew_2 : decode cX0_renew 2 = .ok (.putfield 15, 3) := by decide +kernel
theorem dX0_renew_5 : decode cX0_renew 5 = .ok (.iconst 0, 1) := by decide +kernel
theorem dX0_renew_6 : decode cX0_renew 6 = .ok (.istore_n 2, 1) := by decide +kernel
theorem dX0_renew_7 : decode cX0_renew 7 = .ok (.iload_n 2, 1) := by decide +kernel
theorem dX0_renew_8 : decode cX0_renew 8 = .ok (.aload_n 0, 1) := by decide +kernel
theorem dX0_renew_9 : decode cX0_renew 9 = .ok (.getfield 15, 3) := by decide +kernel
theorem dX0_renew_12 : decode cX0_renew 12 = .ok (.if_icmp .ge 14, 3) := by decide +kernel
theorem dX0_renew_15 : decode cX0_renew 15 = .ok (.aload_n 0, 1) := by decide +kernel
theorem dX0_renew_16 : decode cX0_renew 16 = .ok (.iload_n 2, 1) := by decide +kernel
theorem dX0_renew_17 : decode cX0_renew 17 = .ok (.invokevirtual 19, 3) := by decide +kernel
theorem dX0_renew_20 : decode cX0_renew 20 = .ok (.iinc 2 1, 3) := by decide +kernel
theorem dX0_renew_23 : decode cX0_renew 23 = .ok (.goto (-16), 3) := by decide +kernel
theorem dX0_renew_26 : decode cX0_renew 26 = .ok (.return_, 1) := by decide +kernel
theorem dX0_has_0 : decode cX0_has 0 = .ok (.iload_n 1, 1) := by decide +kernel
theorem dX0_has_1 : decode cX0_has 1 = .ok (.ifCond .lt 31, 3) := by decide +kernel
theorem dX0_has_4 : decode cX0_has 4 = .ok (.iload_n 1, 1) := by decide +kernel
theorem dX0_has_5 : decode cX0_has 5 = .ok (.aload_n 0, 1) := by decide +kernel
theorem dX0_has_6 : decode cX0_has 6 = .ok (.getfield 15, 3) := by decide +kernel
theorem dX0_has_9 : decode cX0_has 9 = .ok (.if_icmp .ge 23, 3) := by decide +kernel
theorem dX0_has_12 : decode cX0_has 12 = .ok (.iload_n 1, 1) := by decide +kernel
theorem dX0_has_13 : decode cX0_has 13 = .ok (.bipush 64, 2) := by decide +kernel
theorem dX0_has_15 : decode cX0_has 15 = .ok (.if_icmp .ge 17, 3) := by decide +kernel
theorem dX0_has_18 : decode cX0_has 18 = .ok (.iload_n 2, 1) := by decide +kernel
theorem dX0_has_19 : decode cX0_has 19 = .ok (.ifCond .lt 13, 3) := by decide +kernel
theorem dX0_has_22 : decode cX0_has 22 = .ok (.iload_n 2, 1) := by decide +kernel
theorem dX0_has_23 : decode cX0_has 23 = .ok (.bipush 64, 2) := by decide +kernel
theorem dX0_has_25 : decode cX0_has 25 = .ok (.if_icmp .ge 7, 3) := by decide +kernel
theorem dX0_has_28 : decode cX0_has 28 = .ok (.iconst 1, 1) := by decide +kernel
theorem dX0_has_29 : decode cX0_has 29 = .ok (.goto 4, 3) := by decide +kernel
theorem dX0_has_32 : decode cX0_has 32 = .ok (.iconst 0, 1) := by decide +kernel
theorem dX0_has_33 : decode cX0_has 33 = .ok (.ireturn, 1) := by decide +kernel
theorem dX0_value_0 : decode cX0_value 0 = .ok (.aload_n 0, 1) := by decide +kernel
theorem dX0_value_1 : decode cX0_value 1 = .ok (.iload_n 1, 1) := by decide +kernel
theorem dX0_value_2 : decode cX0_value 2 = .ok (.iload_n 2, 1) := by decide +kernel
theorem dX0_value_3 : decode cX0_value 3 = .ok (.invokevirtual 23, 3) := by decide +kernel
theorem dX0_value_6 : decode cX0_value 6 = .ok (.ifCond .eq 21, 3) := by decide +kernel
theorem dX0_value_9 : decode cX0_value 9 = .ok (.aload_n 0, 1) := by decide +kernel
theorem dX0_value_10 : decode cX0_value 10 = .ok (.getfield 9, 3) := by decide +kernel
theorem dX0_value_13 : decode cX0_value 13 = .ok (.iload_n 1, 1) := by decide +kernel
theorem dX0_value_14 : decode cX0_value 14 = .ok (.bipush 64, 2) := by decide +kernel
theorem dX0_value_16 : decode cX0_value 16 = .ok (.imul, 1) := by decide +kernel
theorem dX0_value_17 : decode cX0_value 17 = .ok (.iload_n 2, 1) := by decide +kernel
theorem dX0_value_18 : decode cX0_value 18 = .ok (.iadd, 1) := by decide +kernel
theorem dX0_value_19 : decode cX0_value 19 = .ok (.baload, 1) := by decide +kernel
theorem dX0_value_20 : decode cX0_value 20 = .ok (.sipush 255, 3) := by decide +kernel
theorem dX0_value_23 : decode cX0_value 23 = .ok (.iand, 1) := by decide +kernel
theorem dX0_value_24 : decode cX0_value 24 = .ok (.goto 4, 3) := by decide +kernel
theorem dX0_value_27 : decode cX0_value 27 = .ok (.iconst 0, 1) := by decide +kernel
theorem dX0_value_28 : decode cX0_value 28 = .ok (.ireturn, 1) := by decide +kernel
theorem dX0_put_0 : decode cX0_put 0 = .ok (.aload_n 0, 1) := by decide +kernel
theorem dX0_put_1 : decode cX0_put 1 = .ok (.iload_n 1, 1) := by decide +kernel
theorem dX0_put_2 : decode cX0_put 2 = .ok (.iload_n 2, 1) := by decide +kernel
theorem dX0_put_3 : decode cX0_put 3 = .ok (.invokevirtual 23, 3) := by decide +kernel
theorem dX0_put_6 : decode cX0_put 6 = .ok (.ifCond .eq 16, 3) := by decide +kernel
theorem dX0_put_9 : decode cX0_put 9 = .ok (.aload_n 0, 1) := by decide +kernel
theorem dX0_put_10 : decode cX0_put 10 = .ok (.getfield 9, 3) := by decide +kernel
theorem dX0_put_13 : decode cX0_put 13 = .ok (.iload_n 1, 1) := by decide +kernel
theorem dX0_put_14 : decode cX0_put 14 = .ok (.bipush 64, 2) := by decide +kernel
theorem dX0_put_16 : decode cX0_put 16 = .ok (.imul, 1) := by decide +kernel
theorem dX0_put_17 : decode cX0_put 17 = .ok (.iload_n 2, 1) := by decide +kernel
theorem dX0_put_18 : decode cX0_put 18 = .ok (.iadd, 1) := by decide +kernel
theorem dX0_put_19 : decode cX0_put 19 = .ok (.iload_n 3, 1) := by decide +kernel
theorem dX0_put_20 : decode cX0_put 20 = .ok (.i2b, 1) := by decide +kernel
theorem dX0_put_21 : decode cX0_put 21 = .ok (.bastore, 1) := by decide +kernel
theorem dX0_put_22 : decode cX0_put 22 = .ok (.return_, 1) := by decide +kernel
theorem dX0_number_0 : decode cX0_number 0 = .ok (.lconst 0, 1) := by decide +kernel
theorem dX0_number_1 : decode cX0_number 1 = .ok (.lstore 4, 2) := by decide +kernel
theorem dX0_number_3 : decode cX0_number 3 = .ok (.iload_n 3, 1) := by decide +kernel
theorem dX0_number_4 : decode cX0_number 4 = .ok (.iconst 1, 1) := by decide +kernel
theorem dX0_number_5 : decode cX0_number 5 = .ok (.isub, 1) := by decide +kernel
theorem dX0_number_6 : decode cX0_number 6 = .ok (.istore 6, 2) := by decide +kernel
theorem dX0_number_8 : decode cX0_number 8 = .ok (.iload 6, 2) := by decide +kernel
theorem dX0_number_10 : decode cX0_number 10 = .ok (.ifCond .lt 27, 3) := by decide +kernel
theorem dX0_number_13 : decode cX0_number 13 = .ok (.lload 4, 2) := by decide +kernel
theorem dX0_number_15 : decode cX0_number 15 = .ok (.bipush 8, 2) := by decide +kernel
theorem dX0_number_17 : decode cX0_number 17 = .ok (.lshl, 1) := by decide +kernel
theorem dX0_number_18 : decode cX0_number 18 = .ok (.aload_n 0, 1) := by decide +kernel
theorem dX0_number_19 : decode cX0_number 19 = .ok (.iload_n 1, 1) := by decide +kernel
theorem dX0_number_20 : decode cX0_number 20 = .ok (.iload_n 2, 1) := by decide +kernel
theorem dX0_number_21 : decode cX0_number 21 = .ok (.iload 6, 2) := by decide +kernel
theorem dX0_number_23 : decode cX0_number 23 = .ok (.iadd, 1) := by decide +kernel
theorem dX0_number_24 : decode cX0_number 24 = .ok (.invokevirtual 27, 3) := by decide +kernel
theorem dX0_number_27 : decode cX0_number 27 = .ok (.i2l, 1) := by decide +kernel
theorem dX0_number_28 : decode cX0_number 28 = .ok (.lor, 1) := by decide +kernel
theorem dX0_number_29 : decode cX0_number 29 = .ok (.lstore 4, 2) := by decide +kernel
theorem dX0_number_31 : decode cX0_number 31 = .ok (.iinc 6 (-1), 3) := by decide +kernel
theorem dX0_number_34 : decode cX0_number 34 = .ok (.goto (-26), 3) := by decide +kernel
theorem dX0_number_37 : decode cX0_number 37 = .ok (.lload 4, 2) := by decide +kernel
theorem dX0_number_39 : decode cX0_number 39 = .ok (.lreturn, 1) := by decide +kernel
theorem dX0_putNumber_0 : decode cX0_putNumber 0 = .ok (.lload 4, 2) := by decide +kernel
theorem dX0_putNumber_2 : decode cX0_putNumber 2 = .ok (.lstore 6, 2) := by decide +kernel
theorem dX0_putNumber_4 : decode cX0_putNumber 4 = .ok (.iconst 0, 1) := by decide +kernel
theorem dX0_putNumber_5 : decode cX0_putNumber 5 = .ok (.istore 8, 2) := by decide +kernel
theorem dX0_putNumber_7 : decode cX0_putNumber 7 = .ok (.iload 8, 2) := by decide +kernel
theorem dX0_putNumber_9 : decode cX0_putNumber 9 = .ok (.iload_n 3, 1) := by decide +kernel
theorem dX0_putNumber_10 : decode cX0_putNumber 10 = .ok (.if_icmp .ge 32, 3) := by decide +kernel
theorem dX0_putNumber_13 : decode cX0_putNumber 13 = .ok (.aload_n 0, 1) := by decide +kernel
theorem dX0_putNumber_14 : decode cX0_putNumber 14 = .ok (.iload_n 1, 1) := by decide +kernel
theorem dX0_putNumber_15 : decode cX0_putNumber 15 = .ok (.iload_n 2, 1) := by decide +kernel
theorem dX0_putNumber_16 : decode cX0_putNumber 16 = .ok (.iload 8, 2) := by decide +kernel
theorem dX0_putNumber_18 : decode cX0_putNumber 18 = .ok (.iadd, 1) := by decide +kernel
theorem dX0_putNumber_19 : decode cX0_putNumber 19 = .ok (.lload 6, 2) := by decide +kernel
theorem dX0_putNumber_21 : decode cX0_putNumber 21 = .ok (.ldc2_w 31, 3) := by decide +kernel
theorem dX0_putNumber_24 : decode cX0_putNumber 24 = .ok (.land, 1) := by decide +kernel
theorem dX0_putNumber_25 : decode cX0_putNumber 25 = .ok (.l2i, 1) := by decide +kernel
theorem dX0_putNumber_26 : decode cX0_putNumber 26 = .ok (.invokevirtual 33, 3) := by decide +kernel
theorem dX0_putNumber_29 : decode cX0_putNumber 29 = .ok (.lload 6, 2) := by decide +kernel
theorem dX0_putNumber_31 : decode cX0_putNumber 31 = .ok (.bipush 8, 2) := by decide +kernel
theorem dX0_putNumber_33 : decode cX0_putNumber 33 = .ok (.lushr, 1) := by decide +kernel
theorem dX0_putNumber_34 : decode cX0_putNumber 34 = .ok (.lstore 6, 2) := by decide +kernel
theorem dX0_putNumber_36 : decode cX0_putNumber 36 = .ok (.iinc 8 1, 3) := by decide +kernel
theorem dX0_putNumber_39 : decode cX0_putNumber 39 = .ok (.goto (-32), 3) := by decide +kernel
theorem dX0_putNumber_42 : decode cX0_putNumber 42 = .ok (.return_, 1) := by decide +kernel
theorem dX0_wipe_0 : decode cX0_wipe 0 = .ok (.iconst 0, 1) := by decide +kernel
theorem dX0_wipe_1 : decode cX0_wipe 1 = .ok (.istore_n 2, 1) := by decide +kernel
theorem dX0_wipe_2 : decode cX0_wipe 2 = .ok (.iload_n 2, 1) := by decide +kernel
theorem dX0_wipe_3 : decode cX0_wipe 3 = .ok (.bipush 64, 2) := by decide +kernel
theorem dX0_wipe_5 : decode cX0_wipe 5 = .ok (.if_icmp .ge 16, 3) := by decide +kernel
theorem dX0_wipe_8 : decode cX0_wipe 8 = .ok (.aload_n 0, 1) := by decide +kernel
theorem dX0_wipe_9 : decode cX0_wipe 9 = .ok (.iload_n 1, 1) := by decide +kernel
theorem dX0_wipe_10 : decode cX0_wipe 10 = .ok (.iload_n 2, 1) := by decide +kernel
theorem dX0_wipe_11 : decode cX0_wipe 11 = .ok (.iconst 0, 1) := by decide +kernel
theorem dX0_wipe_12 : decode cX0_wipe 12 = .ok (.invokevirtual 33, 3) := by decide +kernel
theorem dX0_wipe_15 : decode cX0_wipe 15 = .ok (.iinc 2 1, 3) := by decide +kernel
theorem dX0_wipe_18 : decode cX0_wipe 18 = .ok (.goto (-16), 3) := by decide +kernel
theorem dX0_wipe_21 : decode cX0_wipe 21 = .ok (.return_, 1) := by decide +kernel
theorem dX0_sum_0 : decode cX0_sum 0 = .ok (.iload_n 2, 1) := by decide +kernel
theorem dX0_sum_1 : decode cX0_sum 1 = .ok (.i2l, 1) := by decide +kernel
theorem dX0_sum_2 : decode cX0_sum 2 = .ok (.lstore_n 3, 1) := by decide +kernel
theorem dX0_sum_3 : decode cX0_sum 3 = .ok (.iconst 0, 1) := by decide +kernel
theorem dX0_sum_4 : decode cX0_sum 4 = .ok (.istore 5, 2) := by decide +kernel
theorem dX0_sum_6 : decode cX0_sum 6 = .ok (.iload 5, 2) := by decide +kernel
theorem dX0_sum_8 : decode cX0_sum 8 = .ok (.bipush 56, 2) := by decide +kernel
theorem dX0_sum_10 : decode cX0_sum 10 = .ok (.if_icmp .ge 37, 3) := by decide +kernel
theorem dX0_sum_13 : decode cX0_sum 13 = .ok (.lload_n 3, 1) := by decide +kernel
theorem dX0_sum_14 : decode cX0_sum 14 = .ok (.aload_n 0, 1) := by decide +kernel
theorem dX0_sum_15 : decode cX0_sum 15 = .ok (.iload_n 1, 1) := by decide +kernel
theorem dX0_sum_16 : decode cX0_sum 16 = .ok (.iload 5, 2) := by decide +kernel
theorem dX0_sum_18 : decode cX0_sum 18 = .ok (.invokevirtual 27, 3) := by decide +kernel
theorem dX0_sum_21 : decode cX0_sum 21 = .ok (.i2l, 1) := by decide +kernel
theorem dX0_sum_22 : decode cX0_sum 22 = .ok (.lxor, 1) := by decide +kernel
theorem dX0_sum_23 : decode cX0_sum 23 = .ok (.lstore 6, 2) := by decide +kernel
theorem dX0_sum_25 : decode cX0_sum 25 = .ok (.lload 6, 2) := by decide +kernel
theorem dX0_sum_27 : decode cX0_sum 27 = .ok (.bipush 11, 2) := by decide +kernel
theorem dX0_sum_29 : decode cX0_sum 29 = .ok (.lshl, 1) := by decide +kernel
theorem dX0_sum_30 : decode cX0_sum 30 = .ok (.lload 6, 2) := by decide +kernel
theorem dX0_sum_32 : decode cX0_sum 32 = .ok (.bipush 53, 2) := by decide +kernel
theorem dX0_sum_34 : decode cX0_sum 34 = .ok (.lushr, 1) := by decide +kernel
theorem dX0_sum_35 : decode cX0_sum 35 = .ok (.lor, 1) := by decide +kernel
theorem dX0_sum_36 : decode cX0_sum 36 = .ok (.ldc2_w 37, 3) := by decide +kernel
theorem dX0_sum_39 : decode cX0_sum 39 = .ok (.lmul, 1) := by decide +kernel
theorem dX0_sum_40 : decode cX0_sum 40 = .ok (.lstore_n 3, 1) := by decide +kernel
theorem dX0_sum_41 : decode cX0_sum 41 = .ok (.iinc 5 1, 3) := by decide +kernel
theorem dX0_sum_44 : decode cX0_sum 44 = .ok (.goto (-38), 3) := by decide +kernel
theorem dX0_sum_47 : decode cX0_sum 47 = .ok (.lload_n 3, 1) := by decide +kernel
theorem dX0_sum_48 : decode cX0_sum 48 = .ok (.lreturn, 1) := by decide +kernel
theorem dX0_isWhole_0 : decode cX0_isWhole 0 = .ok (.aload_n 0, 1) := by decide +kernel
theorem dX0_isWhole_1 : decode cX0_isWhole 1 = .ok (.iload_n 1, 1) := by decide +kernel
theorem dX0_isWhole_2 : decode cX0_isWhole 2 = .ok (.bipush 56, 2) := by decide +kernel
theorem dX0_isWhole_4 : decode cX0_isWhole 4 = .ok (.bipush 8, 2) := by decide +kernel
theorem dX0_isWhole_6 : decode cX0_isWhole 6 = .ok (.invokevirtual 39, 3) := by decide +kernel
theorem dX0_isWhole_9 : decode cX0_isWhole 9 = .ok (.aload_n 0, 1) := by decide +kernel
theorem dX0_isWhole_10 : decode cX0_isWhole 10 = .ok (.iload_n 1, 1) := by decide +kernel
theorem dX0_isWhole_11 : decode cX0_isWhole 11 = .ok (.iload_n 1, 1) := by decide +kernel
theorem dX0_isWhole_12 : decode cX0_isWhole 12 = .ok (.invokevirtual 43, 3) := by decide +kernel
theorem dX0_isWhole_15 : decode cX0_isWhole 15 = .ok (.lcmp, 1) := by decide +kernel
theorem dX0_isWhole_16 : decode cX0_isWhole 16 = .ok (.ifCond .ne 7, 3) := by decide +kernel
theorem dX0_isWhole_19 : decode cX0_isWhole 19 = .ok (.iconst 1, 1) := by decide +kernel
theorem dX0_isWhole_20 : decode cX0_isWhole 20 = .ok (.goto 4, 3) := by decide +kernel
theorem dX0_isWhole_23 : decode cX0_isWhole 23 = .ok (.iconst 0, 1) := by decide +kernel
theorem dX0_isWhole_24 : decode cX0_isWhole 24 = .ok (.ireturn, 1) := by decide +kernel
