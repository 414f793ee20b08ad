theorem dX4_init_0 : decode cX4_init 0 = .ok (.aload_n 0, 1) := by decide +kernel
theorem dX4_init_1 : decode cX4_init 1 = .ok (.invokespecial 1, 3) := by decide +kernel
theorem dX4_init_4 : decode cX4_init 4 = .ok (.aload_n 0, 1) := by decide +kernel
theorem dX4_init_5 : decode cX4_init 5 = .ok (.bipush 8, 2) := by decide +kernel
theorem dX4_init_7 : decode cX4_init 7 = .ok (.newarray .int, 2) := by decide +kernel
theorem dX4_init_9 : decode cX4_init 9 = .ok (.putfield 7, 3) := by decide +kernel
theorem dX4_init_12 : decode cX4_init 12 = .ok (.aload_n 0, 1) := by decide +kernel
theorem dX4_init_13 : decode cX4_init 13 = .ok (.bipush 8, 2) := by decide +kernel
theorem dX4_init_15 : decode cX4_init 15 = .ok (.newarray .boolean, 2) := by decide +kernel
theorem dX4_init_17 : decode cX4_init 17 = .ok (.putfield 13, 3) := by decide +kernel
theorem dX4_init_20 : decode cX4_init 20 = .ok (.aload_n 0, 1) := by decide +kernel
theorem dX4_init_21 : decode cX4_init 21 = .ok (.bipush 8, 2) := by decide +kernel
theorem dX4_init_23 : decode cX4_init 23 = .ok (.newarray .long, 2) := by decide +kernel
theorem dX4_init_25 : decode cX4_init 25 = .ok (.putfield 17, 3) := by decide +kernel
theorem dX4_init_28 : decode cX4_init 28 = .ok (.aload_n 0, 1) := by decide +kernel
theorem dX4_init_29 : decode cX4_init 29 = .ok (.bipush 8, 2) := by decide +kernel
theorem dX4_init_31 : decode cX4_init 31 = .ok (.newarray .int, 2) := by decide +kernel
theorem dX4_init_33 : decode cX4_init 33 = .ok (.putfield 21, 3) := by decide +kernel
theorem dX4_init_36 : decode cX4_init 36 = .ok (.aload_n 0, 1) := by decide +kernel
theorem dX4_init_37 : decode cX4_init 37 = .ok (.sipush 900, 3) := by decide +kernel
theorem dX4_init_40 : decode cX4_init 40 = .ok (.newarray .int, 2) := by decide +kernel
theorem dX4_init_42 : decode cX4_init 42 = .ok (.putfield 24, 3) := by decide +kernel
theorem dX4_init_45 : decode cX4_init 45 = .ok (.aload_n 0, 1) := by decide +kernel
theorem dX4_init_46 : decode cX4_init 46 = .ok (.sipush 900, 3) := by decide +kernel
theorem dX4_init_49 : decode cX4_init 49 = .ok (.newarray .int, 2) := by decide +kernel
theorem dX4_init_51 : decode cX4_init 51 = .ok (.putfield 27, 3) := by decide +kernel
theorem dX4_init_54 : decode cX4_init 54 = .ok (.return_, 1) := by decide +kernel
theorem dX4_thrown_0 : decode cX4_thrown 0 = .ok (.aload_n 0, 1) := by decide +kernel
theorem dX4_thrown_1 : decode cX4_thrown 1 = .ok (.getfield 30, 3) := by decide +kernel
theorem dX4_thrown_4 : decode cX4_thrown 4 = .ok (.ireturn, 1) := by decide +kernel
theorem dX4_clear_0 : decode cX4_clear 0 = .ok (.iconst 0, 1) := by decide +kernel
theorem dX4_clear_1 : decode cX4_clear 1 = .ok (.istore_n 1, 1) := by decide +kernel
theorem dX4_clear_2 : decode cX4_clear 2 = .ok (.iload_n 1, 1) := by decide +kernel
theorem dX4_clear_3 : decode cX4_clear 3 = .ok (.sipush 900, 3) := by decide +kernel
theorem dX4_clear_6 : decode cX4_clear 6 = .ok (.if_icmp .ge 16, 3) := by decide +kernel
theorem dX4_clear_9 : decode cX4_clear 9 = .ok (.aload_n 0, 1) := by decide +kernel
theorem dX4_clear_10 : decode cX4_clear 10 = .ok (.getfield 24, 3) := by decide +kernel
theorem dX4_clear_13 : decode cX4_clear 13 = .ok (.iload_n 1, 1) := by decide +kernel
theorem dX4_clear_14 : decode cX4_clear 14 = .ok (.iconst 0, 1) := by decide +kernel
theorem dX4_clear_15 : decode cX4_clear 15 = .ok (.iastore, 1) := by decide +kernel
theorem dX4_clear_16 : decode cX4_clear 16 = .ok (.iinc 1 1, 3) := by decide +kernel
theorem dX4_clear_19 : decode cX4_clear 19 = .ok (.goto (-17), 3) := by decide +kernel
theorem dX4_clear_22 : decode cX4_clear 22 = .ok (.return_, 1) := by decide +kernel
theorem dX4_lay_0 : decode cX4_lay 0 = .ok (.aload_n 0, 1) := by decide +kernel
theorem dX4_lay_1 : decode cX4_lay 1 = .ok (.invokevirtual 34, 3) := by decide +kernel
theorem dX4_lay_4 : decode cX4_lay 4 = .ok (.lload_n 1, 1) := by decide +kernel
theorem dX4_lay_5 : decode cX4_lay 5 = .ok (.lstore 4, 2) := by decide +kernel
theorem dX4_lay_7 : decode cX4_lay 7 = .ok (.iload_n 3, 1) := by decide +kernel
theorem dX4_lay_8 : decode cX4_lay 8 = .ok (.istore 6, 2) := by decide +kernel
theorem dX4_lay_10 : decode cX4_lay 10 = .ok (.lload 4, 2) := by decide +kernel
theorem dX4_lay_12 : decode cX4_lay 12 = .ok (.lconst 0, 1) := by decide +kernel
theorem dX4_lay_13 : decode cX4_lay 13 = .ok (.lcmp, 1) := by decide +kernel
theorem dX4_lay_14 : decode cX4_lay 14 = .ok (.ifCond .le 31, 3) := by decide +kernel
theorem dX4_lay_17 : decode cX4_lay 17 = .ok (.aload_n 0, 1) := by decide +kernel
theorem dX4_lay_18 : decode cX4_lay 18 = .ok (.getfield 24, 3) := by decide +kernel
theorem dX4_lay_21 : decode cX4_lay 21 = .ok (.iload 6, 2) := by decide +kernel
theorem dX4_lay_23 : decode cX4_lay 23 = .ok (.lload 4, 2) := by decide +kernel
theorem dX4_lay_25 : decode cX4_lay 25 = .ok (.ldc2_w 37, 3) := by decide +kernel
theorem dX4_lay_28 : decode cX4_lay 28 = .ok (.lrem, 1) := by decide +kernel
theorem dX4_lay_29 : decode cX4_lay 29 = .ok (.l2i, 1) := by decide +kernel
theorem dX4_lay_30 : decode cX4_lay 30 = .ok (.iastore, 1) := by decide +kernel
theorem dX4_lay_31 : decode cX4_lay 31 = .ok (.lload 4, 2) := by decide +kernel
theorem dX4_lay_33 : decode cX4_lay 33 = .ok (.ldc2_w 37, 3) := by decide +kernel
theorem dX4_lay_36 : decode cX4_lay 36 = .ok (.ldiv, 1) := by decide +kernel
theorem dX4_lay_37 : decode cX4_lay 37 = .ok (.lstore 4, 2) := by decide +kernel
theorem dX4_lay_39 : decode cX4_lay 39 = .ok (.iinc 6 1, 3) := by decide +kernel
theorem dX4_lay_42 : decode cX4_lay 42 = .ok (.goto (-32), 3) := by decide +kernel
theorem dX4_lay_45 : decode cX4_lay 45 = .ok (.return_, 1) := by decide +kernel
theorem dX4_layOther_0 : decode cX4_layOther 0 = .ok (.iconst 0, 1) := by decide +kernel
theorem dX4_layOther_1 : decode cX4_layOther 1 = .ok (.istore 4, 2) := by decide +kernel
theorem dX4_layOther_3 : decode cX4_layOther 3 = .ok (.iload 4, 2) := by decide +kernel
theorem dX4_layOther_5 : decode cX4_layOther 5 = .ok (.sipush 900, 3) := by decide +kernel
theorem dX4_layOther_8 : decode cX4_layOther 8 = .ok (.if_icmp .ge 17, 3) := by decide +kernel
theorem dX4_layOther_11 : decode cX4_layOther 11 = .ok (.aload_n 0, 1) := by decide +kernel
theorem dX4_layOther_12 : decode cX4_layOther 12 = .ok (.getfield 27, 3) := by decide +kernel
theorem dX4_layOther_15 : decode cX4_layOther 15 = .ok (.iload 4, 2) := by decide +kernel
theorem dX4_layOther_17 : decode cX4_layOther 17 = .ok (.iconst 0, 1) := by decide +kernel
theorem dX4_layOther_18 : decode cX4_layOther 18 = .ok (.iastore, 1) := by decide +kernel
theorem dX4_layOther_19 : decode cX4_layOther 19 = .ok (.iinc 4 1, 3) := by decide +kernel
theorem dX4_layOther_22 : decode cX4_layOther 22 = .ok (.goto (-19), 3) := by decide +kernel
theorem dX4_layOther_25 : decode cX4_layOther 25 = .ok (.lload_n 1, 1) := by decide +kernel
theorem dX4_layOther_26 : decode cX4_layOther 26 = .ok (.lstore 4, 2) := by decide +kernel
theorem dX4_layOther_28 : decode cX4_layOther 28 = .ok (.iload_n 3, 1) := by decide +kernel
theorem dX4_layOther_29 : decode cX4_layOther 29 = .ok (.istore 6, 2) := by decide +kernel
theorem dX4_layOther_31 : decode cX4_layOther 31 = .ok (.lload 4, 2) := by decide +kernel
theorem dX4_layOther_33 : decode cX4_layOther 33 = .ok (.lconst 0, 1) := by decide +kernel
theorem dX4_layOther_34 : decode cX4_layOther 34 = .ok (.lcmp, 1) := by decide +kernel
theorem dX4_layOther_35 : decode cX4_layOther 35 = .ok (.ifCond .le 31, 3) := by decide +kernel
theorem dX4_layOther_38 : decode cX4_layOther 38 = .ok (.aload_n 0, 1) := by decide +kernel
theorem dX4_layOther_39 : decode cX4_layOther 39 = .ok (.getfield 27, 3) := by decide +kernel
theorem dX4_layOther_42 : decode cX4_layOther 42 = .ok (.iload 6, 2) := by decide +kernel
theorem dX4_layOther_44 : decode cX4_layOther 44 = .ok (.lload 4, 2) := by decide +kernel
theorem dX4_layOther_46 : decode cX4_layOther 46 = .ok (.ldc2_w 37, 3) := by decide +kernel
theorem dX4_layOther_49 : decode cX4_layOther 49 = .ok (.lrem, 1) := by decide +kernel
theorem dX4_layOther_50 : decode cX4_layOther 50 = .ok (.l2i, 1) := by decide +kernel
theorem dX4_layOther_51 : decode cX4_layOther 51 = .ok (.iastore, 1) := by decide +kernel
theorem dX4_layOther_52 : decode cX4_layOther 52 = .ok (.lload 4, 2) := by decide +kernel
theorem dX4_layOther_54 : decode cX4_layOther 54 = .ok (.ldc2_w 37, 3) := by decide +kernel
theorem dX4_layOther_57 : decode cX4_layOther 57 = .ok (.ldiv, 1) := by decide +kernel
theorem dX4_layOther_58 : decode cX4_layOther 58 = .ok (.lstore 4, 2) := by decide +kernel
theorem dX4_layOther_60 : decode cX4_layOther 60 = .ok (.iinc 6 1, 3) := by decide +kernel
theorem dX4_layOther_63 : decode cX4_layOther 63 = .ok (.goto (-32), 3) := by decide +kernel
theorem dX4_layOther_66 : decode cX4_layOther 66 = .ok (.return_, 1) := by decide +kernel
theorem dX4_trim_0 : decode cX4_trim 0 = .ok (.aload_n 0, 1) := by decide +kernel
theorem dX4_trim_1 : decode cX4_trim 1 = .ok (.sipush 900, 3) := by decide +kernel
theorem dX4_trim_4 : decode cX4_trim 4 = .ok (.putfield 39, 3) := by decide +kernel
theorem dX4_trim_7 : decode cX4_trim 7 = .ok (.aload_n 0, 1) := by decide +kernel
theorem dX4_trim_8 : decode cX4_trim 8 = .ok (.getfield 39, 3) := by decide +kernel
theorem dX4_trim_11 : decode cX4_trim 11 = .ok (.ifCond .le 30, 3) := by decide +kernel
theorem dX4_trim_14 : decode cX4_trim 14 = .ok (.aload_n 0, 1) := by decide +kernel
theorem dX4_trim_15 : decode cX4_trim 15 = .ok (.getfield 24, 3) := by decide +kernel
theorem dX4_trim_18 : decode cX4_trim 18 = .ok (.aload_n 0, 1) := by decide +kernel
theorem dX4_trim_19 : decode cX4_trim 19 = .ok (.getfield 39, 3) := by decide +kernel
theorem dX4_trim_22 : decode cX4_trim 22 = .ok (.iconst 1, 1) := by decide +kernel
theorem dX4_trim_23 : decode cX4_trim 23 = .ok (.isub, 1) := by decide +kernel
theorem dX4_trim_24 : decode cX4_trim 24 = .ok (.iaload, 1) := by decide +kernel
theorem dX4_trim_25 : decode cX4_trim 25 = .ok (.ifCond .ne 16, 3) := by decide +kernel
theorem dX4_trim_28 : decode cX4_trim 28 = .ok (.aload_n 0, 1) := by decide +kernel
theorem dX4_trim_29 : decode cX4_trim 29 = .ok (.dup, 1) := by decide +kernel
theorem dX4_trim_30 : decode cX4_trim 30 = .ok (.getfield 39, 3) := by decide +kernel
theorem dX4_trim_33 : decode cX4_trim 33 = .ok (.iconst 1, 1) := by decide +kernel
theorem dX4_trim_34 : decode cX4_trim 34 = .ok (.isub, 1) := by decide +kernel
theorem dX4_trim_35 : decode cX4_trim 35 = .ok (.putfield 39, 3) := by decide +kernel
theorem dX4_trim_38 : decode cX4_trim 38 = .ok (.goto (-31), 3) := by decide +kernel
theorem dX4_trim_41 : decode cX4_trim 41 = .ok (.return_, 1) := by decide +kernel
theorem dX4_whole_0 : decode cX4_whole 0 = .ok (.lconst 0, 1) := by decide +kernel
theorem dX4_whole_1 : decode cX4_whole 1 = .ok (.lstore_n 2, 1) := by decide +kernel
theorem dX4_whole_2 : decode cX4_whole 2 = .ok (.aload_n 0, 1) := by decide +kernel
theorem dX4_whole_3 : decode cX4_whole 3 = .ok (.getfield 39, 3) := by decide +kernel
theorem dX4_whole_6 : decode cX4_whole 6 = .ok (.iconst 1, 1) := by decide +kernel
theorem dX4_whole_7 : decode cX4_whole 7 = .ok (.isub, 1) := by decide +kernel
theorem dX4_whole_8 : decode cX4_whole 8 = .ok (.istore 4, 2) := by decide +kernel
theorem dX4_whole_10 : decode cX4_whole 10 = .ok (.iload 4, 2) := by decide +kernel
theorem dX4_whole_12 : decode cX4_whole 12 = .ok (.iload_n 1, 1) := by decide +kernel
theorem dX4_whole_13 : decode cX4_whole 13 = .ok (.if_icmp .lt 24, 3) := by decide +kernel
theorem dX4_whole_16 : decode cX4_whole 16 = .ok (.ldc2_w 37, 3) := by decide +kernel
theorem dX4_whole_19 : decode cX4_whole 19 = .ok (.lload_n 2, 1) := by decide +kernel
theorem dX4_whole_20 : decode cX4_whole 20 = .ok (.lmul, 1) := by decide +kernel
theorem dX4_whole_21 : decode cX4_whole 21 = .ok (.aload_n 0, 1) := by decide +kernel
theorem dX4_whole_22 : decode cX4_whole 22 = .ok (.getfield 24, 3) := by decide +kernel
theorem dX4_whole_25 : decode cX4_whole 25 = .ok (.iload 4, 2) := by decide +kernel
theorem dX4_whole_27 : decode cX4_whole 27 = .ok (.iaload, 1) := by decide +kernel
theorem dX4_whole_28 : decode cX4_whole 28 = .ok (.i2l, 1) := by decide +kernel
theorem dX4_whole_29 : decode cX4_whole 29 = .ok (.ladd, 1) := by decide +kernel
theorem dX4_whole_30 : decode cX4_whole 30 = .ok (.lstore_n 2, 1) := by decide +kernel
theorem dX4_whole_31 : decode cX4_whole 31 = .ok (.iinc 4 (-1), 3) := by decide +kernel
theorem dX4_whole_34 : decode cX4_whole 34 = .ok (.goto (-24), 3) := by decide +kernel
theorem dX4_whole_37 : decode cX4_whole 37 = .ok (.lload_n 2, 1) := by decide +kernel
theorem dX4_whole_38 : decode cX4_whole 38 = .ok (.lreturn, 1) := by decide +kernel
theorem dX4_times_0 : decode cX4_times 0 = .ok (.lload_n 1, 1) := by decide +kernel
theorem dX4_times_1 : decode cX4_times 1 = .ok (.lstore 4, 2) := by decide +kernel
theorem dX4_times_3 : decode cX4_times 3 = .ok (.iconst 0, 1) := by decide +kernel
theorem dX4_times_4 : decode cX4_times 4 = .ok (.istore 6, 2) := by decide +kernel
theorem dX4_times_6 : decode cX4_times 6 = .ok (.iload 6, 2) := by decide +kernel
theorem dX4_times_8 : decode cX4_times 8 = .ok (.iload_n 3, 1) := by decide +kernel
theorem dX4_times_9 : decode cX4_times 9 = .ok (.if_icmp .ge 17, 3) := by decide +kernel
theorem dX4_times_12 : decode cX4_times 12 = .ok (.ldc2_w 37, 3) := by decide +kernel
theorem dX4_times_15 : decode cX4_times 15 = .ok (.lload 4, 2) := by decide +kernel
theorem dX4_times_17 : decode cX4_times 17 = .ok (.lmul, 1) := by decide +kernel
theorem dX4_times_18 : decode cX4_times 18 = .ok (.lstore 4, 2) := by decide +kernel
theorem dX4_times_20 : decode cX4_times 20 = .ok (.iinc 6 1, 3) := by decide +kernel
theorem dX4_times_23 : decode cX4_times 23 = .ok (.goto (-17), 3) := by decide +kernel
theorem dX4_times_26 : decode cX4_times 26 = .ok (.lload 4, 2) := by decide +kernel
theorem dX4_times_28 : decode cX4_times 28 = .ok (.lreturn, 1) := by decide +kernel
theorem dX4_be_0 : decode cX4_be 0 = .ok (.aload_n 0, 1) := by decide +kernel
theorem dX4_be_1 : decode cX4_be 1 = .ok (.iload_n 1, 1) := by decide +kernel
theorem dX4_be_2 : decode cX4_be 2 = .ok (.putfield 42, 3) := by decide +kernel
theorem dX4_be_5 : decode cX4_be 5 = .ok (.aload_n 0, 1) := by decide +kernel
theorem dX4_be_6 : decode cX4_be 6 = .ok (.iload_n 2, 1) := by decide +kernel
theorem dX4_be_7 : decode cX4_be 7 = .ok (.putfield 45, 3) := by decide +kernel
theorem dX4_be_10 : decode cX4_be 10 = .ok (.aload_n 0, 1) := by decide +kernel
theorem dX4_be_11 : decode cX4_be 11 = .ok (.lload_n 3, 1) := by decide +kernel
theorem dX4_be_12 : decode cX4_be 12 = .ok (.putfield 49, 3) := by decide +kernel
theorem dX4_be_15 : decode cX4_be 15 = .ok (.aload_n 0, 1) := by decide +kernel
theorem dX4_be_16 : decode cX4_be 16 = .ok (.iload 5, 2) := by decide +kernel
theorem dX4_be_18 : decode cX4_be 18 = .ok (.putfield 53, 3) := by decide +kernel
theorem dX4_be_21 : decode cX4_be 21 = .ok (.return_, 1) := by decide +kernel
theorem dX4_invalid_0 : decode cX4_invalid 0 = .ok (.aload_n 0, 1) := by decide +kernel
theorem dX4_invalid_1 : decode cX4_invalid 1 = .ok (.aload_n 0, 1) := by decide +kernel
theorem dX4_invalid_2 : decode cX4_invalid 2 = .ok (.getfield 56, 3) := by decide +kernel
theorem dX4_invalid_5 : decode cX4_invalid 5 = .ok (.iconst 1, 1) := by decide +kernel
theorem dX4_invalid_6 : decode cX4_invalid 6 = .ok (.ior, 1) := by decide +kernel
theorem dX4_invalid_7 : decode cX4_invalid 7 = .ok (.putfield 56, 3) := by decide +kernel
theorem dX4_invalid_10 : decode cX4_invalid 10 = .ok (.aload_n 0, 1) := by decide +kernel
theorem dX4_invalid_11 : decode cX4_invalid 11 = .ok (.iconst 2, 1) := by decide +kernel
theorem dX4_invalid_12 : decode cX4_invalid 12 = .ok (.iconst 0, 1) := by decide +kernel
theorem dX4_invalid_13 : decode cX4_invalid 13 = .ok (.lconst 0, 1) := by decide +kernel
theorem dX4_invalid_14 : decode cX4_invalid 14 = .ok (.iconst 0, 1) := by decide +kernel
theorem dX4_invalid_15 : decode cX4_invalid 15 = .ok (.invokevirtual 59, 3) := by decide +kernel
theorem dX4_invalid_18 : decode cX4_invalid 18 = .ok (.return_, 1) := by decide +kernel
theorem dX4_between_0 : decode cX4_between 0 = .ok (.iload_n 1, 1) := by decide +kernel
theorem dX4_between_1 : decode cX4_between 1 = .ok (.iload_n 2, 1) := by decide +kernel
theorem dX4_between_2 : decode cX4_between 2 = .ok (.if_icmp .ge 7, 3) := by decide +kernel
theorem dX4_between_5 : decode cX4_between 5 = .ok (.iload_n 2, 1) := by decide +kernel
theorem dX4_between_6 : decode cX4_between 6 = .ok (.goto 13, 3) := by decide +kernel
theorem dX4_between_9 : decode cX4_between 9 = .ok (.iload_n 1, 1) := by decide +kernel
theorem dX4_between_10 : decode cX4_between 10 = .ok (.iload_n 3, 1) := by decide +kernel
theorem dX4_between_11 : decode cX4_between 11 = .ok (.if_icmp .le 7, 3) := by decide +kernel
theorem dX4_between_14 : decode cX4_between 14 = .ok (.iload_n 3, 1) := by decide +kernel
theorem dX4_between_15 : decode cX4_between 15 = .ok (.goto 4, 3) := by decide +kernel
theorem dX4_between_18 : decode cX4_between 18 = .ok (.iload_n 1, 1) := by decide +kernel
theorem dX4_between_19 : decode cX4_between 19 = .ok (.ireturn, 1) := by decide +kernel
theorem dX4_rounded_0 : decode cX4_rounded 0 = .ok (.iload_n 1, 1) := by decide +kernel
theorem dX4_rounded_1 : decode cX4_rounded 1 = .ok (.ifCond .gt 15, 3) := by decide +kernel
theorem dX4_rounded_4 : decode cX4_rounded 4 = .ok (.aload_n 0, 1) := by decide +kernel
theorem dX4_rounded_5 : decode cX4_rounded 5 = .ok (.aload_n 0, 1) := by decide +kernel
theorem dX4_rounded_6 : decode cX4_rounded 6 = .ok (.iconst 0, 1) := by decide +kernel
theorem dX4_rounded_7 : decode cX4_rounded 7 = .ok (.invokevirtual 63, 3) := by decide +kernel
theorem dX4_rounded_10 : decode cX4_rounded 10 = .ok (.iload_n 1, 1) := by decide +kernel
theorem dX4_rounded_11 : decode cX4_rounded 11 = .ok (.ineg, 1) := by decide +kernel
theorem dX4_rounded_12 : decode cX4_rounded 12 = .ok (.invokevirtual 67, 3) := by decide +kernel
theorem dX4_rounded_15 : decode cX4_rounded 15 = .ok (.lreturn, 1) := by decide +kernel
theorem dX4_rounded_16 : decode cX4_rounded 16 = .ok (.iload_n 1, 1) := by decide +kernel
theorem dX4_rounded_17 : decode cX4_rounded 17 = .ok (.aload_n 0, 1) := by decide +kernel
theorem dX4_rounded_18 : decode cX4_rounded 18 = .ok (.getfield 39, 3) := by decide +kernel
theorem dX4_rounded_21 : decode cX4_rounded 21 = .ok (.if_icmp .ge 11, 3) := by decide +kernel
theorem dX4_rounded_24 : decode cX4_rounded 24 = .ok (.aload_n 0, 1) := by decide +kernel
theorem dX4_rounded_25 : decode cX4_rounded 25 = .ok (.iload_n 1, 1) := by decide +kernel
theorem dX4_rounded_26 : decode cX4_rounded 26 = .ok (.invokevirtual 63, 3) := by decide +kernel
theorem dX4_rounded_29 : decode cX4_rounded 29 = .ok (.goto 4, 3) := by decide +kernel
theorem dX4_rounded_32 : decode cX4_rounded 32 = .ok (.lconst 0, 1) := by decide +kernel
theorem dX4_rounded_33 : decode cX4_rounded 33 = .ok (.lstore_n 3, 1) := by decide +kernel
theorem dX4_rounded_34 : decode cX4_rounded 34 = .ok (.aload_n 0, 1) := by decide +kernel
theorem dX4_rounded_35 : decode cX4_rounded 35 = .ok (.getfield 24, 3) := by decide +kernel
theorem dX4_rounded_38 : decode cX4_rounded 38 = .ok (.iload_n 1, 1) := by decide +kernel
theorem dX4_rounded_39 : decode cX4_rounded 39 = .ok (.iconst 1, 1) := by decide +kernel
theorem dX4_rounded_40 : decode cX4_rounded 40 = .ok (.isub, 1) := by decide +kernel
theorem dX4_rounded_41 : decode cX4_rounded 41 = .ok (.iaload, 1) := by decide +kernel
theorem dX4_rounded_42 : decode cX4_rounded 42 = .ok (.istore 5, 2) := by decide +kernel
theorem dX4_rounded_44 : decode cX4_rounded 44 = .ok (.aload_n 0, 1) := by decide +kernel
theorem dX4_rounded_45 : decode cX4_rounded 45 = .ok (.getfield 71, 3) := by decide +kernel
theorem dX4_rounded_48 : decode cX4_rounded 48 = .ok (.istore 6, 2) := by decide +kernel
theorem dX4_rounded_50 : decode cX4_rounded 50 = .ok (.iconst 0, 1) := by decide +kernel
theorem dX4_rounded_51 : decode cX4_rounded 51 = .ok (.istore 7, 2) := by decide +kernel
theorem dX4_rounded_53 : decode cX4_rounded 53 = .ok (.iload 7, 2) := by decide +kernel
theorem dX4_rounded_55 : decode cX4_rounded 55 = .ok (.iload_n 1, 1) := by decide +kernel
theorem dX4_rounded_56 : decode cX4_rounded 56 = .ok (.iconst 1, 1) := by decide +kernel
theorem dX4_rounded_57 : decode cX4_rounded 57 = .ok (.isub, 1) := by decide +kernel
theorem dX4_rounded_58 : decode cX4_rounded 58 = .ok (.if_icmp .ge 31, 3) := by decide +kernel
theorem dX4_rounded_61 : decode cX4_rounded 61 = .ok (.iload 6, 2) := by decide +kernel
theorem dX4_rounded_63 : decode cX4_rounded 63 = .ok (.ifCond .ne 13, 3) := by decide +kernel
theorem dX4_rounded_66 : decode cX4_rounded 66 = .ok (.aload_n 0, 1) := by decide +kernel
theorem dX4_rounded_67 : decode cX4_rounded 67 = .ok (.getfield 24, 3) := by decide +kernel
theorem dX4_rounded_70 : decode cX4_rounded 70 = .ok (.iload 7, 2) := by decide +kernel
theorem dX4_rounded_72 : decode cX4_rounded 72 = .ok (.iaload, 1) := by decide +kernel
theorem dX4_rounded_73 : decode cX4_rounded 73 = .ok (.ifCond .le 7, 3) := by decide +kernel
theorem dX4_rounded_76 : decode cX4_rounded 76 = .ok (.iconst 1, 1) := by decide +kernel
theorem dX4_rounded_77 : decode cX4_rounded 77 = .ok (.goto 4, 3) := by decide +kernel
theorem dX4_rounded_80 : decode cX4_rounded 80 = .ok (.iconst 0, 1) := by decide +kernel
theorem dX4_rounded_81 : decode cX4_rounded 81 = .ok (.istore 6, 2) := by decide +kernel
theorem dX4_rounded_83 : decode cX4_rounded 83 = .ok (.iinc 7 1, 3) := by decide +kernel
theorem dX4_rounded_86 : decode cX4_rounded 86 = .ok (.goto (-33), 3) := by decide +kernel
theorem dX4_rounded_89 : decode cX4_rounded 89 = .ok (.iload 6, 2) := by decide +kernel
theorem dX4_rounded_91 : decode cX4_rounded 91 = .ok (.ifCond .ne 8, 3) := by decide +kernel
theorem dX4_rounded_94 : decode cX4_rounded 94 = .ok (.iload 5, 2) := by decide +kernel
theorem dX4_rounded_96 : decode cX4_rounded 96 = .ok (.ifCond .le 7, 3) := by decide +kernel
theorem dX4_rounded_99 : decode cX4_rounded 99 = .ok (.iconst 1, 1) := by decide +kernel
theorem dX4_rounded_100 : decode cX4_rounded 100 = .ok (.goto 4, 3) := by decide +kernel
theorem dX4_rounded_103 : decode cX4_rounded 103 = .ok (.iconst 0, 1) := by decide +kernel
theorem dX4_rounded_104 : decode cX4_rounded 104 = .ok (.istore 7, 2) := by decide +kernel
theorem dX4_rounded_106 : decode cX4_rounded 106 = .ok (.iload 5, 2) := by decide +kernel
theorem dX4_rounded_108 : decode cX4_rounded 108 = .ok (.iconst 5, 1) := by decide +kernel
theorem dX4_rounded_109 : decode cX4_rounded 109 = .ok (.if_icmp .ne 12, 3) := by decide +kernel
theorem dX4_rounded_112 : decode cX4_rounded 112 = .ok (.iload 6, 2) := by decide +kernel
theorem dX4_rounded_114 : decode cX4_rounded 114 = .ok (.ifCond .ne 7, 3) := by decide +kernel
theorem dX4_rounded_117 : decode cX4_rounded 117 = .ok (.iconst 1, 1) := by decide +kernel
theorem dX4_rounded_118 : decode cX4_rounded 118 = .ok (.goto 4, 3) := by decide +kernel
theorem dX4_rounded_121 : decode cX4_rounded 121 = .ok (.iconst 0, 1) := by decide +kernel
theorem dX4_rounded_122 : decode cX4_rounded 122 = .ok (.istore 8, 2) := by decide +kernel
theorem dX4_rounded_124 : decode cX4_rounded 124 = .ok (.iload 5, 2) := by decide +kernel
theorem dX4_rounded_126 : decode cX4_rounded 126 = .ok (.iconst 5, 1) := by decide +kernel
theorem dX4_rounded_127 : decode cX4_rounded 127 = .ok (.if_icmp .gt 14, 3) := by decide +kernel
theorem dX4_rounded_130 : decode cX4_rounded 130 = .ok (.iload 5, 2) := by decide +kernel
theorem dX4_rounded_132 : decode cX4_rounded 132 = .ok (.iconst 5, 1) := by decide +kernel
theorem dX4_rounded_133 : decode cX4_rounded 133 = .ok (.if_icmp .ne 12, 3) := by decide +kernel
theorem dX4_rounded_136 : decode cX4_rounded 136 = .ok (.iload 6, 2) := by decide +kernel
theorem dX4_rounded_138 : decode cX4_rounded 138 = .ok (.ifCond .eq 7, 3) := by decide +kernel
theorem dX4_rounded_141 : decode cX4_rounded 141 = .ok (.iconst 1, 1) := by decide +kernel
theorem dX4_rounded_142 : decode cX4_rounded 142 = .ok (.goto 4, 3) := by decide +kernel
theorem dX4_rounded_145 : decode cX4_rounded 145 = .ok (.iconst 0, 1) := by decide +kernel
theorem dX4_rounded_146 : decode cX4_rounded 146 = .ok (.istore 9, 2) := by decide +kernel
theorem dX4_rounded_148 : decode cX4_rounded 148 = .ok (.aload_n 0, 1) := by decide +kernel
theorem dX4_rounded_149 : decode cX4_rounded 149 = .ok (.getfield 74, 3) := by decide +kernel
theorem dX4_rounded_152 : decode cX4_rounded 152 = .ok (.ifCond .ne 31, 3) := by decide +kernel
theorem dX4_rounded_155 : decode cX4_rounded 155 = .ok (.iload 9, 2) := by decide +kernel
theorem dX4_rounded_157 : decode cX4_rounded 157 = .ok (.ifCond .ne 18, 3) := by decide +kernel
theorem dX4_rounded_160 : decode cX4_rounded 160 = .ok (.iload 8, 2) := by decide +kernel
theorem dX4_rounded_162 : decode cX4_rounded 162 = .ok (.ifCond .eq 17, 3) := by decide +kernel
theorem dX4_rounded_165 : decode cX4_rounded 165 = .ok (.lload_n 3, 1) := by decide +kernel
theorem dX4_rounded_166 : decode cX4_rounded 166 = .ok (.ldc2_w 77, 3) := by decide +kernel
theorem dX4_rounded_169 : decode cX4_rounded 169 = .ok (.lrem, 1) := by decide +kernel
theorem dX4_rounded_170 : decode cX4_rounded 170 = .ok (.lconst 1, 1) := by decide +kernel
theorem dX4_rounded_171 : decode cX4_rounded 171 = .ok (.lcmp, 1) := by decide +kernel
theorem dX4_rounded_172 : decode cX4_rounded 172 = .ok (.ifCond .ne 7, 3) := by decide +kernel
theorem dX4_rounded_175 : decode cX4_rounded 175 = .ok (.iconst 1, 1) := by decide +kernel
theorem dX4_rounded_176 : decode cX4_rounded 176 = .ok (.goto 80, 3) := by decide +kernel
theorem dX4_rounded_179 : decode cX4_rounded 179 = .ok (.iconst 0, 1) := by decide +kernel
theorem dX4_rounded_180 : decode cX4_rounded 180 = .ok (.goto 76, 3) := by decide +kernel
theorem dX4_rounded_183 : decode cX4_rounded 183 = .ok (.aload_n 0, 1) := by decide +kernel
theorem dX4_rounded_184 : decode cX4_rounded 184 = .ok (.getfield 74, 3) := by decide +kernel
theorem dX4_rounded_187 : decode cX4_rounded 187 = .ok (.iconst 1, 1) := by decide +kernel
theorem dX4_rounded_188 : decode cX4_rounded 188 = .ok (.if_icmp .ne 21, 3) := by decide +kernel
theorem dX4_rounded_191 : decode cX4_rounded 191 = .ok (.iload 9, 2) := by decide +kernel
theorem dX4_rounded_193 : decode cX4_rounded 193 = .ok (.ifCond .ne 8, 3) := by decide +kernel
theorem dX4_rounded_196 : decode cX4_rounded 196 = .ok (.iload 8, 2) := by decide +kernel
theorem dX4_rounded_198 : decode cX4_rounded 198 = .ok (.ifCond .eq 7, 3) := by decide +kernel
theorem dX4_rounded_201 : decode cX4_rounded 201 = .ok (.iconst 1, 1) := by decide +kernel
theorem dX4_rounded_202 : decode cX4_rounded 202 = .ok (.goto 54, 3) := by decide +kernel
theorem dX4_rounded_205 : decode cX4_rounded 205 = .ok (.iconst 0, 1) := by decide +kernel
theorem dX4_rounded_206 : decode cX4_rounded 206 = .ok (.goto 50, 3) := by decide +kernel
theorem dX4_rounded_209 : decode cX4_rounded 209 = .ok (.aload_n 0, 1) := by decide +kernel
theorem dX4_rounded_210 : decode cX4_rounded 210 = .ok (.getfield 74, 3) := by decide +kernel
theorem dX4_rounded_213 : decode cX4_rounded 213 = .ok (.iconst 3, 1) := by decide +kernel
theorem dX4_rounded_214 : decode cX4_rounded 214 = .ok (.if_icmp .ne 20, 3) := by decide +kernel
theorem dX4_rounded_217 : decode cX4_rounded 217 = .ok (.iload 7, 2) := by decide +kernel
theorem dX4_rounded_219 : decode cX4_rounded 219 = .ok (.ifCond .eq 11, 3) := by decide +kernel
theorem dX4_rounded_222 : decode cX4_rounded 222 = .ok (.iload_n 2, 1) := by decide +kernel
theorem dX4_rounded_223 : decode cX4_rounded 223 = .ok (.ifCond .ne 7, 3) := by decide +kernel
theorem dX4_rounded_226 : decode cX4_rounded 226 = .ok (.iconst 1, 1) := by decide +kernel
theorem dX4_rounded_227 : decode cX4_rounded 227 = .ok (.goto 29, 3) := by decide +kernel
theorem dX4_rounded_230 : decode cX4_rounded 230 = .ok (.iconst 0, 1) := by decide +kernel
theorem dX4_rounded_231 : decode cX4_rounded 231 = .ok (.goto 25, 3) := by decide +kernel
theorem dX4_rounded_234 : decode cX4_rounded 234 = .ok (.aload_n 0, 1) := by decide +kernel
theorem dX4_rounded_235 : decode cX4_rounded 235 = .ok (.getfield 74, 3) := by decide +kernel
theorem dX4_rounded_238 : decode cX4_rounded 238 = .ok (.iconst 4, 1) := by decide +kernel
theorem dX4_rounded_239 : decode cX4_rounded 239 = .ok (.if_icmp .ne 16, 3) := by decide +kernel
theorem dX4_rounded_242 : decode cX4_rounded 242 = .ok (.iload 7, 2) := by decide +kernel
theorem dX4_rounded_244 : decode cX4_rounded 244 = .ok (.ifCond .eq 11, 3) := by decide +kernel
theorem dX4_rounded_247 : decode cX4_rounded 247 = .ok (.iload_n 2, 1) := by decide +kernel
theorem dX4_rounded_248 : decode cX4_rounded 248 = .ok (.ifCond .eq 7, 3) := by decide +kernel
theorem dX4_rounded_251 : decode cX4_rounded 251 = .ok (.iconst 1, 1) := by decide +kernel
theorem dX4_rounded_252 : decode cX4_rounded 252 = .ok (.goto 4, 3) := by decide +kernel
theorem dX4_rounded_255 : decode cX4_rounded 255 = .ok (.iconst 0, 1) := by decide +kernel
theorem dX4_rounded_256 : decode cX4_rounded 256 = .ok (.istore 10, 2) := by decide +kernel
theorem dX4_rounded_258 : decode cX4_rounded 258 = .ok (.iload 10, 2) := by decide +kernel
theorem dX4_rounded_260 : decode cX4_rounded 260 = .ok (.ifCond .eq 9, 3) := by decide +kernel
theorem dX4_rounded_263 : decode cX4_rounded 263 = .ok (.lload_n 3, 1) := by decide +kernel
theorem dX4_rounded_264 : decode cX4_rounded 264 = .ok (.lconst 1, 1) := by decide +kernel
theorem dX4_rounded_265 : decode cX4_rounded 265 = .ok (.ladd, 1) := by decide +kernel
theorem dX4_rounded_266 : decode cX4_rounded 266 = .ok (.goto 4, 3) := by decide +kernel
theorem dX4_rounded_269 : decode cX4_rounded 269 = .ok (.lload_n 3, 1) := by decide +kernel
theorem dX4_rounded_270 : decode cX4_rounded 270 = .ok (.lreturn, 1) := by decide +kernel
theorem dX4_fit_0 : decode cX4_fit 0 = .ok (.aload_n 0, 1) := by decide +kernel
theorem dX4_fit_1 : decode cX4_fit 1 = .ok (.invokevirtual 79, 3) := by decide +kernel
theorem dX4_fit_4 : decode cX4_fit 4 = .ok (.aload_n 0, 1) := by decide +kernel
theorem dX4_fit_5 : decode cX4_fit 5 = .ok (.getfield 39, 3) := by decide +kernel
theorem dX4_fit_8 : decode cX4_fit 8 = .ok (.ifCond .ne 22, 3) := by decide +kernel
theorem dX4_fit_11 : decode cX4_fit 11 = .ok (.aload_n 0, 1) := by decide +kernel
theorem dX4_fit_12 : decode cX4_fit 12 = .ok (.iconst 0, 1) := by decide +kernel
theorem dX4_fit_13 : decode cX4_fit 13 = .ok (.iload_n 1, 1) := by decide +kernel
theorem dX4_fit_14 : decode cX4_fit 14 = .ok (.lconst 0, 1) := by decide +kernel
theorem dX4_fit_15 : decode cX4_fit 15 = .ok (.aload_n 0, 1) := by decide +kernel
theorem dX4_fit_16 : decode cX4_fit 16 = .ok (.iload_n 2, 1) := by decide +kernel
theorem dX4_fit_17 : decode cX4_fit 17 = .ok (.sipush (-398), 3) := by decide +kernel
theorem dX4_fit_20 : decode cX4_fit 20 = .ok (.sipush 369, 3) := by decide +kernel
theorem dX4_fit_23 : decode cX4_fit 23 = .ok (.invokevirtual 82, 3) := by decide +kernel
theorem dX4_fit_26 : decode cX4_fit 26 = .ok (.invokevirtual 59, 3) := by decide +kernel
theorem dX4_fit_29 : decode cX4_fit 29 = .ok (.return_, 1) := by decide +kernel
theorem dX4_fit_30 : decode cX4_fit 30 = .ok (.iconst 0, 1) := by decide +kernel
theorem dX4_fit_31 : decode cX4_fit 31 = .ok (.istore_n 3, 1) := by decide +kernel
theorem dX4_fit_32 : decode cX4_fit 32 = .ok (.aload_n 0, 1) := by decide +kernel
theorem dX4_fit_33 : decode cX4_fit 33 = .ok (.getfield 24, 3) := by decide +kernel
theorem dX4_fit_36 : decode cX4_fit 36 = .ok (.iload_n 3, 1) := by decide +kernel
theorem dX4_fit_37 : decode cX4_fit 37 = .ok (.iaload, 1) := by decide +kernel
theorem dX4_fit_38 : decode cX4_fit 38 = .ok (.ifCond .ne 9, 3) := by decide +kernel
theorem dX4_fit_41 : decode cX4_fit 41 = .ok (.iinc 3 1, 3) := by decide +kernel
theorem dX4_fit_44 : decode cX4_fit 44 = .ok (.goto (-12), 3) := by decide +kernel
theorem dX4_fit_47 : decode cX4_fit 47 = .ok (.aload_n 0, 1) := by decide +kernel
theorem dX4_fit_48 : decode cX4_fit 48 = .ok (.getfield 39, 3) := by decide +kernel
theorem dX4_fit_51 : decode cX4_fit 51 = .ok (.iload_n 3, 1) := by decide +kernel
theorem dX4_fit_52 : decode cX4_fit 52 = .ok (.isub, 1) := by decide +kernel
theorem dX4_fit_53 : decode cX4_fit 53 = .ok (.istore 4, 2) := by decide +kernel
theorem dX4_fit_55 : decode cX4_fit 55 = .ok (.aload_n 0, 1) := by decide +kernel
theorem dX4_fit_56 : decode cX4_fit 56 = .ok (.getfield 86, 3) := by decide +kernel
theorem dX4_fit_59 : decode cX4_fit 59 = .ok (.iload_n 3, 1) := by decide +kernel
theorem dX4_fit_60 : decode cX4_fit 60 = .ok (.iadd, 1) := by decide +kernel
theorem dX4_fit_61 : decode cX4_fit 61 = .ok (.istore 5, 2) := by decide +kernel
theorem dX4_fit_63 : decode cX4_fit 63 = .ok (.iload 5, 2) := by decide +kernel
theorem dX4_fit_65 : decode cX4_fit 65 = .ok (.bipush 16, 2) := by decide +kernel
theorem dX4_fit_67 : decode cX4_fit 67 = .ok (.iload 4, 2) := by decide +kernel
theorem dX4_fit_69 : decode cX4_fit 69 = .ok (.isub, 1) := by decide +kernel
theorem dX4_fit_70 : decode cX4_fit 70 = .ok (.isub, 1) := by decide +kernel
theorem dX4_fit_71 : decode cX4_fit 71 = .ok (.istore 6, 2) := by decide +kernel
theorem dX4_fit_73 : decode cX4_fit 73 = .ok (.aload_n 0, 1) := by decide +kernel
theorem dX4_fit_74 : decode cX4_fit 74 = .ok (.getfield 71, 3) := by decide +kernel
theorem dX4_fit_77 : decode cX4_fit 77 = .ok (.ifCond .ne 88, 3) := by decide +kernel
theorem dX4_fit_80 : decode cX4_fit 80 = .ok (.iload 4, 2) := by decide +kernel
theorem dX4_fit_82 : decode cX4_fit 82 = .ok (.bipush 16, 2) := by decide +kernel
theorem dX4_fit_84 : decode cX4_fit 84 = .ok (.if_icmp .gt 81, 3) := by decide +kernel
theorem dX4_fit_87 : decode cX4_fit 87 = .ok (.iload 5, 2) := by decide +kernel
theorem dX4_fit_89 : decode cX4_fit 89 = .ok (.sipush (-398), 3) := by decide +kernel
theorem dX4_fit_92 : decode cX4_fit 92 = .ok (.if_icmp .lt 73, 3) := by decide +kernel
theorem dX4_fit_95 : decode cX4_fit 95 = .ok (.iload 6, 2) := by decide +kernel
theorem dX4_fit_97 : decode cX4_fit 97 = .ok (.sipush 369, 3) := by decide +kernel
theorem dX4_fit_100 : decode cX4_fit 100 = .ok (.if_icmp .gt 65, 3) := by decide +kernel
theorem dX4_fit_103 : decode cX4_fit 103 = .ok (.aload_n 0, 1) := by decide +kernel
theorem dX4_fit_104 : decode cX4_fit 104 = .ok (.iload_n 2, 1) := by decide +kernel
theorem dX4_fit_105 : decode cX4_fit 105 = .ok (.iload 6, 2) := by decide +kernel
theorem dX4_fit_107 : decode cX4_fit 107 = .ok (.sipush (-398), 3) := by decide +kernel
theorem dX4_fit_110 : decode cX4_fit 110 = .ok (.if_icmp .ge 9, 3) := by decide +kernel
theorem dX4_fit_113 : decode cX4_fit 113 = .ok (.sipush (-398), 3) := by decide +kernel
theorem dX4_fit_116 : decode cX4_fit 116 = .ok (.goto 5, 3) := by decide +kernel
theorem dX4_fit_119 : decode cX4_fit 119 = .ok (.iload 6, 2) := by decide +kernel
theorem dX4_fit_121 : decode cX4_fit 121 = .ok (.iload 5, 2) := by decide +kernel
theorem dX4_fit_123 : decode cX4_fit 123 = .ok (.sipush 369, 3) := by decide +kernel
theorem dX4_fit_126 : decode cX4_fit 126 = .ok (.if_icmp .le 9, 3) := by decide +kernel
theorem dX4_fit_129 : decode cX4_fit 129 = .ok (.sipush 369, 3) := by decide +kernel
theorem dX4_fit_132 : decode cX4_fit 132 = .ok (.goto 5, 3) := by decide +kernel
theorem dX4_fit_135 : decode cX4_fit 135 = .ok (.iload 5, 2) := by decide +kernel
theorem dX4_fit_137 : decode cX4_fit 137 = .ok (.invokevirtual 82, 3) := by decide +kernel
theorem dX4_fit_140 : decode cX4_fit 140 = .ok (.istore 7, 2) := by decide +kernel
theorem dX4_fit_142 : decode cX4_fit 142 = .ok (.aload_n 0, 1) := by decide +kernel
theorem dX4_fit_143 : decode cX4_fit 143 = .ok (.iconst 0, 1) := by decide +kernel
theorem dX4_fit_144 : decode cX4_fit 144 = .ok (.iload_n 1, 1) := by decide +kernel
theorem dX4_fit_145 : decode cX4_fit 145 = .ok (.aload_n 0, 1) := by decide +kernel
theorem dX4_fit_146 : decode cX4_fit 146 = .ok (.aload_n 0, 1) := by decide +kernel
theorem dX4_fit_147 : decode cX4_fit 147 = .ok (.iload_n 3, 1) := by decide +kernel
theorem dX4_fit_148 : decode cX4_fit 148 = .ok (.invokevirtual 63, 3) := by decide +kernel
theorem dX4_fit_151 : decode cX4_fit 151 = .ok (.iload 5, 2) := by decide +kernel
theorem dX4_fit_153 : decode cX4_fit 153 = .ok (.iload 7, 2) := by decide +kernel
theorem dX4_fit_155 : decode cX4_fit 155 = .ok (.isub, 1) := by decide +kernel
theorem dX4_fit_156 : decode cX4_fit 156 = .ok (.invokevirtual 67, 3) := by decide +kernel
theorem dX4_fit_159 : decode cX4_fit 159 = .ok (.iload 7, 2) := by decide +kernel
theorem dX4_fit_161 : decode cX4_fit 161 = .ok (.invokevirtual 59, 3) := by decide +kernel
theorem dX4_fit_164 : decode cX4_fit 164 = .ok (.return_, 1) := by decide +kernel
theorem dX4_fit_165 : decode cX4_fit 165 = .ok (.aload_n 0, 1) := by decide +kernel
theorem dX4_fit_166 : decode cX4_fit 166 = .ok (.aload_n 0, 1) := by decide +kernel
theorem dX4_fit_167 : decode cX4_fit 167 = .ok (.getfield 56, 3) := by decide +kernel
theorem dX4_fit_170 : decode cX4_fit 170 = .ok (.bipush 16, 2) := by decide +kernel
theorem dX4_fit_172 : decode cX4_fit 172 = .ok (.ior, 1) := by decide +kernel
theorem dX4_fit_173 : decode cX4_fit 173 = .ok (.putfield 56, 3) := by decide +kernel
theorem dX4_fit_176 : decode cX4_fit 176 = .ok (.aload_n 0, 1) := by decide +kernel
theorem dX4_fit_177 : decode cX4_fit 177 = .ok (.getfield 39, 3) := by decide +kernel
theorem dX4_fit_180 : decode cX4_fit 180 = .ok (.aload_n 0, 1) := by decide +kernel
theorem dX4_fit_181 : decode cX4_fit 181 = .ok (.getfield 86, 3) := by decide +kernel
theorem dX4_fit_184 : decode cX4_fit 184 = .ok (.iadd, 1) := by decide +kernel
theorem dX4_fit_185 : decode cX4_fit 185 = .ok (.bipush 16, 2) := by decide +kernel
theorem dX4_fit_187 : decode cX4_fit 187 = .ok (.isub, 1) := by decide +kernel
theorem dX4_fit_188 : decode cX4_fit 188 = .ok (.istore 7, 2) := by decide +kernel
theorem dX4_fit_190 : decode cX4_fit 190 = .ok (.iload 7, 2) := by decide +kernel
theorem dX4_fit_192 : decode cX4_fit 192 = .ok (.sipush (-398), 3) := by decide +kernel
theorem dX4_fit_195 : decode cX4_fit 195 = .ok (.if_icmp .ge 9, 3) := by decide +kernel
theorem dX4_fit_198 : decode cX4_fit 198 = .ok (.sipush (-398), 3) := by decide +kernel
theorem dX4_fit_201 : decode cX4_fit 201 = .ok (.goto 5, 3) := by decide +kernel
theorem dX4_fit_204 : decode cX4_fit 204 = .ok (.iload 7, 2) := by decide +kernel
theorem dX4_fit_206 : decode cX4_fit 206 = .ok (.istore 7, 2) := by decide +kernel
theorem dX4_fit_208 : decode cX4_fit 208 = .ok (.iload 7, 2) := by decide +kernel
theorem dX4_fit_210 : decode cX4_fit 210 = .ok (.sipush 369, 3) := by decide +kernel
theorem dX4_fit_213 : decode cX4_fit 213 = .ok (.if_icmp .le 9, 3) := by decide +kernel
theorem dX4_fit_216 : decode cX4_fit 216 = .ok (.aload_n 0, 1) := by decide +kernel
theorem dX4_fit_217 : decode cX4_fit 217 = .ok (.iload_n 1, 1) := by decide +kernel
theorem dX4_fit_218 : decode cX4_fit 218 = .ok (.invokevirtual 89, 3) := by decide +kernel
theorem dX4_fit_221 : decode cX4_fit 221 = .ok (.return_, 1) := by decide +kernel
theorem dX4_fit_222 : decode cX4_fit 222 = .ok (.aload_n 0, 1) := by decide +kernel
theorem dX4_fit_223 : decode cX4_fit 223 = .ok (.iload 7, 2) := by decide +kernel
theorem dX4_fit_225 : decode cX4_fit 225 = .ok (.aload_n 0, 1) := by decide +kernel
theorem dX4_fit_226 : decode cX4_fit 226 = .ok (.getfield 86, 3) := by decide +kernel
theorem dX4_fit_229 : decode cX4_fit 229 = .ok (.isub, 1) := by decide +kernel
theorem dX4_fit_230 : decode cX4_fit 230 = .ok (.iload_n 1, 1) := by decide +kernel
theorem dX4_fit_231 : decode cX4_fit 231 = .ok (.invokevirtual 93, 3) := by decide +kernel
theorem dX4_fit_234 : decode cX4_fit 234 = .ok (.lstore 8, 2) := by decide +kernel
theorem dX4_fit_236 : decode cX4_fit 236 = .ok (.lload 8, 2) := by decide +kernel
theorem dX4_fit_238 : decode cX4_fit 238 = .ok (.ldc2_w 97, 3) := by decide +kernel
theorem dX4_fit_241 : decode cX4_fit 241 = .ok (.lcmp, 1) := by decide +kernel
theorem dX4_fit_242 : decode cX4_fit 242 = .ok (.ifCond .ne 11, 3) := by decide +kernel
theorem dX4_fit_245 : decode cX4_fit 245 = .ok (.ldc2_w 99, 3) := by decide +kernel
theorem dX4_fit_248 : decode cX4_fit 248 = .ok (.lstore 8, 2) := by decide +kernel
theorem dX4_fit_250 : decode cX4_fit 250 = .ok (.iinc 7 1, 3) := by decide +kernel
theorem dX4_fit_253 : decode cX4_fit 253 = .ok (.iload 7, 2) := by decide +kernel
theorem dX4_fit_255 : decode cX4_fit 255 = .ok (.sipush 369, 3) := by decide +kernel
theorem dX4_fit_258 : decode cX4_fit 258 = .ok (.if_icmp .le 9, 3) := by decide +kernel
theorem dX4_fit_261 : decode cX4_fit 261 = .ok (.aload_n 0, 1) := by decide +kernel
theorem dX4_fit_262 : decode cX4_fit 262 = .ok (.iload_n 1, 1) := by decide +kernel
theorem dX4_fit_263 : decode cX4_fit 263 = .ok (.invokevirtual 89, 3) := by decide +kernel
theorem dX4_fit_266 : decode cX4_fit 266 = .ok (.return_, 1) := by decide +kernel
theorem dX4_fit_267 : decode cX4_fit 267 = .ok (.aload_n 0, 1) := by decide +kernel
theorem dX4_fit_268 : decode cX4_fit 268 = .ok (.aload_n 0, 1) := by decide +kernel
theorem dX4_fit_269 : decode cX4_fit 269 = .ok (.getfield 39, 3) := by decide +kernel
theorem dX4_fit_272 : decode cX4_fit 272 = .ok (.aload_n 0, 1) := by decide +kernel
theorem dX4_fit_273 : decode cX4_fit 273 = .ok (.getfield 86, 3) := by decide +kernel
theorem dX4_fit_276 : decode cX4_fit 276 = .ok (.iadd, 1) := by decide +kernel
theorem dX4_fit_277 : decode cX4_fit 277 = .ok (.sipush (-383), 3) := by decide +kernel
theorem dX4_fit_280 : decode cX4_fit 280 = .ok (.if_icmp .gt 13, 3) := by decide +kernel
theorem dX4_fit_283 : decode cX4_fit 283 = .ok (.aload_n 0, 1) := by decide +kernel
theorem dX4_fit_284 : decode cX4_fit 284 = .ok (.getfield 56, 3) := by decide +kernel
theorem dX4_fit_287 : decode cX4_fit 287 = .ok (.bipush 8, 2) := by decide +kernel
theorem dX4_fit_289 : decode cX4_fit 289 = .ok (.ior, 1) := by decide +kernel
theorem dX4_fit_290 : decode cX4_fit 290 = .ok (.goto 7, 3) := by decide +kernel
theorem dX4_fit_293 : decode cX4_fit 293 = .ok (.aload_n 0, 1) := by decide +kernel
theorem dX4_fit_294 : decode cX4_fit 294 = .ok (.getfield 56, 3) := by decide +kernel
theorem dX4_fit_297 : decode cX4_fit 297 = .ok (.putfield 56, 3) := by decide +kernel
theorem dX4_fit_300 : decode cX4_fit 300 = .ok (.aload_n 0, 1) := by decide +kernel
theorem dX4_fit_301 : decode cX4_fit 301 = .ok (.iconst 0, 1) := by decide +kernel
theorem dX4_fit_302 : decode cX4_fit 302 = .ok (.iload_n 1, 1) := by decide +kernel
theorem dX4_fit_303 : decode cX4_fit 303 = .ok (.lload 8, 2) := by decide +kernel
theorem dX4_fit_305 : decode cX4_fit 305 = .ok (.iload 7, 2) := by decide +kernel
theorem dX4_fit_307 : decode cX4_fit 307 = .ok (.invokevirtual 59, 3) := by decide +kernel
theorem dX4_fit_310 : decode cX4_fit 310 = .ok (.return_, 1) := by decide +kernel
theorem dX4_great_0 : decode cX4_great 0 = .ok (.aload_n 0, 1) := by decide +kernel
theorem dX4_great_1 : decode cX4_great 1 = .ok (.aload_n 0, 1) := by decide +kernel
theorem dX4_great_2 : decode cX4_great 2 = .ok (.getfield 56, 3) := by decide +kernel
theorem dX4_great_5 : decode cX4_great 5 = .ok (.iconst 4, 1) := by decide +kernel
theorem dX4_great_6 : decode cX4_great 6 = .ok (.ior, 1) := by decide +kernel
theorem dX4_great_7 : decode cX4_great 7 = .ok (.putfield 56, 3) := by decide +kernel
theorem dX4_great_10 : decode cX4_great 10 = .ok (.aload_n 0, 1) := by decide +kernel
theorem dX4_great_11 : decode cX4_great 11 = .ok (.getfield 74, 3) := by decide +kernel
theorem dX4_great_14 : decode cX4_great 14 = .ok (.iconst 2, 1) := by decide +kernel
theorem dX4_great_15 : decode cX4_great 15 = .ok (.if_icmp .eq 27, 3) := by decide +kernel
theorem dX4_great_18 : decode cX4_great 18 = .ok (.aload_n 0, 1) := by decide +kernel
theorem dX4_great_19 : decode cX4_great 19 = .ok (.getfield 74, 3) := by decide +kernel
theorem dX4_great_22 : decode cX4_great 22 = .ok (.iconst 3, 1) := by decide +kernel
theorem dX4_great_23 : decode cX4_great 23 = .ok (.if_icmp .ne 7, 3) := by decide +kernel
theorem dX4_great_26 : decode cX4_great 26 = .ok (.iload_n 1, 1) := by decide +kernel
theorem dX4_great_27 : decode cX4_great 27 = .ok (.ifCond .ne 15, 3) := by decide +kernel
theorem dX4_great_30 : decode cX4_great 30 = .ok (.aload_n 0, 1) := by decide +kernel
theorem dX4_great_31 : decode cX4_great 31 = .ok (.getfield 74, 3) := by decide +kernel
theorem dX4_great_34 : decode cX4_great 34 = .ok (.iconst 4, 1) := by decide +kernel
theorem dX4_great_35 : decode cX4_great 35 = .ok (.if_icmp .ne 11, 3) := by decide +kernel
theorem dX4_great_38 : decode cX4_great 38 = .ok (.iload_n 1, 1) := by decide +kernel
theorem dX4_great_39 : decode cX4_great 39 = .ok (.ifCond .ne 7, 3) := by decide +kernel
theorem dX4_great_42 : decode cX4_great 42 = .ok (.iconst 1, 1) := by decide +kernel
theorem dX4_great_43 : decode cX4_great 43 = .ok (.goto 4, 3) := by decide +kernel
theorem dX4_great_46 : decode cX4_great 46 = .ok (.iconst 0, 1) := by decide +kernel
theorem dX4_great_47 : decode cX4_great 47 = .ok (.istore_n 2, 1) := by decide +kernel
theorem dX4_great_48 : decode cX4_great 48 = .ok (.aload_n 0, 1) := by decide +kernel
theorem dX4_great_49 : decode cX4_great 49 = .ok (.iload_n 2, 1) := by decide +kernel
theorem dX4_great_50 : decode cX4_great 50 = .ok (.ifCond .eq 7, 3) := by decide +kernel
theorem dX4_great_53 : decode cX4_great 53 = .ok (.iconst 0, 1) := by decide +kernel
theorem dX4_great_54 : decode cX4_great 54 = .ok (.goto 4, 3) := by decide +kernel
theorem dX4_great_57 : decode cX4_great 57 = .ok (.iconst 1, 1) := by decide +kernel
theorem dX4_great_58 : decode cX4_great 58 = .ok (.iload_n 1, 1) := by decide +kernel
theorem dX4_great_59 : decode cX4_great 59 = .ok (.iload_n 2, 1) := by decide +kernel
theorem dX4_great_60 : decode cX4_great 60 = .ok (.ifCond .eq 9, 3) := by decide +kernel
theorem dX4_great_63 : decode cX4_great 63 = .ok (.ldc2_w 101, 3) := by decide +kernel
theorem dX4_great_66 : decode cX4_great 66 = .ok (.goto 4, 3) := by decide +kernel
theorem dX4_great_69 : decode cX4_great 69 = .ok (.lconst 0, 1) := by decide +kernel
theorem dX4_great_70 : decode cX4_great 70 = .ok (.iload_n 2, 1) := by decide +kernel
theorem dX4_great_71 : decode cX4_great 71 = .ok (.ifCond .eq 9, 3) := by decide +kernel
theorem dX4_great_74 : decode cX4_great 74 = .ok (.sipush 369, 3) := by decide +kernel
theorem dX4_great_77 : decode cX4_great 77 = .ok (.goto 4, 3) := by decide +kernel
theorem dX4_great_80 : decode cX4_great 80 = .ok (.iconst 0, 1) := by decide +kernel
theorem dX4_great_81 : decode cX4_great 81 = .ok (.invokevirtual 59, 3) := by decide +kernel
theorem dX4_great_84 : decode cX4_great 84 = .ok (.return_, 1) := by decide +kernel
theorem dX4_is_0 : decode cX4_is 0 = .ok (.aload_n 0, 1) := by decide +kernel
theorem dX4_is_1 : decode cX4_is 1 = .ok (.getfield 7, 3) := by decide +kernel
theorem dX4_is_4 : decode cX4_is 4 = .ok (.iload_n 1, 1) := by decide +kernel
theorem dX4_is_5 : decode cX4_is 5 = .ok (.iaload, 1) := by decide +kernel
theorem dX4_is_6 : decode cX4_is 6 = .ok (.iload_n 2, 1) := by decide +kernel
theorem dX4_is_7 : decode cX4_is 7 = .ok (.if_icmp .ne 7, 3) := by decide +kernel
theorem dX4_is_10 : decode cX4_is 10 = .ok (.iconst 1, 1) := by decide +kernel
theorem dX4_is_11 : decode cX4_is 11 = .ok (.goto 4, 3) := by decide +kernel
theorem dX4_is_14 : decode cX4_is 14 = .ok (.iconst 0, 1) := by decide +kernel
theorem dX4_is_15 : decode cX4_is 15 = .ok (.ireturn, 1) := by decide +kernel
theorem dX4_less_0 : decode cX4_less 0 = .ok (.sipush 899, 3) := by decide +kernel
theorem dX4_less_3 : decode cX4_less 3 = .ok (.istore_n 1, 1) := by decide +kernel
theorem dX4_less_4 : decode cX4_less 4 = .ok (.iload_n 1, 1) := by decide +kernel
theorem dX4_less_5 : decode cX4_less 5 = .ok (.ifCond .lt 45, 3) := by decide +kernel
theorem dX4_less_8 : decode cX4_less 8 = .ok (.aload_n 0, 1) := by decide +kernel
theorem dX4_less_9 : decode cX4_less 9 = .ok (.getfield 24, 3) := by decide +kernel
theorem dX4_less_12 : decode cX4_less 12 = .ok (.iload_n 1, 1) := by decide +kernel
theorem dX4_less_13 : decode cX4_less 13 = .ok (.iaload, 1) := by decide +kernel
theorem dX4_less_14 : decode cX4_less 14 = .ok (.aload_n 0, 1) := by decide +kernel
theorem dX4_less_15 : decode cX4_less 15 = .ok (.getfield 27, 3) := by decide +kernel
theorem dX4_less_18 : decode cX4_less 18 = .ok (.iload_n 1, 1) := by decide +kernel
theorem dX4_less_19 : decode cX4_less 19 = .ok (.iaload, 1) := by decide +kernel
theorem dX4_less_20 : decode cX4_less 20 = .ok (.if_icmp .eq 24, 3) := by decide +kernel
theorem dX4_less_23 : decode cX4_less 23 = .ok (.aload_n 0, 1) := by decide +kernel
theorem dX4_less_24 : decode cX4_less 24 = .ok (.getfield 24, 3) := by decide +kernel
theorem dX4_less_27 : decode cX4_less 27 = .ok (.iload_n 1, 1) := by decide +kernel
theorem dX4_less_28 : decode cX4_less 28 = .ok (.iaload, 1) := by decide +kernel
theorem dX4_less_29 : decode cX4_less 29 = .ok (.aload_n 0, 1) := by decide +kernel
theorem dX4_less_30 : decode cX4_less 30 = .ok (.getfield 27, 3) := by decide +kernel
theorem dX4_less_33 : decode cX4_less 33 = .ok (.iload_n 1, 1) := by decide +kernel
theorem dX4_less_34 : decode cX4_less 34 = .ok (.iaload, 1) := by decide +kernel
theorem dX4_less_35 : decode cX4_less 35 = .ok (.if_icmp .ge 7, 3) := by decide +kernel
theorem dX4_less_38 : decode cX4_less 38 = .ok (.iconst 1, 1) := by decide +kernel
theorem dX4_less_39 : decode cX4_less 39 = .ok (.goto 4, 3) := by decide +kernel
theorem dX4_less_42 : decode cX4_less 42 = .ok (.iconst 0, 1) := by decide +kernel
theorem dX4_less_43 : decode cX4_less 43 = .ok (.ireturn, 1) := by decide +kernel
theorem dX4_less_44 : decode cX4_less 44 = .ok (.iinc 1 (-1), 3) := by decide +kernel
theorem dX4_less_47 : decode cX4_less 47 = .ok (.goto (-43), 3) := by decide +kernel
theorem dX4_less_50 : decode cX4_less 50 = .ok (.iconst 0, 1) := by decide +kernel
theorem dX4_less_51 : decode cX4_less 51 = .ok (.ireturn, 1) := by decide +kernel
theorem dX4_addDigits_0 : decode cX4_addDigits 0 = .ok (.iconst 0, 1) := by decide +kernel
theorem dX4_addDigits_1 : decode cX4_addDigits 1 = .ok (.istore_n 1, 1) := by decide +kernel
theorem dX4_addDigits_2 : decode cX4_addDigits 2 = .ok (.iconst 0, 1) := by decide +kernel
theorem dX4_addDigits_3 : decode cX4_addDigits 3 = .ok (.istore_n 2, 1) := by decide +kernel
theorem dX4_addDigits_4 : decode cX4_addDigits 4 = .ok (.iload_n 2, 1) := by decide +kernel
theorem dX4_addDigits_5 : decode cX4_addDigits 5 = .ok (.sipush 900, 3) := by decide +kernel
theorem dX4_addDigits_8 : decode cX4_addDigits 8 = .ok (.if_icmp .ge 40, 3) := by decide +kernel
theorem dX4_addDigits_11 : decode cX4_addDigits 11 = .ok (.aload_n 0, 1) := by decide +kernel
theorem dX4_addDigits_12 : decode cX4_addDigits 12 = .ok (.getfield 24, 3) := by decide +kernel
theorem dX4_addDigits_15 : decode cX4_addDigits 15 = .ok (.iload_n 2, 1) := by decide +kernel
theorem dX4_addDigits_16 : decode cX4_addDigits 16 = .ok (.iaload, 1) := by decide +kernel
theorem dX4_addDigits_17 : decode cX4_addDigits 17 = .ok (.aload_n 0, 1) := by decide +kernel
theorem dX4_addDigits_18 : decode cX4_addDigits 18 = .ok (.getfield 27, 3) := by decide +kernel
theorem dX4_addDigits_21 : decode cX4_addDigits 21 = .ok (.iload_n 2, 1) := by decide +kernel
theorem dX4_addDigits_22 : decode cX4_addDigits 22 = .ok (.iaload, 1) := by decide +kernel
theorem dX4_addDigits_23 : decode cX4_addDigits 23 = .ok (.iadd, 1) := by decide +kernel
theorem dX4_addDigits_24 : decode cX4_addDigits 24 = .ok (.iload_n 1, 1) := by decide +kernel
theorem dX4_addDigits_25 : decode cX4_addDigits 25 = .ok (.iadd, 1) := by decide +kernel
theorem dX4_addDigits_26 : decode cX4_addDigits 26 = .ok (.istore_n 3, 1) := by decide +kernel
theorem dX4_addDigits_27 : decode cX4_addDigits 27 = .ok (.aload_n 0, 1) := by decide +kernel
theorem dX4_addDigits_28 : decode cX4_addDigits 28 = .ok (.getfield 24, 3) := by decide +kernel
theorem dX4_addDigits_31 : decode cX4_addDigits 31 = .ok (.iload_n 2, 1) := by decide +kernel
theorem dX4_addDigits_32 : decode cX4_addDigits 32 = .ok (.iload_n 3, 1) := by decide +kernel
theorem dX4_addDigits_33 : decode cX4_addDigits 33 = .ok (.bipush 10, 2) := by decide +kernel
theorem dX4_addDigits_35 : decode cX4_addDigits 35 = .ok (.irem, 1) := by decide +kernel
theorem dX4_addDigits_36 : decode cX4_addDigits 36 = .ok (.iastore, 1) := by decide +kernel
theorem dX4_addDigits_37 : decode cX4_addDigits 37 = .ok (.iload_n 3, 1) := by decide +kernel
theorem dX4_addDigits_38 : decode cX4_addDigits 38 = .ok (.bipush 10, 2) := by decide +kernel
theorem dX4_addDigits_40 : decode cX4_addDigits 40 = .ok (.idiv, 1) := by decide +kernel
theorem dX4_addDigits_41 : decode cX4_addDigits 41 = .ok (.istore_n 1, 1) := by decide +kernel
theorem dX4_addDigits_42 : decode cX4_addDigits 42 = .ok (.iinc 2 1, 3) := by decide +kernel
theorem dX4_addDigits_45 : decode cX4_addDigits 45 = .ok (.goto (-41), 3) := by decide +kernel
theorem dX4_addDigits_48 : decode cX4_addDigits 48 = .ok (.return_, 1) := by decide +kernel
theorem dX4_subtractDigits_0 : decode cX4_subtractDigits 0 = .ok (.aload_n 0, 1) := by decide +kernel
theorem dX4_subtractDigits_1 : decode cX4_subtractDigits 1 = .ok (.invokevirtual 103, 3) := by decide +kernel
theorem dX4_subtractDigits_4 : decode cX4_subtractDigits 4 = .ok (.istore_n 1, 1) := by decide +kernel
theorem dX4_subtractDigits_5 : decode cX4_subtractDigits 5 = .ok (.iconst 0, 1) := by decide +kernel
theorem dX4_subtractDigits_6 : decode cX4_subtractDigits 6 = .ok (.istore_n 2, 1) := by decide +kernel
theorem dX4_subtractDigits_7 : decode cX4_subtractDigits 7 = .ok (.iconst 0, 1) := by decide +kernel
theorem dX4_subtractDigits_8 : decode cX4_subtractDigits 8 = .ok (.istore_n 3, 1) := by decide +kernel
theorem dX4_subtractDigits_9 : decode cX4_subtractDigits 9 = .ok (.iload_n 3, 1) := by decide +kernel
theorem dX4_subtractDigits_10 : decode cX4_subtractDigits 10 = .ok (.sipush 900, 3) := by decide +kernel
theorem dX4_subtractDigits_13 : decode cX4_subtractDigits 13 = .ok (.if_icmp .ge 78, 3) := by decide +kernel
theorem dX4_subtractDigits_16 : decode cX4_subtractDigits 16 = .ok (.iload_n 1, 1) := by decide +kernel
theorem dX4_subtractDigits_17 : decode cX4_subtractDigits 17 = .ok (.ifCond .eq 19, 3) := by decide +kernel
theorem dX4_subtractDigits_20 : decode cX4_subtractDigits 20 = .ok (.aload_n 0, 1) := by decide +kernel
theorem dX4_subtractDigits_21 : decode cX4_subtractDigits 21 = .ok (.getfield 27, 3) := by decide +kernel
theorem dX4_subtractDigits_24 : decode cX4_subtractDigits 24 = .ok (.iload_n 3, 1) := by decide +kernel
theorem dX4_subtractDigits_25 : decode cX4_subtractDigits 25 = .ok (.iaload, 1) := by decide +kernel
theorem dX4_subtractDigits_26 : decode cX4_subtractDigits 26 = .ok (.aload_n 0, 1) := by decide +kernel
theorem dX4_subtractDigits_27 : decode cX4_subtractDigits 27 = .ok (.getfield 24, 3) := by decide +kernel
theorem dX4_subtractDigits_30 : decode cX4_subtractDigits 30 = .ok (.iload_n 3, 1) := by decide +kernel
theorem dX4_subtractDigits_31 : decode cX4_subtractDigits 31 = .ok (.iaload, 1) := by decide +kernel
theorem dX4_subtractDigits_32 : decode cX4_subtractDigits 32 = .ok (.isub, 1) := by decide +kernel
theorem dX4_subtractDigits_33 : decode cX4_subtractDigits 33 = .ok (.goto 16, 3) := by decide +kernel
theorem dX4_subtractDigits_36 : decode cX4_subtractDigits 36 = .ok (.aload_n 0, 1) := by decide +kernel
theorem dX4_subtractDigits_37 : decode cX4_subtractDigits 37 = .ok (.getfield 24, 3) := by decide +kernel
theorem dX4_subtractDigits_40 : decode cX4_subtractDigits 40 = .ok (.iload_n 3, 1) := by decide +kernel
theorem dX4_subtractDigits_41 : decode cX4_subtractDigits 41 = .ok (.iaload, 1) := by decide +kernel
theorem dX4_subtractDigits_42 : decode cX4_subtractDigits 42 = .ok (.aload_n 0, 1) := by decide +kernel
theorem dX4_subtractDigits_43 : decode cX4_subtractDigits 43 = .ok (.getfield 27, 3) := by decide +kernel
theorem dX4_subtractDigits_46 : decode cX4_subtractDigits 46 = .ok (.iload_n 3, 1) := by decide +kernel
theorem dX4_subtractDigits_47 : decode cX4_subtractDigits 47 = .ok (.iaload, 1) := by decide +kernel
theorem dX4_subtractDigits_48 : decode cX4_subtractDigits 48 = .ok (.isub, 1) := by decide +kernel
theorem dX4_subtractDigits_49 : decode cX4_subtractDigits 49 = .ok (.iload_n 2, 1) := by decide +kernel
theorem dX4_subtractDigits_50 : decode cX4_subtractDigits 50 = .ok (.isub, 1) := by decide +kernel
theorem dX4_subtractDigits_51 : decode cX4_subtractDigits 51 = .ok (.istore 4, 2) := by decide +kernel
theorem dX4_subtractDigits_53 : decode cX4_subtractDigits 53 = .ok (.iload 4, 2) := by decide +kernel
theorem dX4_subtractDigits_55 : decode cX4_subtractDigits 55 = .ok (.ifCond .ge 7, 3) := by decide +kernel
theorem dX4_subtractDigits_58 : decode cX4_subtractDigits 58 = .ok (.iconst 1, 1) := by decide +kernel
theorem dX4_subtractDigits_59 : decode cX4_subtractDigits 59 = .ok (.goto 4, 3) := by decide +kernel
theorem dX4_subtractDigits_62 : decode cX4_subtractDigits 62 = .ok (.iconst 0, 1) := by decide +kernel
theorem dX4_subtractDigits_63 : decode cX4_subtractDigits 63 = .ok (.istore_n 2, 1) := by decide +kernel
theorem dX4_subtractDigits_64 : decode cX4_subtractDigits 64 = .ok (.aload_n 0, 1) := by decide +kernel
theorem dX4_subtractDigits_65 : decode cX4_subtractDigits 65 = .ok (.getfield 24, 3) := by decide +kernel
theorem dX4_subtractDigits_68 : decode cX4_subtractDigits 68 = .ok (.iload_n 3, 1) := by decide +kernel
theorem dX4_subtractDigits_69 : decode cX4_subtractDigits 69 = .ok (.iload 4, 2) := by decide +kernel
theorem dX4_subtractDigits_71 : decode cX4_subtractDigits 71 = .ok (.ifCond .ge 11, 3) := by decide +kernel
theorem dX4_subtractDigits_74 : decode cX4_subtractDigits 74 = .ok (.iload 4, 2) := by decide +kernel
theorem dX4_subtractDigits_76 : decode cX4_subtractDigits 76 = .ok (.bipush 10, 2) := by decide +kernel
theorem dX4_subtractDigits_78 : decode cX4_subtractDigits 78 = .ok (.iadd, 1) := by decide +kernel
theorem dX4_subtractDigits_79 : decode cX4_subtractDigits 79 = .ok (.goto 5, 3) := by decide +kernel
theorem dX4_subtractDigits_82 : decode cX4_subtractDigits 82 = .ok (.iload 4, 2) := by decide +kernel
theorem dX4_subtractDigits_84 : decode cX4_subtractDigits 84 = .ok (.iastore, 1) := by decide +kernel
theorem dX4_subtractDigits_85 : decode cX4_subtractDigits 85 = .ok (.iinc 3 1, 3) := by decide +kernel
theorem dX4_subtractDigits_88 : decode cX4_subtractDigits 88 = .ok (.goto (-79), 3) := by decide +kernel
theorem dX4_subtractDigits_91 : decode cX4_subtractDigits 91 = .ok (.iload_n 1, 1) := by decide +kernel
theorem dX4_subtractDigits_92 : decode cX4_subtractDigits 92 = .ok (.ireturn, 1) := by decide +kernel
theorem dX4_add_0 : decode cX4_add 0 = .ok (.aload_n 0, 1) := by decide +kernel
theorem dX4_add_1 : decode cX4_add 1 = .ok (.getfield 13, 3) := by decide +kernel
theorem dX4_add_4 : decode cX4_add 4 = .ok (.iload_n 2, 1) := by decide +kernel
theorem dX4_add_5 : decode cX4_add 5 = .ok (.baload, 1) := by decide +kernel
theorem dX4_add_6 : decode cX4_add 6 = .ok (.iload_n 3, 1) := by decide +kernel
theorem dX4_add_7 : decode cX4_add 7 = .ok (.if_icmp .eq 7, 3) := by decide +kernel
theorem dX4_add_10 : decode cX4_add 10 = .ok (.iconst 1, 1) := by decide +kernel
theorem dX4_add_11 : decode cX4_add 11 = .ok (.goto 4, 3) := by decide +kernel
theorem dX4_add_14 : decode cX4_add 14 = .ok (.iconst 0, 1) := by decide +kernel
theorem dX4_add_15 : decode cX4_add 15 = .ok (.istore 4, 2) := by decide +kernel
theorem dX4_add_17 : decode cX4_add 17 = .ok (.aload_n 0, 1) := by decide +kernel
theorem dX4_add_18 : decode cX4_add 18 = .ok (.iload_n 1, 1) := by decide +kernel
theorem dX4_add_19 : decode cX4_add 19 = .ok (.iconst 1, 1) := by decide +kernel
theorem dX4_add_20 : decode cX4_add 20 = .ok (.invokevirtual 107, 3) := by decide +kernel
theorem dX4_add_23 : decode cX4_add 23 = .ok (.ifCond .ne 12, 3) := by decide +kernel
theorem dX4_add_26 : decode cX4_add 26 = .ok (.aload_n 0, 1) := by decide +kernel
theorem dX4_add_27 : decode cX4_add 27 = .ok (.iload_n 2, 1) := by decide +kernel
theorem dX4_add_28 : decode cX4_add 28 = .ok (.iconst 1, 1) := by decide +kernel
theorem dX4_add_29 : decode cX4_add 29 = .ok (.invokevirtual 107, 3) := by decide +kernel
theorem dX4_add_32 : decode cX4_add 32 = .ok (.ifCond .eq 67, 3) := by decide +kernel
theorem dX4_add_35 : decode cX4_add 35 = .ok (.aload_n 0, 1) := by decide +kernel
theorem dX4_add_36 : decode cX4_add 36 = .ok (.iload_n 1, 1) := by decide +kernel
theorem dX4_add_37 : decode cX4_add 37 = .ok (.iconst 1, 1) := by decide +kernel
theorem dX4_add_38 : decode cX4_add 38 = .ok (.invokevirtual 107, 3) := by decide +kernel
theorem dX4_add_41 : decode cX4_add 41 = .ok (.ifCond .eq 30, 3) := by decide +kernel
theorem dX4_add_44 : decode cX4_add 44 = .ok (.aload_n 0, 1) := by decide +kernel
theorem dX4_add_45 : decode cX4_add 45 = .ok (.iload_n 2, 1) := by decide +kernel
theorem dX4_add_46 : decode cX4_add 46 = .ok (.iconst 1, 1) := by decide +kernel
theorem dX4_add_47 : decode cX4_add 47 = .ok (.invokevirtual 107, 3) := by decide +kernel
theorem dX4_add_50 : decode cX4_add 50 = .ok (.ifCond .eq 21, 3) := by decide +kernel
theorem dX4_add_53 : decode cX4_add 53 = .ok (.aload_n 0, 1) := by decide +kernel
theorem dX4_add_54 : decode cX4_add 54 = .ok (.getfield 13, 3) := by decide +kernel
theorem dX4_add_57 : decode cX4_add 57 = .ok (.iload_n 1, 1) := by decide +kernel
theorem dX4_add_58 : decode cX4_add 58 = .ok (.baload, 1) := by decide +kernel
theorem dX4_add_59 : decode cX4_add 59 = .ok (.iload 4, 2) := by decide +kernel
theorem dX4_add_61 : decode cX4_add 61 = .ok (.if_icmp .eq 10, 3) := by decide +kernel
theorem dX4_add_64 : decode cX4_add 64 = .ok (.aload_n 0, 1) := by decide +kernel
theorem dX4_add_65 : decode cX4_add 65 = .ok (.invokevirtual 111, 3) := by decide +kernel
theorem dX4_add_68 : decode cX4_add 68 = .ok (.goto 30, 3) := by decide +kernel
theorem dX4_add_71 : decode cX4_add 71 = .ok (.aload_n 0, 1) := by decide +kernel
theorem dX4_add_72 : decode cX4_add 72 = .ok (.iconst 1, 1) := by decide +kernel
theorem dX4_add_73 : decode cX4_add 73 = .ok (.aload_n 0, 1) := by decide +kernel
theorem dX4_add_74 : decode cX4_add 74 = .ok (.iload_n 1, 1) := by decide +kernel
theorem dX4_add_75 : decode cX4_add 75 = .ok (.iconst 1, 1) := by decide +kernel
theorem dX4_add_76 : decode cX4_add 76 = .ok (.invokevirtual 107, 3) := by decide +kernel
theorem dX4_add_79 : decode cX4_add 79 = .ok (.ifCond .eq 12, 3) := by decide +kernel
theorem dX4_add_82 : decode cX4_add 82 = .ok (.aload_n 0, 1) := by decide +kernel
theorem dX4_add_83 : decode cX4_add 83 = .ok (.getfield 13, 3) := by decide +kernel
theorem dX4_add_86 : decode cX4_add 86 = .ok (.iload_n 1, 1) := by decide +kernel
theorem dX4_add_87 : decode cX4_add 87 = .ok (.baload, 1) := by decide +kernel
theorem dX4_add_88 : decode cX4_add 88 = .ok (.goto 5, 3) := by decide +kernel
theorem dX4_add_91 : decode cX4_add 91 = .ok (.iload 4, 2) := by decide +kernel
theorem dX4_add_93 : decode cX4_add 93 = .ok (.lconst 0, 1) := by decide +kernel
theorem dX4_add_94 : decode cX4_add 94 = .ok (.iconst 0, 1) := by decide +kernel
theorem dX4_add_95 : decode cX4_add 95 = .ok (.invokevirtual 59, 3) := by decide +kernel
theorem dX4_add_98 : decode cX4_add 98 = .ok (.return_, 1) := by decide +kernel
theorem dX4_add_99 : decode cX4_add 99 = .ok (.aload_n 0, 1) := by decide +kernel
theorem dX4_add_100 : decode cX4_add 100 = .ok (.aload_n 0, 1) := by decide +kernel
theorem dX4_add_101 : decode cX4_add 101 = .ok (.getfield 21, 3) := by decide +kernel
theorem dX4_add_104 : decode cX4_add 104 = .ok (.iload_n 1, 1) := by decide +kernel
theorem dX4_add_105 : decode cX4_add 105 = .ok (.iaload, 1) := by decide +kernel
theorem dX4_add_106 : decode cX4_add 106 = .ok (.aload_n 0, 1) := by decide +kernel
theorem dX4_add_107 : decode cX4_add 107 = .ok (.getfield 21, 3) := by decide +kernel
theorem dX4_add_110 : decode cX4_add 110 = .ok (.iload_n 2, 1) := by decide +kernel
theorem dX4_add_111 : decode cX4_add 111 = .ok (.iaload, 1) := by decide +kernel
theorem dX4_add_112 : decode cX4_add 112 = .ok (.if_icmp .ge 12, 3) := by decide +kernel
theorem dX4_add_115 : decode cX4_add 115 = .ok (.aload_n 0, 1) := by decide +kernel
theorem dX4_add_116 : decode cX4_add 116 = .ok (.getfield 21, 3) := by decide +kernel
theorem dX4_add_119 : decode cX4_add 119 = .ok (.iload_n 1, 1) := by decide +kernel
theorem dX4_add_120 : decode cX4_add 120 = .ok (.iaload, 1) := by decide +kernel
theorem dX4_add_121 : decode cX4_add 121 = .ok (.goto 9, 3) := by decide +kernel
theorem dX4_add_124 : decode cX4_add 124 = .ok (.aload_n 0, 1) := by decide +kernel
theorem dX4_add_125 : decode cX4_add 125 = .ok (.getfield 21, 3) := by decide +kernel
theorem dX4_add_128 : decode cX4_add 128 = .ok (.iload_n 2, 1) := by decide +kernel
theorem dX4_add_129 : decode cX4_add 129 = .ok (.iaload, 1) := by decide +kernel
theorem dX4_add_130 : decode cX4_add 130 = .ok (.putfield 86, 3) := by decide +kernel
theorem dX4_add_133 : decode cX4_add 133 = .ok (.aload_n 0, 1) := by decide +kernel
theorem dX4_add_134 : decode cX4_add 134 = .ok (.iconst 0, 1) := by decide +kernel
theorem dX4_add_135 : decode cX4_add 135 = .ok (.putfield 71, 3) := by decide +kernel
theorem dX4_add_138 : decode cX4_add 138 = .ok (.aload_n 0, 1) := by decide +kernel
theorem dX4_add_139 : decode cX4_add 139 = .ok (.aload_n 0, 1) := by decide +kernel
theorem dX4_add_140 : decode cX4_add 140 = .ok (.getfield 17, 3) := by decide +kernel
theorem dX4_add_143 : decode cX4_add 143 = .ok (.iload_n 1, 1) := by decide +kernel
theorem dX4_add_144 : decode cX4_add 144 = .ok (.laload, 1) := by decide +kernel
theorem dX4_add_145 : decode cX4_add 145 = .ok (.aload_n 0, 1) := by decide +kernel
theorem dX4_add_146 : decode cX4_add 146 = .ok (.getfield 21, 3) := by decide +kernel
theorem dX4_add_149 : decode cX4_add 149 = .ok (.iload_n 1, 1) := by decide +kernel
theorem dX4_add_150 : decode cX4_add 150 = .ok (.iaload, 1) := by decide +kernel
theorem dX4_add_151 : decode cX4_add 151 = .ok (.aload_n 0, 1) := by decide +kernel
theorem dX4_add_152 : decode cX4_add 152 = .ok (.getfield 86, 3) := by decide +kernel
theorem dX4_add_155 : decode cX4_add 155 = .ok (.isub, 1) := by decide +kernel
theorem dX4_add_156 : decode cX4_add 156 = .ok (.invokevirtual 114, 3) := by decide +kernel
theorem dX4_add_159 : decode cX4_add 159 = .ok (.aload_n 0, 1) := by decide +kernel
theorem dX4_add_160 : decode cX4_add 160 = .ok (.aload_n 0, 1) := by decide +kernel
theorem dX4_add_161 : decode cX4_add 161 = .ok (.getfield 17, 3) := by decide +kernel
theorem dX4_add_164 : decode cX4_add 164 = .ok (.iload_n 2, 1) := by decide +kernel
theorem dX4_add_165 : decode cX4_add 165 = .ok (.laload, 1) := by decide +kernel
theorem dX4_add_166 : decode cX4_add 166 = .ok (.aload_n 0, 1) := by decide +kernel
theorem dX4_add_167 : decode cX4_add 167 = .ok (.getfield 21, 3) := by decide +kernel
theorem dX4_add_170 : decode cX4_add 170 = .ok (.iload_n 2, 1) := by decide +kernel
theorem dX4_add_171 : decode cX4_add 171 = .ok (.iaload, 1) := by decide +kernel
theorem dX4_add_172 : decode cX4_add 172 = .ok (.aload_n 0, 1) := by decide +kernel
theorem dX4_add_173 : decode cX4_add 173 = .ok (.getfield 86, 3) := by decide +kernel
theorem dX4_add_176 : decode cX4_add 176 = .ok (.isub, 1) := by decide +kernel
theorem dX4_add_177 : decode cX4_add 177 = .ok (.invokevirtual 118, 3) := by decide +kernel
theorem dX4_add_180 : decode cX4_add 180 = .ok (.aload_n 0, 1) := by decide +kernel
theorem dX4_add_181 : decode cX4_add 181 = .ok (.getfield 13, 3) := by decide +kernel
theorem dX4_add_184 : decode cX4_add 184 = .ok (.iload_n 1, 1) := by decide +kernel
theorem dX4_add_185 : decode cX4_add 185 = .ok (.baload, 1) := by decide +kernel
theorem dX4_add_186 : decode cX4_add 186 = .ok (.istore 5, 2) := by decide +kernel
theorem dX4_add_188 : decode cX4_add 188 = .ok (.aload_n 0, 1) := by decide +kernel
theorem dX4_add_189 : decode cX4_add 189 = .ok (.getfield 13, 3) := by decide +kernel
theorem dX4_add_192 : decode cX4_add 192 = .ok (.iload_n 1, 1) := by decide +kernel
theorem dX4_add_193 : decode cX4_add 193 = .ok (.baload, 1) := by decide +kernel
theorem dX4_add_194 : decode cX4_add 194 = .ok (.iload 4, 2) := by decide +kernel
theorem dX4_add_196 : decode cX4_add 196 = .ok (.if_icmp .ne 10, 3) := by decide +kernel
theorem dX4_add_199 : decode cX4_add 199 = .ok (.aload_n 0, 1) := by decide +kernel
theorem dX4_add_200 : decode cX4_add 200 = .ok (.invokevirtual 121, 3) := by decide +kernel
theorem dX4_add_203 : decode cX4_add 203 = .ok (.goto 14, 3) := by decide +kernel
theorem dX4_add_206 : decode cX4_add 206 = .ok (.aload_n 0, 1) := by decide +kernel
theorem dX4_add_207 : decode cX4_add 207 = .ok (.invokevirtual 124, 3) := by decide +kernel
theorem dX4_add_210 : decode cX4_add 210 = .ok (.ifCond .eq 7, 3) := by decide +kernel
theorem dX4_add_213 : decode cX4_add 213 = .ok (.iload 4, 2) := by decide +kernel
theorem dX4_add_215 : decode cX4_add 215 = .ok (.istore 5, 2) := by decide +kernel
theorem dX4_add_217 : decode cX4_add 217 = .ok (.aload_n 0, 1) := by decide +kernel
theorem dX4_add_218 : decode cX4_add 218 = .ok (.invokevirtual 79, 3) := by decide +kernel
theorem dX4_add_221 : decode cX4_add 221 = .ok (.aload_n 0, 1) := by decide +kernel
theorem dX4_add_222 : decode cX4_add 222 = .ok (.getfield 39, 3) := by decide +kernel
theorem dX4_add_225 : decode cX4_add 225 = .ok (.ifCond .ne 38, 3) := by decide +kernel
theorem dX4_add_228 : decode cX4_add 228 = .ok (.aload_n 0, 1) := by decide +kernel
theorem dX4_add_229 : decode cX4_add 229 = .ok (.getfield 13, 3) := by decide +kernel
theorem dX4_add_232 : decode cX4_add 232 = .ok (.iload_n 1, 1) := by decide +kernel
theorem dX4_add_233 : decode cX4_add 233 = .ok (.baload, 1) := by decide +kernel
theorem dX4_add_234 : decode cX4_add 234 = .ok (.iload 4, 2) := by decide +kernel
theorem dX4_add_236 : decode cX4_add 236 = .ok (.if_icmp .ne 12, 3) := by decide +kernel
theorem dX4_add_239 : decode cX4_add 239 = .ok (.aload_n 0, 1) := by decide +kernel
theorem dX4_add_240 : decode cX4_add 240 = .ok (.getfield 13, 3) := by decide +kernel
theorem dX4_add_243 : decode cX4_add 243 = .ok (.iload_n 1, 1) := by decide +kernel
theorem dX4_add_244 : decode cX4_add 244 = .ok (.baload, 1) := by decide +kernel
theorem dX4_add_245 : decode cX4_add 245 = .ok (.goto 16, 3) := by decide +kernel
theorem dX4_add_248 : decode cX4_add 248 = .ok (.aload_n 0, 1) := by decide +kernel
theorem dX4_add_249 : decode cX4_add 249 = .ok (.getfield 74, 3) := by decide +kernel
theorem dX4_add_252 : decode cX4_add 252 = .ok (.iconst 4, 1) := by decide +kernel
theorem dX4_add_253 : decode cX4_add 253 = .ok (.if_icmp .ne 7, 3) := by decide +kernel
theorem dX4_add_256 : decode cX4_add 256 = .ok (.iconst 1, 1) := by decide +kernel
theorem dX4_add_257 : decode cX4_add 257 = .ok (.goto 4, 3) := by decide +kernel
theorem dX4_add_260 : decode cX4_add 260 = .ok (.iconst 0, 1) := by decide +kernel
theorem dX4_add_261 : decode cX4_add 261 = .ok (.istore 5, 2) := by decide +kernel
theorem dX4_add_263 : decode cX4_add 263 = .ok (.aload_n 0, 1) := by decide +kernel
theorem dX4_add_264 : decode cX4_add 264 = .ok (.iload 5, 2) := by decide +kernel
theorem dX4_add_266 : decode cX4_add 266 = .ok (.aload_n 0, 1) := by decide +kernel
theorem dX4_add_267 : decode cX4_add 267 = .ok (.getfield 86, 3) := by decide +kernel
theorem dX4_add_270 : decode cX4_add 270 = .ok (.invokevirtual 127, 3) := by decide +kernel
theorem dX4_add_273 : decode cX4_add 273 = .ok (.return_, 1) := by decide +kernel
theorem dX4_multiply_0 : decode cX4_multiply 0 = .ok (.aload_n 0, 1) := by decide +kernel
theorem dX4_multiply_1 : decode cX4_multiply 1 = .ok (.getfield 13, 3) := by decide +kernel
theorem dX4_multiply_4 : decode cX4_multiply 4 = .ok (.iload_n 1, 1) := by decide +kernel
theorem dX4_multiply_5 : decode cX4_multiply 5 = .ok (.baload, 1) := by decide +kernel
theorem dX4_multiply_6 : decode cX4_multiply 6 = .ok (.aload_n 0, 1) := by decide +kernel
theorem dX4_multiply_7 : decode cX4_multiply 7 = .ok (.getfield 13, 3) := by decide +kernel
theorem dX4_multiply_10 : decode cX4_multiply 10 = .ok (.iload_n 2, 1) := by decide +kernel
theorem dX4_multiply_11 : decode cX4_multiply 11 = .ok (.baload, 1) := by decide +kernel
theorem dX4_multiply_12 : decode cX4_multiply 12 = .ok (.if_icmp .eq 7, 3) := by decide +kernel
theorem dX4_multiply_15 : decode cX4_multiply 15 = .ok (.iconst 1, 1) := by decide +kernel
theorem dX4_multiply_16 : decode cX4_multiply 16 = .ok (.goto 4, 3) := by decide +kernel
theorem dX4_multiply_19 : decode cX4_multiply 19 = .ok (.iconst 0, 1) := by decide +kernel
theorem dX4_multiply_20 : decode cX4_multiply 20 = .ok (.istore_n 3, 1) := by decide +kernel
theorem dX4_multiply_21 : decode cX4_multiply 21 = .ok (.aload_n 0, 1) := by decide +kernel
theorem dX4_multiply_22 : decode cX4_multiply 22 = .ok (.iload_n 1, 1) := by decide +kernel
theorem dX4_multiply_23 : decode cX4_multiply 23 = .ok (.iconst 1, 1) := by decide +kernel
theorem dX4_multiply_24 : decode cX4_multiply 24 = .ok (.invokevirtual 107, 3) := by decide +kernel
theorem dX4_multiply_27 : decode cX4_multiply 27 = .ok (.ifCond .ne 12, 3) := by decide +kernel
theorem dX4_multiply_30 : decode cX4_multiply 30 = .ok (.aload_n 0, 1) := by decide +kernel
theorem dX4_multiply_31 : decode cX4_multiply 31 = .ok (.iload_n 2, 1) := by decide +kernel
theorem dX4_multiply_32 : decode cX4_multiply 32 = .ok (.iconst 1, 1) := by decide +kernel
theorem dX4_multiply_33 : decode cX4_multiply 33 = .ok (.invokevirtual 107, 3) := by decide +kernel
theorem dX4_multiply_36 : decode cX4_multiply 36 = .ok (.ifCond .eq 7, 3) := by decide +kernel
theorem dX4_multiply_39 : decode cX4_multiply 39 = .ok (.iconst 1, 1) := by decide +kernel
theorem dX4_multiply_40 : decode cX4_multiply 40 = .ok (.goto 4, 3) := by decide +kernel
theorem dX4_multiply_43 : decode cX4_multiply 43 = .ok (.iconst 0, 1) := by decide +kernel
theorem dX4_multiply_44 : decode cX4_multiply 44 = .ok (.istore 4, 2) := by decide +kernel
theorem dX4_multiply_46 : decode cX4_multiply 46 = .ok (.aload_n 0, 1) := by decide +kernel
theorem dX4_multiply_47 : decode cX4_multiply 47 = .ok (.iload_n 1, 1) := by decide +kernel
theorem dX4_multiply_48 : decode cX4_multiply 48 = .ok (.iconst 0, 1) := by decide +kernel
theorem dX4_multiply_49 : decode cX4_multiply 49 = .ok (.invokevirtual 107, 3) := by decide +kernel
theorem dX4_multiply_52 : decode cX4_multiply 52 = .ok (.ifCond .eq 14, 3) := by decide +kernel
theorem dX4_multiply_55 : decode cX4_multiply 55 = .ok (.aload_n 0, 1) := by decide +kernel
theorem dX4_multiply_56 : decode cX4_multiply 56 = .ok (.getfield 17, 3) := by decide +kernel
theorem dX4_multiply_59 : decode cX4_multiply 59 = .ok (.iload_n 1, 1) := by decide +kernel
theorem dX4_multiply_60 : decode cX4_multiply 60 = .ok (.laload, 1) := by decide +kernel
theorem dX4_multiply_61 : decode cX4_multiply 61 = .ok (.lconst 0, 1) := by decide +kernel
theorem dX4_multiply_62 : decode cX4_multiply 62 = .ok (.lcmp, 1) := by decide +kernel
theorem dX4_multiply_63 : decode cX4_multiply 63 = .ok (.ifCond .eq 23, 3) := by decide +kernel
theorem dX4_multiply_66 : decode cX4_multiply 66 = .ok (.aload_n 0, 1) := by decide +kernel
theorem dX4_multiply_67 : decode cX4_multiply 67 = .ok (.iload_n 2, 1) := by decide +kernel
theorem dX4_multiply_68 : decode cX4_multiply 68 = .ok (.iconst 0, 1) := by decide +kernel
theorem dX4_multiply_69 : decode cX4_multiply 69 = .ok (.invokevirtual 107, 3) := by decide +kernel
theorem dX4_multiply_72 : decode cX4_multiply 72 = .ok (.ifCond .eq 18, 3) := by decide +kernel
theorem dX4_multiply_75 : decode cX4_multiply 75 = .ok (.aload_n 0, 1) := by decide +kernel
theorem dX4_multiply_76 : decode cX4_multiply 76 = .ok (.getfield 17, 3) := by decide +kernel
theorem dX4_multiply_79 : decode cX4_multiply 79 = .ok (.iload_n 2, 1) := by decide +kernel
theorem dX4_multiply_80 : decode cX4_multiply 80 = .ok (.laload, 1) := by decide +kernel
theorem dX4_multiply_81 : decode cX4_multiply 81 = .ok (.lconst 0, 1) := by decide +kernel
theorem dX4_multiply_82 : decode cX4_multiply 82 = .ok (.lcmp, 1) := by decide +kernel
theorem dX4_multiply_83 : decode cX4_multiply 83 = .ok (.ifCond .ne 7, 3) := by decide +kernel
theorem dX4_multiply_86 : decode cX4_multiply 86 = .ok (.iconst 1, 1) := by decide +kernel
theorem dX4_multiply_87 : decode cX4_multiply 87 = .ok (.goto 4, 3) := by decide +kernel
theorem dX4_multiply_90 : decode cX4_multiply 90 = .ok (.iconst 0, 1) := by decide +kernel
theorem dX4_multiply_91 : decode cX4_multiply 91 = .ok (.istore 5, 2) := by decide +kernel
theorem dX4_multiply_93 : decode cX4_multiply 93 = .ok (.iload 4, 2) := by decide +kernel
theorem dX4_multiply_95 : decode cX4_multiply 95 = .ok (.ifCond .eq 15, 3) := by decide +kernel
theorem dX4_multiply_98 : decode cX4_multiply 98 = .ok (.iload 5, 2) := by decide +kernel
theorem dX4_multiply_100 : decode cX4_multiply 100 = .ok (.ifCond .eq 10, 3) := by decide +kernel
theorem dX4_multiply_103 : decode cX4_multiply 103 = .ok (.aload_n 0, 1) := by decide +kernel
theorem dX4_multiply_104 : decode cX4_multiply 104 = .ok (.invokevirtual 111, 3) := by decide +kernel
theorem dX4_multiply_107 : decode cX4_multiply 107 = .ok (.goto 195, 3) := by decide +kernel
theorem dX4_multiply_110 : decode cX4_multiply 110 = .ok (.iload 4, 2) := by decide +kernel
theorem dX4_multiply_112 : decode cX4_multiply 112 = .ok (.ifCond .eq 14, 3) := by decide +kernel
theorem dX4_multiply_115 : decode cX4_multiply 115 = .ok (.aload_n 0, 1) := by decide +kernel
theorem dX4_multiply_116 : decode cX4_multiply 116 = .ok (.iconst 1, 1) := by decide +kernel
theorem dX4_multiply_117 : decode cX4_multiply 117 = .ok (.iload_n 3, 1) := by decide +kernel
theorem dX4_multiply_118 : decode cX4_multiply 118 = .ok (.lconst 0, 1) := by decide +kernel
theorem dX4_multiply_119 : decode cX4_multiply 119 = .ok (.iconst 0, 1) := by decide +kernel
theorem dX4_multiply_120 : decode cX4_multiply 120 = .ok (.invokevirtual 59, 3) := by decide +kernel
theorem dX4_multiply_123 : decode cX4_multiply 123 = .ok (.goto 179, 3) := by decide +kernel
theorem dX4_multiply_126 : decode cX4_multiply 126 = .ok (.aload_n 0, 1) := by decide +kernel
theorem dX4_multiply_127 : decode cX4_multiply 127 = .ok (.aload_n 0, 1) := by decide +kernel
theorem dX4_multiply_128 : decode cX4_multiply 128 = .ok (.getfield 17, 3) := by decide +kernel
theorem dX4_multiply_131 : decode cX4_multiply 131 = .ok (.iload_n 2, 1) := by decide +kernel
theorem dX4_multiply_132 : decode cX4_multiply 132 = .ok (.laload, 1) := by decide +kernel
theorem dX4_multiply_133 : decode cX4_multiply 133 = .ok (.iconst 0, 1) := by decide +kernel
theorem dX4_multiply_134 : decode cX4_multiply 134 = .ok (.invokevirtual 118, 3) := by decide +kernel
theorem dX4_multiply_137 : decode cX4_multiply 137 = .ok (.aload_n 0, 1) := by decide +kernel
theorem dX4_multiply_138 : decode cX4_multiply 138 = .ok (.getfield 17, 3) := by decide +kernel
theorem dX4_multiply_141 : decode cX4_multiply 141 = .ok (.iload_n 1, 1) := by decide +kernel
theorem dX4_multiply_142 : decode cX4_multiply 142 = .ok (.laload, 1) := by decide +kernel
theorem dX4_multiply_143 : decode cX4_multiply 143 = .ok (.lstore 6, 2) := by decide +kernel
theorem dX4_multiply_145 : decode cX4_multiply 145 = .ok (.aload_n 0, 1) := by decide +kernel
theorem dX4_multiply_146 : decode cX4_multiply 146 = .ok (.invokevirtual 34, 3) := by decide +kernel
theorem dX4_multiply_149 : decode cX4_multiply 149 = .ok (.iconst 0, 1) := by decide +kernel
theorem dX4_multiply_150 : decode cX4_multiply 150 = .ok (.istore 8, 2) := by decide +kernel
theorem dX4_multiply_152 : decode cX4_multiply 152 = .ok (.lload 6, 2) := by decide +kernel
theorem dX4_multiply_154 : decode cX4_multiply 154 = .ok (.lconst 0, 1) := by decide +kernel
theorem dX4_multiply_155 : decode cX4_multiply 155 = .ok (.lcmp, 1) := by decide +kernel
theorem dX4_multiply_156 : decode cX4_multiply 156 = .ok (.ifCond .le 65, 3) := by decide +kernel
theorem dX4_multiply_159 : decode cX4_multiply 159 = .ok (.lload 6, 2) := by decide +kernel
theorem dX4_multiply_161 : decode cX4_multiply 161 = .ok (.ldc2_w 37, 3) := by decide +kernel
theorem dX4_multiply_164 : decode cX4_multiply 164 = .ok (.lrem, 1) := by decide +kernel
theorem dX4_multiply_165 : decode cX4_multiply 165 = .ok (.l2i, 1) := by decide +kernel
theorem dX4_multiply_166 : decode cX4_multiply 166 = .ok (.istore 9, 2) := by decide +kernel
theorem dX4_multiply_168 : decode cX4_multiply 168 = .ok (.lload 6, 2) := by decide +kernel
theorem dX4_multiply_170 : decode cX4_multiply 170 = .ok (.ldc2_w 37, 3) := by decide +kernel
theorem dX4_multiply_173 : decode cX4_multiply 173 = .ok (.ldiv, 1) := by decide +kernel
theorem dX4_multiply_174 : decode cX4_multiply 174 = .ok (.lstore 6, 2) := by decide +kernel
theorem dX4_multiply_176 : decode cX4_multiply 176 = .ok (.iconst 0, 1) := by decide +kernel
theorem dX4_multiply_177 : decode cX4_multiply 177 = .ok (.istore 10, 2) := by decide +kernel
theorem dX4_multiply_179 : decode cX4_multiply 179 = .ok (.iload 10, 2) := by decide +kernel
theorem dX4_multiply_181 : decode cX4_multiply 181 = .ok (.bipush 16, 2) := by decide +kernel
theorem dX4_multiply_183 : decode cX4_multiply 183 = .ok (.if_icmp .ge 32, 3) := by decide +kernel
theorem dX4_multiply_186 : decode cX4_multiply 186 = .ok (.aload_n 0, 1) := by decide +kernel
theorem dX4_multiply_187 : decode cX4_multiply 187 = .ok (.getfield 24, 3) := by decide +kernel
theorem dX4_multiply_190 : decode cX4_multiply 190 = .ok (.iload 8, 2) := by decide +kernel
theorem dX4_multiply_192 : decode cX4_multiply 192 = .ok (.iload 10, 2) := by decide +kernel
theorem dX4_multiply_194 : decode cX4_multiply 194 = .ok (.iadd, 1) := by decide +kernel
theorem dX4_multiply_195 : decode cX4_multiply 195 = .ok (.dup2, 1) := by decide +kernel
theorem dX4_multiply_196 : decode cX4_multiply 196 = .ok (.iaload, 1) := by decide +kernel
theorem dX4_multiply_197 : decode cX4_multiply 197 = .ok (.iload 9, 2) := by decide +kernel
theorem dX4_multiply_199 : decode cX4_multiply 199 = .ok (.aload_n 0, 1) := by decide +kernel
theorem dX4_multiply_200 : decode cX4_multiply 200 = .ok (.getfield 27, 3) := by decide +kernel
theorem dX4_multiply_203 : decode cX4_multiply 203 = .ok (.iload 10, 2) := by decide +kernel
theorem dX4_multiply_205 : decode cX4_multiply 205 = .ok (.iaload, 1) := by decide +kernel
theorem dX4_multiply_206 : decode cX4_multiply 206 = .ok (.imul, 1) := by decide +kernel
theorem dX4_multiply_207 : decode cX4_multiply 207 = .ok (.iadd, 1) := by decide +kernel
theorem dX4_multiply_208 : decode cX4_multiply 208 = .ok (.iastore, 1) := by decide +kernel
theorem dX4_multiply_209 : decode cX4_multiply 209 = .ok (.iinc 10 1, 3) := by decide +kernel
theorem dX4_multiply_212 : decode cX4_multiply 212 = .ok (.goto (-33), 3) := by decide +kernel
theorem dX4_multiply_215 : decode cX4_multiply 215 = .ok (.iinc 8 1, 3) := by decide +kernel
theorem dX4_multiply_218 : decode cX4_multiply 218 = .ok (.goto (-66), 3) := by decide +kernel
theorem dX4_multiply_221 : decode cX4_multiply 221 = .ok (.iconst 0, 1) := by decide +kernel
theorem dX4_multiply_222 : decode cX4_multiply 222 = .ok (.istore 8, 2) := by decide +kernel
theorem dX4_multiply_224 : decode cX4_multiply 224 = .ok (.iconst 0, 1) := by decide +kernel
theorem dX4_multiply_225 : decode cX4_multiply 225 = .ok (.istore 9, 2) := by decide +kernel
theorem dX4_multiply_227 : decode cX4_multiply 227 = .ok (.iload 9, 2) := by decide +kernel
theorem dX4_multiply_229 : decode cX4_multiply 229 = .ok (.bipush 40, 2) := by decide +kernel
theorem dX4_multiply_231 : decode cX4_multiply 231 = .ok (.if_icmp .ge 40, 3) := by decide +kernel
theorem dX4_multiply_234 : decode cX4_multiply 234 = .ok (.aload_n 0, 1) := by decide +kernel
theorem dX4_multiply_235 : decode cX4_multiply 235 = .ok (.getfield 24, 3) := by decide +kernel
theorem dX4_multiply_238 : decode cX4_multiply 238 = .ok (.iload 9, 2) := by decide +kernel
theorem dX4_multiply_240 : decode cX4_multiply 240 = .ok (.iaload, 1) := by decide +kernel
theorem dX4_multiply_241 : decode cX4_multiply 241 = .ok (.iload 8, 2) := by decide +kernel
theorem dX4_multiply_243 : decode cX4_multiply 243 = .ok (.iadd, 1) := by decide +kernel
theorem dX4_multiply_244 : decode cX4_multiply 244 = .ok (.istore 10, 2) := by decide +kernel
theorem dX4_multiply_246 : decode cX4_multiply 246 = .ok (.aload_n 0, 1) := by decide +kernel
theorem dX4_multiply_247 : decode cX4_multiply 247 = .ok (.getfield 24, 3) := by decide +kernel
theorem dX4_multiply_250 : decode cX4_multiply 250 = .ok (.iload 9, 2) := by decide +kernel
theorem dX4_multiply_252 : decode cX4_multiply 252 = .ok (.iload 10, 2) := by decide +kernel
theorem dX4_multiply_254 : decode cX4_multiply 254 = .ok (.bipush 10, 2) := by decide +kernel
theorem dX4_multiply_256 : decode cX4_multiply 256 = .ok (.irem, 1) := by decide +kernel
theorem dX4_multiply_257 : decode cX4_multiply 257 = .ok (.iastore, 1) := by decide +kernel
theorem dX4_multiply_258 : decode cX4_multiply 258 = .ok (.iload 10, 2) := by decide +kernel
theorem dX4_multiply_260 : decode cX4_multiply 260 = .ok (.bipush 10, 2) := by decide +kernel
theorem dX4_multiply_262 : decode cX4_multiply 262 = .ok (.idiv, 1) := by decide +kernel
theorem dX4_multiply_263 : decode cX4_multiply 263 = .ok (.istore 8, 2) := by decide +kernel
theorem dX4_multiply_265 : decode cX4_multiply 265 = .ok (.iinc 9 1, 3) := by decide +kernel
theorem dX4_multiply_268 : decode cX4_multiply 268 = .ok (.goto (-41), 3) := by decide +kernel
theorem dX4_multiply_271 : decode cX4_multiply 271 = .ok (.aload_n 0, 1) := by decide +kernel
theorem dX4_multiply_272 : decode cX4_multiply 272 = .ok (.aload_n 0, 1) := by decide +kernel
theorem dX4_multiply_273 : decode cX4_multiply 273 = .ok (.getfield 21, 3) := by decide +kernel
theorem dX4_multiply_276 : decode cX4_multiply 276 = .ok (.iload_n 1, 1) := by decide +kernel
theorem dX4_multiply_277 : decode cX4_multiply 277 = .ok (.iaload, 1) := by decide +kernel
theorem dX4_multiply_278 : decode cX4_multiply 278 = .ok (.aload_n 0, 1) := by decide +kernel
theorem dX4_multiply_279 : decode cX4_multiply 279 = .ok (.getfield 21, 3) := by decide +kernel
theorem dX4_multiply_282 : decode cX4_multiply 282 = .ok (.iload_n 2, 1) := by decide +kernel
theorem dX4_multiply_283 : decode cX4_multiply 283 = .ok (.iaload, 1) := by decide +kernel
theorem dX4_multiply_284 : decode cX4_multiply 284 = .ok (.iadd, 1) := by decide +kernel
theorem dX4_multiply_285 : decode cX4_multiply 285 = .ok (.putfield 86, 3) := by decide +kernel
theorem dX4_multiply_288 : decode cX4_multiply 288 = .ok (.aload_n 0, 1) := by decide +kernel
theorem dX4_multiply_289 : decode cX4_multiply 289 = .ok (.iconst 0, 1) := by decide +kernel
theorem dX4_multiply_290 : decode cX4_multiply 290 = .ok (.putfield 71, 3) := by decide +kernel
theorem dX4_multiply_293 : decode cX4_multiply 293 = .ok (.aload_n 0, 1) := by decide +kernel
theorem dX4_multiply_294 : decode cX4_multiply 294 = .ok (.iload_n 3, 1) := by decide +kernel
theorem dX4_multiply_295 : decode cX4_multiply 295 = .ok (.aload_n 0, 1) := by decide +kernel
theorem dX4_multiply_296 : decode cX4_multiply 296 = .ok (.getfield 86, 3) := by decide +kernel
theorem dX4_multiply_299 : decode cX4_multiply 299 = .ok (.invokevirtual 127, 3) := by decide +kernel
theorem dX4_multiply_302 : decode cX4_multiply 302 = .ok (.return_, 1) := by decide +kernel
theorem dX4_divide_0 : decode cX4_divide 0 = .ok (.aload_n 0, 1) := by decide +kernel
theorem dX4_divide_1 : decode cX4_divide 1 = .ok (.getfield 13, 3) := by decide +kernel
theorem dX4_divide_4 : decode cX4_divide 4 = .ok (.iload_n 1, 1) := by decide +kernel
theorem dX4_divide_5 : decode cX4_divide 5 = .ok (.baload, 1) := by decide +kernel
theorem dX4_divide_6 : decode cX4_divide 6 = .ok (.aload_n 0, 1) := by decide +kernel
theorem dX4_divide_7 : decode cX4_divide 7 = .ok (.getfield 13, 3) := by decide +kernel
theorem dX4_divide_10 : decode cX4_divide 10 = .ok (.iload_n 2, 1) := by decide +kernel
theorem dX4_divide_11 : decode cX4_divide 11 = .ok (.baload, 1) := by decide +kernel
theorem dX4_divide_12 : decode cX4_divide 12 = .ok (.if_icmp .eq 7, 3) := by decide +kernel
theorem dX4_divide_15 : decode cX4_divide 15 = .ok (.iconst 1, 1) := by decide +kernel
theorem dX4_divide_16 : decode cX4_divide 16 = .ok (.goto 4, 3) := by decide +kernel
theorem dX4_divide_19 : decode cX4_divide 19 = .ok (.iconst 0, 1) := by decide +kernel
theorem dX4_divide_20 : decode cX4_divide 20 = .ok (.istore_n 3, 1) := by decide +kernel
theorem dX4_divide_21 : decode cX4_divide 21 = .ok (.aload_n 0, 1) := by decide +kernel
theorem dX4_divide_22 : decode cX4_divide 22 = .ok (.iload_n 1, 1) := by decide +kernel
theorem dX4_divide_23 : decode cX4_divide 23 = .ok (.iconst 0, 1) := by decide +kernel
theorem dX4_divide_24 : decode cX4_divide 24 = .ok (.invokevirtual 107, 3) := by decide +kernel
theorem dX4_divide_27 : decode cX4_divide 27 = .ok (.ifCond .eq 18, 3) := by decide +kernel
theorem dX4_divide_30 : decode cX4_divide 30 = .ok (.aload_n 0, 1) := by decide +kernel
theorem dX4_divide_31 : decode cX4_divide 31 = .ok (.getfield 17, 3) := by decide +kernel
theorem dX4_divide_34 : decode cX4_divide 34 = .ok (.iload_n 1, 1) := by decide +kernel
theorem dX4_divide_35 : decode cX4_divide 35 = .ok (.laload, 1) := by decide +kernel
theorem dX4_divide_36 : decode cX4_divide 36 = .ok (.lconst 0, 1) := by decide +kernel
theorem dX4_divide_37 : decode cX4_divide 37 = .ok (.lcmp, 1) := by decide +kernel
theorem dX4_divide_38 : decode cX4_divide 38 = .ok (.ifCond .ne 7, 3) := by decide +kernel
theorem dX4_divide_41 : decode cX4_divide 41 = .ok (.iconst 1, 1) := by decide +kernel
theorem dX4_divide_42 : decode cX4_divide 42 = .ok (.goto 4, 3) := by decide +kernel
theorem dX4_divide_45 : decode cX4_divide 45 = .ok (.iconst 0, 1) := by decide +kernel
theorem dX4_divide_46 : decode cX4_divide 46 = .ok (.istore 4, 2) := by decide +kernel
theorem dX4_divide_48 : decode cX4_divide 48 = .ok (.aload_n 0, 1) := by decide +kernel
theorem dX4_divide_49 : decode cX4_divide 49 = .ok (.iload_n 2, 1) := by decide +kernel
theorem dX4_divide_50 : decode cX4_divide 50 = .ok (.iconst 0, 1) := by decide +kernel
theorem dX4_divide_51 : decode cX4_divide 51 = .ok (.invokevirtual 107, 3) := by decide +kernel
theorem dX4_divide_54 : decode cX4_divide 54 = .ok (.ifCond .eq 18, 3) := by decide +kernel
theorem dX4_divide_57 : decode cX4_divide 57 = .ok (.aload_n 0, 1) := by decide +kernel
theorem dX4_divide_58 : decode cX4_divide 58 = .ok (.getfield 17, 3) := by decide +kernel
theorem dX4_divide_61 : decode cX4_divide 61 = .ok (.iload_n 2, 1) := by decide +kernel
theorem dX4_divide_62 : decode cX4_divide 62 = .ok (.laload, 1) := by decide +kernel
theorem dX4_divide_63 : decode cX4_divide 63 = .ok (.lconst 0, 1) := by decide +kernel
theorem dX4_divide_64 : decode cX4_divide 64 = .ok (.lcmp, 1) := by decide +kernel
theorem dX4_divide_65 : decode cX4_divide 65 = .ok (.ifCond .ne 7, 3) := by decide +kernel
theorem dX4_divide_68 : decode cX4_divide 68 = .ok (.iconst 1, 1) := by decide +kernel
theorem dX4_divide_69 : decode cX4_divide 69 = .ok (.goto 4, 3) := by decide +kernel
theorem dX4_divide_72 : decode cX4_divide 72 = .ok (.iconst 0, 1) := by decide +kernel
theorem dX4_divide_73 : decode cX4_divide 73 = .ok (.istore 5, 2) := by decide +kernel
theorem dX4_divide_75 : decode cX4_divide 75 = .ok (.aload_n 0, 1) := by decide +kernel
theorem dX4_divide_76 : decode cX4_divide 76 = .ok (.iload_n 1, 1) := by decide +kernel
theorem dX4_divide_77 : decode cX4_divide 77 = .ok (.iconst 1, 1) := by decide +kernel
theorem dX4_divide_78 : decode cX4_divide 78 = .ok (.invokevirtual 107, 3) := by decide +kernel
theorem dX4_divide_81 : decode cX4_divide 81 = .ok (.ifCond .eq 12, 3) := by decide +kernel
theorem dX4_divide_84 : decode cX4_divide 84 = .ok (.aload_n 0, 1) := by decide +kernel
theorem dX4_divide_85 : decode cX4_divide 85 = .ok (.iload_n 2, 1) := by decide +kernel
theorem dX4_divide_86 : decode cX4_divide 86 = .ok (.iconst 1, 1) := by decide +kernel
theorem dX4_divide_87 : decode cX4_divide 87 = .ok (.invokevirtual 107, 3) := by decide +kernel
theorem dX4_divide_90 : decode cX4_divide 90 = .ok (.ifCond .ne 13, 3) := by decide +kernel
theorem dX4_divide_93 : decode cX4_divide 93 = .ok (.iload 4, 2) := by decide +kernel
theorem dX4_divide_95 : decode cX4_divide 95 = .ok (.ifCond .eq 15, 3) := by decide +kernel
theorem dX4_divide_98 : decode cX4_divide 98 = .ok (.iload 5, 2) := by decide +kernel
theorem dX4_divide_100 : decode cX4_divide 100 = .ok (.ifCond .eq 10, 3) := by decide +kernel
theorem dX4_divide_103 : decode cX4_divide 103 = .ok (.aload_n 0, 1) := by decide +kernel
theorem dX4_divide_104 : decode cX4_divide 104 = .ok (.invokevirtual 111, 3) := by decide +kernel
theorem dX4_divide_107 : decode cX4_divide 107 = .ok (.goto 204, 3) := by decide +kernel
theorem dX4_divide_110 : decode cX4_divide 110 = .ok (.aload_n 0, 1) := by decide +kernel
theorem dX4_divide_111 : decode cX4_divide 111 = .ok (.iload_n 1, 1) := by decide +kernel
theorem dX4_divide_112 : decode cX4_divide 112 = .ok (.iconst 1, 1) := by decide +kernel
theorem dX4_divide_113 : decode cX4_divide 113 = .ok (.invokevirtual 107, 3) := by decide +kernel
theorem dX4_divide_116 : decode cX4_divide 116 = .ok (.ifCond .eq 14, 3) := by decide +kernel
theorem dX4_divide_119 : decode cX4_divide 119 = .ok (.aload_n 0, 1) := by decide +kernel
theorem dX4_divide_120 : decode cX4_divide 120 = .ok (.iconst 1, 1) := by decide +kernel
theorem dX4_divide_121 : decode cX4_divide 121 = .ok (.iload_n 3, 1) := by decide +kernel
theorem dX4_divide_122 : decode cX4_divide 122 = .ok (.lconst 0, 1) := by decide +kernel
theorem dX4_divide_123 : decode cX4_divide 123 = .ok (.iconst 0, 1) := by decide +kernel
theorem dX4_divide_124 : decode cX4_divide 124 = .ok (.invokevirtual 59, 3) := by decide +kernel
theorem dX4_divide_127 : decode cX4_divide 127 = .ok (.goto 184, 3) := by decide +kernel
theorem dX4_divide_130 : decode cX4_divide 130 = .ok (.aload_n 0, 1) := by decide +kernel
theorem dX4_divide_131 : decode cX4_divide 131 = .ok (.iload_n 2, 1) := by decide +kernel
theorem dX4_divide_132 : decode cX4_divide 132 = .ok (.iconst 1, 1) := by decide +kernel
theorem dX4_divide_133 : decode cX4_divide 133 = .ok (.invokevirtual 107, 3) := by decide +kernel
theorem dX4_divide_136 : decode cX4_divide 136 = .ok (.ifCond .eq 16, 3) := by decide +kernel
theorem dX4_divide_139 : decode cX4_divide 139 = .ok (.aload_n 0, 1) := by decide +kernel
theorem dX4_divide_140 : decode cX4_divide 140 = .ok (.iconst 0, 1) := by decide +kernel
theorem dX4_divide_141 : decode cX4_divide 141 = .ok (.iload_n 3, 1) := by decide +kernel
theorem dX4_divide_142 : decode cX4_divide 142 = .ok (.lconst 0, 1) := by decide +kernel
theorem dX4_divide_143 : decode cX4_divide 143 = .ok (.sipush (-398), 3) := by decide +kernel
theorem dX4_divide_146 : decode cX4_divide 146 = .ok (.invokevirtual 59, 3) := by decide +kernel
theorem dX4_divide_149 : decode cX4_divide 149 = .ok (.goto 162, 3) := by decide +kernel
theorem dX4_divide_152 : decode cX4_divide 152 = .ok (.iload 5, 2) := by decide +kernel
theorem dX4_divide_154 : decode cX4_divide 154 = .ok (.ifCond .eq 24, 3) := by decide +kernel
theorem dX4_divide_157 : decode cX4_divide 157 = .ok (.aload_n 0, 1) := by decide +kernel
theorem dX4_divide_158 : decode cX4_divide 158 = .ok (.aload_n 0, 1) := by decide +kernel
theorem dX4_divide_159 : decode cX4_divide 159 = .ok (.getfield 56, 3) := by decide +kernel
theorem dX4_divide_162 : decode cX4_divide 162 = .ok (.iconst 2, 1) := by decide +kernel
theorem dX4_divide_163 : decode cX4_divide 163 = .ok (.ior, 1) := by decide +kernel
theorem dX4_divide_164 : decode cX4_divide 164 = .ok (.putfield 56, 3) := by decide +kernel
theorem dX4_divide_167 : decode cX4_divide 167 = .ok (.aload_n 0, 1) := by decide +kernel
theorem dX4_divide_168 : decode cX4_divide 168 = .ok (.iconst 1, 1) := by decide +kernel
theorem dX4_divide_169 : decode cX4_divide 169 = .ok (.iload_n 3, 1) := by decide +kernel
theorem dX4_divide_170 : decode cX4_divide 170 = .ok (.lconst 0, 1) := by decide +kernel
theorem dX4_divide_171 : decode cX4_divide 171 = .ok (.iconst 0, 1) := by decide +kernel
theorem dX4_divide_172 : decode cX4_divide 172 = .ok (.invokevirtual 59, 3) := by decide +kernel
theorem dX4_divide_175 : decode cX4_divide 175 = .ok (.goto 136, 3) := by decide +kernel
theorem dX4_divide_178 : decode cX4_divide 178 = .ok (.aload_n 0, 1) := by decide +kernel
theorem dX4_divide_179 : decode cX4_divide 179 = .ok (.aload_n 0, 1) := by decide +kernel
theorem dX4_divide_180 : decode cX4_divide 180 = .ok (.getfield 17, 3) := by decide +kernel
theorem dX4_divide_183 : decode cX4_divide 183 = .ok (.iload_n 1, 1) := by decide +kernel
theorem dX4_divide_184 : decode cX4_divide 184 = .ok (.laload, 1) := by decide +kernel
theorem dX4_divide_185 : decode cX4_divide 185 = .ok (.bipush 34, 2) := by decide +kernel
theorem dX4_divide_187 : decode cX4_divide 187 = .ok (.invokevirtual 118, 3) := by decide +kernel
theorem dX4_divide_190 : decode cX4_divide 190 = .ok (.aload_n 0, 1) := by decide +kernel
theorem dX4_divide_191 : decode cX4_divide 191 = .ok (.invokevirtual 34, 3) := by decide +kernel
theorem dX4_divide_194 : decode cX4_divide 194 = .ok (.lconst 0, 1) := by decide +kernel
theorem dX4_divide_195 : decode cX4_divide 195 = .ok (.lstore 6, 2) := by decide +kernel
theorem dX4_divide_197 : decode cX4_divide 197 = .ok (.bipush 49, 2) := by decide +kernel
theorem dX4_divide_199 : decode cX4_divide 199 = .ok (.istore 8, 2) := by decide +kernel
theorem dX4_divide_201 : decode cX4_divide 201 = .ok (.iload 8, 2) := by decide +kernel
theorem dX4_divide_203 : decode cX4_divide 203 = .ok (.ifCond .lt 54, 3) := by decide +kernel
theorem dX4_divide_206 : decode cX4_divide 206 = .ok (.ldc2_w 37, 3) := by decide +kernel
theorem dX4_divide_209 : decode cX4_divide 209 = .ok (.lload 6, 2) := by decide +kernel
theorem dX4_divide_211 : decode cX4_divide 211 = .ok (.lmul, 1) := by decide +kernel
theorem dX4_divide_212 : decode cX4_divide 212 = .ok (.aload_n 0, 1) := by decide +kernel
theorem dX4_divide_213 : decode cX4_divide 213 = .ok (.getfield 27, 3) := by decide +kernel
theorem dX4_divide_216 : decode cX4_divide 216 = .ok (.iload 8, 2) := by decide +kernel
theorem dX4_divide_218 : decode cX4_divide 218 = .ok (.iaload, 1) := by decide +kernel
theorem dX4_divide_219 : decode cX4_divide 219 = .ok (.i2l, 1) := by decide +kernel
theorem dX4_divide_220 : decode cX4_divide 220 = .ok (.ladd, 1) := by decide +kernel
theorem dX4_divide_221 : decode cX4_divide 221 = .ok (.lstore 6, 2) := by decide +kernel
theorem dX4_divide_223 : decode cX4_divide 223 = .ok (.aload_n 0, 1) := by decide +kernel
theorem dX4_divide_224 : decode cX4_divide 224 = .ok (.getfield 24, 3) := by decide +kernel
theorem dX4_divide_227 : decode cX4_divide 227 = .ok (.iload 8, 2) := by decide +kernel
theorem dX4_divide_229 : decode cX4_divide 229 = .ok (.lload 6, 2) := by decide +kernel
theorem dX4_divide_231 : decode cX4_divide 231 = .ok (.aload_n 0, 1) := by decide +kernel
theorem dX4_divide_232 : decode cX4_divide 232 = .ok (.getfield 17, 3) := by decide +kernel
theorem dX4_divide_235 : decode cX4_divide 235 = .ok (.iload_n 2, 1) := by decide +kernel
theorem dX4_divide_236 : decode cX4_divide 236 = .ok (.laload, 1) := by decide +kernel
theorem dX4_divide_237 : decode cX4_divide 237 = .ok (.ldiv, 1) := by decide +kernel
theorem dX4_divide_238 : decode cX4_divide 238 = .ok (.l2i, 1) := by decide +kernel
theorem dX4_divide_239 : decode cX4_divide 239 = .ok (.iastore, 1) := by decide +kernel
theorem dX4_divide_240 : decode cX4_divide 240 = .ok (.lload 6, 2) := by decide +kernel
theorem dX4_divide_242 : decode cX4_divide 242 = .ok (.aload_n 0, 1) := by decide +kernel
theorem dX4_divide_243 : decode cX4_divide 243 = .ok (.getfield 17, 3) := by decide +kernel
theorem dX4_divide_246 : decode cX4_divide 246 = .ok (.iload_n 2, 1) := by decide +kernel
theorem dX4_divide_247 : decode cX4_divide 247 = .ok (.laload, 1) := by decide +kernel
theorem dX4_divide_248 : decode cX4_divide 248 = .ok (.lrem, 1) := by decide +kernel
theorem dX4_divide_249 : decode cX4_divide 249 = .ok (.lstore 6, 2) := by decide +kernel
theorem dX4_divide_251 : decode cX4_divide 251 = .ok (.iinc 8 (-1), 3) := by decide +kernel
theorem dX4_divide_254 : decode cX4_divide 254 = .ok (.goto (-53), 3) := by decide +kernel
theorem dX4_divide_257 : decode cX4_divide 257 = .ok (.aload_n 0, 1) := by decide +kernel
theorem dX4_divide_258 : decode cX4_divide 258 = .ok (.lload 6, 2) := by decide +kernel
theorem dX4_divide_260 : decode cX4_divide 260 = .ok (.lconst 0, 1) := by decide +kernel
theorem dX4_divide_261 : decode cX4_divide 261 = .ok (.lcmp, 1) := by decide +kernel
theorem dX4_divide_262 : decode cX4_divide 262 = .ok (.ifCond .le 7, 3) := by decide +kernel
theorem dX4_divide_265 : decode cX4_divide 265 = .ok (.iconst 1, 1) := by decide +kernel
theorem dX4_divide_266 : decode cX4_divide 266 = .ok (.goto 4, 3) := by decide +kernel
theorem dX4_divide_269 : decode cX4_divide 269 = .ok (.iconst 0, 1) := by decide +kernel
theorem dX4_divide_270 : decode cX4_divide 270 = .ok (.putfield 71, 3) := by decide +kernel
theorem dX4_divide_273 : decode cX4_divide 273 = .ok (.aload_n 0, 1) := by decide +kernel
theorem dX4_divide_274 : decode cX4_divide 274 = .ok (.aload_n 0, 1) := by decide +kernel
theorem dX4_divide_275 : decode cX4_divide 275 = .ok (.getfield 21, 3) := by decide +kernel
theorem dX4_divide_278 : decode cX4_divide 278 = .ok (.iload_n 1, 1) := by decide +kernel
theorem dX4_divide_279 : decode cX4_divide 279 = .ok (.iaload, 1) := by decide +kernel
theorem dX4_divide_280 : decode cX4_divide 280 = .ok (.aload_n 0, 1) := by decide +kernel
theorem dX4_divide_281 : decode cX4_divide 281 = .ok (.getfield 21, 3) := by decide +kernel
theorem dX4_divide_284 : decode cX4_divide 284 = .ok (.iload_n 2, 1) := by decide +kernel
theorem dX4_divide_285 : decode cX4_divide 285 = .ok (.iaload, 1) := by decide +kernel
theorem dX4_divide_286 : decode cX4_divide 286 = .ok (.isub, 1) := by decide +kernel
theorem dX4_divide_287 : decode cX4_divide 287 = .ok (.bipush 34, 2) := by decide +kernel
theorem dX4_divide_289 : decode cX4_divide 289 = .ok (.isub, 1) := by decide +kernel
theorem dX4_divide_290 : decode cX4_divide 290 = .ok (.putfield 86, 3) := by decide +kernel
theorem dX4_divide_293 : decode cX4_divide 293 = .ok (.aload_n 0, 1) := by decide +kernel
theorem dX4_divide_294 : decode cX4_divide 294 = .ok (.iload_n 3, 1) := by decide +kernel
theorem dX4_divide_295 : decode cX4_divide 295 = .ok (.aload_n 0, 1) := by decide +kernel
theorem dX4_divide_296 : decode cX4_divide 296 = .ok (.getfield 21, 3) := by decide +kernel
theorem dX4_divide_299 : decode cX4_divide 299 = .ok (.iload_n 1, 1) := by decide +kernel
theorem dX4_divide_300 : decode cX4_divide 300 = .ok (.iaload, 1) := by decide +kernel
theorem dX4_divide_301 : decode cX4_divide 301 = .ok (.aload_n 0, 1) := by decide +kernel
theorem dX4_divide_302 : decode cX4_divide 302 = .ok (.getfield 21, 3) := by decide +kernel
theorem dX4_divide_305 : decode cX4_divide 305 = .ok (.iload_n 2, 1) := by decide +kernel
theorem dX4_divide_306 : decode cX4_divide 306 = .ok (.iaload, 1) := by decide +kernel
theorem dX4_divide_307 : decode cX4_divide 307 = .ok (.isub, 1) := by decide +kernel
theorem dX4_divide_308 : decode cX4_divide 308 = .ok (.invokevirtual 127, 3) := by decide +kernel
theorem dX4_divide_311 : decode cX4_divide 311 = .ok (.return_, 1) := by decide +kernel
theorem dX4_quantize_0 : decode cX4_quantize 0 = .ok (.aload_n 0, 1) := by decide +kernel
theorem dX4_quantize_1 : decode cX4_quantize 1 = .ok (.iload_n 1, 1) := by decide +kernel
theorem dX4_quantize_2 : decode cX4_quantize 2 = .ok (.iconst 1, 1) := by decide +kernel
theorem dX4_quantize_3 : decode cX4_quantize 3 = .ok (.invokevirtual 107, 3) := by decide +kernel
theorem dX4_quantize_6 : decode cX4_quantize 6 = .ok (.ifCond .eq 28, 3) := by decide +kernel
theorem dX4_quantize_9 : decode cX4_quantize 9 = .ok (.aload_n 0, 1) := by decide +kernel
theorem dX4_quantize_10 : decode cX4_quantize 10 = .ok (.iload_n 2, 1) := by decide +kernel
theorem dX4_quantize_11 : decode cX4_quantize 11 = .ok (.iconst 1, 1) := by decide +kernel
theorem dX4_quantize_12 : decode cX4_quantize 12 = .ok (.invokevirtual 107, 3) := by decide +kernel
theorem dX4_quantize_15 : decode cX4_quantize 15 = .ok (.ifCond .eq 19, 3) := by decide +kernel
theorem dX4_quantize_18 : decode cX4_quantize 18 = .ok (.aload_n 0, 1) := by decide +kernel
theorem dX4_quantize_19 : decode cX4_quantize 19 = .ok (.iconst 1, 1) := by decide +kernel
theorem dX4_quantize_20 : decode cX4_quantize 20 = .ok (.aload_n 0, 1) := by decide +kernel
theorem dX4_quantize_21 : decode cX4_quantize 21 = .ok (.getfield 13, 3) := by decide +kernel
theorem dX4_quantize_24 : decode cX4_quantize 24 = .ok (.iload_n 1, 1) := by decide +kernel
theorem dX4_quantize_25 : decode cX4_quantize 25 = .ok (.baload, 1) := by decide +kernel
theorem dX4_quantize_26 : decode cX4_quantize 26 = .ok (.lconst 0, 1) := by decide +kernel
theorem dX4_quantize_27 : decode cX4_quantize 27 = .ok (.iconst 0, 1) := by decide +kernel
theorem dX4_quantize_28 : decode cX4_quantize 28 = .ok (.invokevirtual 59, 3) := by decide +kernel
theorem dX4_quantize_31 : decode cX4_quantize 31 = .ok (.goto 201, 3) := by decide +kernel
theorem dX4_quantize_34 : decode cX4_quantize 34 = .ok (.aload_n 0, 1) := by decide +kernel
theorem dX4_quantize_35 : decode cX4_quantize 35 = .ok (.iload_n 1, 1) := by decide +kernel
theorem dX4_quantize_36 : decode cX4_quantize 36 = .ok (.iconst 1, 1) := by decide +kernel
theorem dX4_quantize_37 : decode cX4_quantize 37 = .ok (.invokevirtual 107, 3) := by decide +kernel
theorem dX4_quantize_40 : decode cX4_quantize 40 = .ok (.ifCond .ne 12, 3) := by decide +kernel
theorem dX4_quantize_43 : decode cX4_quantize 43 = .ok (.aload_n 0, 1) := by decide +kernel
theorem dX4_quantize_44 : decode cX4_quantize 44 = .ok (.iload_n 2, 1) := by decide +kernel
theorem dX4_quantize_45 : decode cX4_quantize 45 = .ok (.iconst 1, 1) := by decide +kernel
theorem dX4_quantize_46 : decode cX4_quantize 46 = .ok (.invokevirtual 107, 3) := by decide +kernel
theorem dX4_quantize_49 : decode cX4_quantize 49 = .ok (.ifCond .eq 10, 3) := by decide +kernel
theorem dX4_quantize_52 : decode cX4_quantize 52 = .ok (.aload_n 0, 1) := by decide +kernel
theorem dX4_quantize_53 : decode cX4_quantize 53 = .ok (.invokevirtual 111, 3) := by decide +kernel
theorem dX4_quantize_56 : decode cX4_quantize 56 = .ok (.goto 176, 3) := by decide +kernel
theorem dX4_quantize_59 : decode cX4_quantize 59 = .ok (.aload_n 0, 1) := by decide +kernel
theorem dX4_quantize_60 : decode cX4_quantize 60 = .ok (.getfield 21, 3) := by decide +kernel
theorem dX4_quantize_63 : decode cX4_quantize 63 = .ok (.iload_n 2, 1) := by decide +kernel
theorem dX4_quantize_64 : decode cX4_quantize 64 = .ok (.iaload, 1) := by decide +kernel
theorem dX4_quantize_65 : decode cX4_quantize 65 = .ok (.istore_n 3, 1) := by decide +kernel
theorem dX4_quantize_66 : decode cX4_quantize 66 = .ok (.iload_n 3, 1) := by decide +kernel
theorem dX4_quantize_67 : decode cX4_quantize 67 = .ok (.aload_n 0, 1) := by decide +kernel
theorem dX4_quantize_68 : decode cX4_quantize 68 = .ok (.getfield 21, 3) := by decide +kernel
theorem dX4_quantize_71 : decode cX4_quantize 71 = .ok (.iload_n 1, 1) := by decide +kernel
theorem dX4_quantize_72 : decode cX4_quantize 72 = .ok (.iaload, 1) := by decide +kernel
theorem dX4_quantize_73 : decode cX4_quantize 73 = .ok (.isub, 1) := by decide +kernel
theorem dX4_quantize_74 : decode cX4_quantize 74 = .ok (.istore 4, 2) := by decide +kernel
theorem dX4_quantize_76 : decode cX4_quantize 76 = .ok (.aload_n 0, 1) := by decide +kernel
theorem dX4_quantize_77 : decode cX4_quantize 77 = .ok (.aload_n 0, 1) := by decide +kernel
theorem dX4_quantize_78 : decode cX4_quantize 78 = .ok (.getfield 17, 3) := by decide +kernel
theorem dX4_quantize_81 : decode cX4_quantize 81 = .ok (.iload_n 1, 1) := by decide +kernel
theorem dX4_quantize_82 : decode cX4_quantize 82 = .ok (.laload, 1) := by decide +kernel
theorem dX4_quantize_83 : decode cX4_quantize 83 = .ok (.iconst 0, 1) := by decide +kernel
theorem dX4_quantize_84 : decode cX4_quantize 84 = .ok (.invokevirtual 114, 3) := by decide +kernel
theorem dX4_quantize_87 : decode cX4_quantize 87 = .ok (.aload_n 0, 1) := by decide +kernel
theorem dX4_quantize_88 : decode cX4_quantize 88 = .ok (.invokevirtual 79, 3) := by decide +kernel
theorem dX4_quantize_91 : decode cX4_quantize 91 = .ok (.aload_n 0, 1) := by decide +kernel
theorem dX4_quantize_92 : decode cX4_quantize 92 = .ok (.iconst 0, 1) := by decide +kernel
theorem dX4_quantize_93 : decode cX4_quantize 93 = .ok (.putfield 71, 3) := by decide +kernel
theorem dX4_quantize_96 : decode cX4_quantize 96 = .ok (.aload_n 0, 1) := by decide +kernel
theorem dX4_quantize_97 : decode cX4_quantize 97 = .ok (.getfield 39, 3) := by decide +kernel
theorem dX4_quantize_100 : decode cX4_quantize 100 = .ok (.ifCond .le 20, 3) := by decide +kernel
theorem dX4_quantize_103 : decode cX4_quantize 103 = .ok (.aload_n 0, 1) := by decide +kernel
theorem dX4_quantize_104 : decode cX4_quantize 104 = .ok (.getfield 39, 3) := by decide +kernel
theorem dX4_quantize_107 : decode cX4_quantize 107 = .ok (.iload 4, 2) := by decide +kernel
theorem dX4_quantize_109 : decode cX4_quantize 109 = .ok (.isub, 1) := by decide +kernel
theorem dX4_quantize_110 : decode cX4_quantize 110 = .ok (.bipush 16, 2) := by decide +kernel
theorem dX4_quantize_112 : decode cX4_quantize 112 = .ok (.if_icmp .le 8, 3) := by decide +kernel
theorem dX4_quantize_115 : decode cX4_quantize 115 = .ok (.aload_n 0, 1) := by decide +kernel
theorem dX4_quantize_116 : decode cX4_quantize 116 = .ok (.invokevirtual 111, 3) := by decide +kernel
theorem dX4_quantize_119 : decode cX4_quantize 119 = .ok (.return_, 1) := by decide +kernel
theorem dX4_quantize_120 : decode cX4_quantize 120 = .ok (.aload_n 0, 1) := by decide +kernel
theorem dX4_quantize_121 : decode cX4_quantize 121 = .ok (.getfield 39, 3) := by decide +kernel
theorem dX4_quantize_124 : decode cX4_quantize 124 = .ok (.ifCond .ne 7, 3) := by decide +kernel
theorem dX4_quantize_127 : decode cX4_quantize 127 = .ok (.lconst 0, 1) := by decide +kernel
theorem dX4_quantize_128 : decode cX4_quantize 128 = .ok (.goto 15, 3) := by decide +kernel
theorem dX4_quantize_131 : decode cX4_quantize 131 = .ok (.aload_n 0, 1) := by decide +kernel
theorem dX4_quantize_132 : decode cX4_quantize 132 = .ok (.iload 4, 2) := by decide +kernel
theorem dX4_quantize_134 : decode cX4_quantize 134 = .ok (.aload_n 0, 1) := by decide +kernel
theorem dX4_quantize_135 : decode cX4_quantize 135 = .ok (.getfield 13, 3) := by decide +kernel
theorem dX4_quantize_138 : decode cX4_quantize 138 = .ok (.iload_n 1, 1) := by decide +kernel
theorem dX4_quantize_139 : decode cX4_quantize 139 = .ok (.baload, 1) := by decide +kernel
theorem dX4_quantize_140 : decode cX4_quantize 140 = .ok (.invokevirtual 93, 3) := by decide +kernel
theorem dX4_quantize_143 : decode cX4_quantize 143 = .ok (.lstore 5, 2) := by decide +kernel
theorem dX4_quantize_145 : decode cX4_quantize 145 = .ok (.iconst 1, 1) := by decide +kernel
theorem dX4_quantize_146 : decode cX4_quantize 146 = .ok (.istore 7, 2) := by decide +kernel
theorem dX4_quantize_148 : decode cX4_quantize 148 = .ok (.iconst 0, 1) := by decide +kernel
theorem dX4_quantize_149 : decode cX4_quantize 149 = .ok (.istore 8, 2) := by decide +kernel
theorem dX4_quantize_151 : decode cX4_quantize 151 = .ok (.iload 8, 2) := by decide +kernel
theorem dX4_quantize_153 : decode cX4_quantize 153 = .ok (.iload 4, 2) := by decide +kernel
theorem dX4_quantize_155 : decode cX4_quantize 155 = .ok (.if_icmp .ge 40, 3) := by decide +kernel
theorem dX4_quantize_158 : decode cX4_quantize 158 = .ok (.iload 8, 2) := by decide +kernel
theorem dX4_quantize_160 : decode cX4_quantize 160 = .ok (.aload_n 0, 1) := by decide +kernel
theorem dX4_quantize_161 : decode cX4_quantize 161 = .ok (.getfield 39, 3) := by decide +kernel
theorem dX4_quantize_164 : decode cX4_quantize 164 = .ok (.if_icmp .ge 31, 3) := by decide +kernel
theorem dX4_quantize_167 : decode cX4_quantize 167 = .ok (.iload 7, 2) := by decide +kernel
theorem dX4_quantize_169 : decode cX4_quantize 169 = .ok (.ifCond .eq 17, 3) := by decide +kernel
theorem dX4_quantize_172 : decode cX4_quantize 172 = .ok (.aload_n 0, 1) := by decide +kernel
theorem dX4_quantize_173 : decode cX4_quantize 173 = .ok (.getfield 24, 3) := by decide +kernel
theorem dX4_quantize_176 : decode cX4_quantize 176 = .ok (.iload 8, 2) := by decide +kernel
theorem dX4_quantize_178 : decode cX4_quantize 178 = .ok (.iaload, 1) := by decide +kernel
theorem dX4_quantize_179 : decode cX4_quantize 179 = .ok (.ifCond .ne 7, 3) := by decide +kernel
theorem dX4_quantize_182 : decode cX4_quantize 182 = .ok (.iconst 1, 1) := by decide +kernel
theorem dX4_quantize_183 : decode cX4_quantize 183 = .ok (.goto 4, 3) := by decide +kernel
theorem dX4_quantize_186 : decode cX4_quantize 186 = .ok (.iconst 0, 1) := by decide +kernel
theorem dX4_quantize_187 : decode cX4_quantize 187 = .ok (.istore 7, 2) := by decide +kernel
theorem dX4_quantize_189 : decode cX4_quantize 189 = .ok (.iinc 8 1, 3) := by decide +kernel
theorem dX4_quantize_192 : decode cX4_quantize 192 = .ok (.goto (-41), 3) := by decide +kernel
theorem dX4_quantize_195 : decode cX4_quantize 195 = .ok (.aload_n 0, 1) := by decide +kernel
theorem dX4_quantize_196 : decode cX4_quantize 196 = .ok (.iload 7, 2) := by decide +kernel
theorem dX4_quantize_198 : decode cX4_quantize 198 = .ok (.ifCond .eq 10, 3) := by decide +kernel
theorem dX4_quantize_201 : decode cX4_quantize 201 = .ok (.aload_n 0, 1) := by decide +kernel
theorem dX4_quantize_202 : decode cX4_quantize 202 = .ok (.getfield 56, 3) := by decide +kernel
theorem dX4_quantize_205 : decode cX4_quantize 205 = .ok (.goto 10, 3) := by decide +kernel
theorem dX4_quantize_208 : decode cX4_quantize 208 = .ok (.aload_n 0, 1) := by decide +kernel
theorem dX4_quantize_209 : decode cX4_quantize 209 = .ok (.getfield 56, 3) := by decide +kernel
theorem dX4_quantize_212 : decode cX4_quantize 212 = .ok (.bipush 16, 2) := by decide +kernel
theorem dX4_quantize_214 : decode cX4_quantize 214 = .ok (.ior, 1) := by decide +kernel
theorem dX4_quantize_215 : decode cX4_quantize 215 = .ok (.putfield 56, 3) := by decide +kernel
theorem dX4_quantize_218 : decode cX4_quantize 218 = .ok (.aload_n 0, 1) := by decide +kernel
theorem dX4_quantize_219 : decode cX4_quantize 219 = .ok (.iconst 0, 1) := by decide +kernel
theorem dX4_quantize_220 : decode cX4_quantize 220 = .ok (.aload_n 0, 1) := by decide +kernel
theorem dX4_quantize_221 : decode cX4_quantize 221 = .ok (.getfield 13, 3) := by decide +kernel
theorem dX4_quantize_224 : decode cX4_quantize 224 = .ok (.iload_n 1, 1) := by decide +kernel
theorem dX4_quantize_225 : decode cX4_quantize 225 = .ok (.baload, 1) := by decide +kernel
theorem dX4_quantize_226 : decode cX4_quantize 226 = .ok (.lload 5, 2) := by decide +kernel
theorem dX4_quantize_228 : decode cX4_quantize 228 = .ok (.iload_n 3, 1) := by decide +kernel
theorem dX4_quantize_229 : decode cX4_quantize 229 = .ok (.invokevirtual 59, 3) := by decide +kernel
theorem dX4_quantize_232 : decode cX4_quantize 232 = .ok (.return_, 1) := by decide +kernel
theorem dX4_lengthOf_0 : decode cX4_lengthOf 0 = .ok (.iconst 0, 1) := by decide +kernel
theorem dX4_lengthOf_1 : decode cX4_lengthOf 1 = .ok (.istore_n 3, 1) := by decide +kernel
theorem dX4_lengthOf_2 : decode cX4_lengthOf 2 = .ok (.lload_n 1, 1) := by decide +kernel
theorem dX4_lengthOf_3 : decode cX4_lengthOf 3 = .ok (.lstore 4, 2) := by decide +kernel
theorem dX4_lengthOf_5 : decode cX4_lengthOf 5 = .ok (.lload 4, 2) := by decide +kernel
theorem dX4_lengthOf_7 : decode cX4_lengthOf 7 = .ok (.lconst 0, 1) := by decide +kernel
theorem dX4_lengthOf_8 : decode cX4_lengthOf 8 = .ok (.lcmp, 1) := by decide +kernel
theorem dX4_lengthOf_9 : decode cX4_lengthOf 9 = .ok (.ifCond .le 17, 3) := by decide +kernel
theorem dX4_lengthOf_12 : decode cX4_lengthOf 12 = .ok (.iinc 3 1, 3) := by decide +kernel
theorem dX4_lengthOf_15 : decode cX4_lengthOf 15 = .ok (.lload 4, 2) := by decide +kernel
theorem dX4_lengthOf_17 : decode cX4_lengthOf 17 = .ok (.ldc2_w 37, 3) := by decide +kernel
theorem dX4_lengthOf_20 : decode cX4_lengthOf 20 = .ok (.ldiv, 1) := by decide +kernel
theorem dX4_lengthOf_21 : decode cX4_lengthOf 21 = .ok (.lstore 4, 2) := by decide +kernel
theorem dX4_lengthOf_23 : decode cX4_lengthOf 23 = .ok (.goto (-18), 3) := by decide +kernel
theorem dX4_lengthOf_26 : decode cX4_lengthOf 26 = .ok (.iload_n 3, 1) := by decide +kernel
theorem dX4_lengthOf_27 : decode cX4_lengthOf 27 = .ok (.ireturn, 1) := by decide +kernel
theorem dX4_compareSizes_0 : decode cX4_compareSizes 0 = .ok (.aload_n 0, 1) := by decide +kernel
theorem dX4_compareSizes_1 : decode cX4_compareSizes 1 = .ok (.getfield 17, 3) := by decide +kernel
theorem dX4_compareSizes_4 : decode cX4_compareSizes 4 = .ok (.iload_n 1, 1) := by decide +kernel
theorem dX4_compareSizes_5 : decode cX4_compareSizes 5 = .ok (.laload, 1) := by decide +kernel
theorem dX4_compareSizes_6 : decode cX4_compareSizes 6 = .ok (.lstore_n 3, 1) := by decide +kernel
theorem dX4_compareSizes_7 : decode cX4_compareSizes 7 = .ok (.aload_n 0, 1) := by decide +kernel
theorem dX4_compareSizes_8 : decode cX4_compareSizes 8 = .ok (.getfield 17, 3) := by decide +kernel
theorem dX4_compareSizes_11 : decode cX4_compareSizes 11 = .ok (.iload_n 2, 1) := by decide +kernel
theorem dX4_compareSizes_12 : decode cX4_compareSizes 12 = .ok (.laload, 1) := by decide +kernel
theorem dX4_compareSizes_13 : decode cX4_compareSizes 13 = .ok (.lstore 5, 2) := by decide +kernel
theorem dX4_compareSizes_15 : decode cX4_compareSizes 15 = .ok (.lload_n 3, 1) := by decide +kernel
theorem dX4_compareSizes_16 : decode cX4_compareSizes 16 = .ok (.lconst 0, 1) := by decide +kernel
theorem dX4_compareSizes_17 : decode cX4_compareSizes 17 = .ok (.lcmp, 1) := by decide +kernel
theorem dX4_compareSizes_18 : decode cX4_compareSizes 18 = .ok (.ifCond .eq 10, 3) := by decide +kernel
theorem dX4_compareSizes_21 : decode cX4_compareSizes 21 = .ok (.lload 5, 2) := by decide +kernel
theorem dX4_compareSizes_23 : decode cX4_compareSizes 23 = .ok (.lconst 0, 1) := by decide +kernel
theorem dX4_compareSizes_24 : decode cX4_compareSizes 24 = .ok (.lcmp, 1) := by decide +kernel
theorem dX4_compareSizes_25 : decode cX4_compareSizes 25 = .ok (.ifCond .ne 26, 3) := by decide +kernel
theorem dX4_compareSizes_28 : decode cX4_compareSizes 28 = .ok (.lload_n 3, 1) := by decide +kernel
theorem dX4_compareSizes_29 : decode cX4_compareSizes 29 = .ok (.lload 5, 2) := by decide +kernel
theorem dX4_compareSizes_31 : decode cX4_compareSizes 31 = .ok (.lcmp, 1) := by decide +kernel
theorem dX4_compareSizes_32 : decode cX4_compareSizes 32 = .ok (.ifCond .ne 7, 3) := by decide +kernel
theorem dX4_compareSizes_35 : decode cX4_compareSizes 35 = .ok (.iconst 0, 1) := by decide +kernel
theorem dX4_compareSizes_36 : decode cX4_compareSizes 36 = .ok (.goto 14, 3) := by decide +kernel
theorem dX4_compareSizes_39 : decode cX4_compareSizes 39 = .ok (.lload_n 3, 1) := by decide +kernel
theorem dX4_compareSizes_40 : decode cX4_compareSizes 40 = .ok (.lconst 0, 1) := by decide +kernel
theorem dX4_compareSizes_41 : decode cX4_compareSizes 41 = .ok (.lcmp, 1) := by decide +kernel
theorem dX4_compareSizes_42 : decode cX4_compareSizes 42 = .ok (.ifCond .ne 7, 3) := by decide +kernel
theorem dX4_compareSizes_45 : decode cX4_compareSizes 45 = .ok (.iconst (-1), 1) := by decide +kernel
theorem dX4_compareSizes_46 : decode cX4_compareSizes 46 = .ok (.goto 4, 3) := by decide +kernel
theorem dX4_compareSizes_49 : decode cX4_compareSizes 49 = .ok (.iconst 1, 1) := by decide +kernel
theorem dX4_compareSizes_50 : decode cX4_compareSizes 50 = .ok (.ireturn, 1) := by decide +kernel
theorem dX4_compareSizes_51 : decode cX4_compareSizes 51 = .ok (.aload_n 0, 1) := by decide +kernel
theorem dX4_compareSizes_52 : decode cX4_compareSizes 52 = .ok (.lload_n 3, 1) := by decide +kernel
theorem dX4_compareSizes_53 : decode cX4_compareSizes 53 = .ok (.invokevirtual 131, 3) := by decide +kernel
theorem dX4_compareSizes_56 : decode cX4_compareSizes 56 = .ok (.istore 7, 2) := by decide +kernel
theorem dX4_compareSizes_58 : decode cX4_compareSizes 58 = .ok (.aload_n 0, 1) := by decide +kernel
theorem dX4_compareSizes_59 : decode cX4_compareSizes 59 = .ok (.lload 5, 2) := by decide +kernel
theorem dX4_compareSizes_61 : decode cX4_compareSizes 61 = .ok (.invokevirtual 131, 3) := by decide +kernel
theorem dX4_compareSizes_64 : decode cX4_compareSizes 64 = .ok (.istore 8, 2) := by decide +kernel
theorem dX4_compareSizes_66 : decode cX4_compareSizes 66 = .ok (.iload 7, 2) := by decide +kernel
theorem dX4_compareSizes_68 : decode cX4_compareSizes 68 = .ok (.aload_n 0, 1) := by decide +kernel
theorem dX4_compareSizes_69 : decode cX4_compareSizes 69 = .ok (.getfield 21, 3) := by decide +kernel
theorem dX4_compareSizes_72 : decode cX4_compareSizes 72 = .ok (.iload_n 1, 1) := by decide +kernel
theorem dX4_compareSizes_73 : decode cX4_compareSizes 73 = .ok (.iaload, 1) := by decide +kernel
theorem dX4_compareSizes_74 : decode cX4_compareSizes 74 = .ok (.iadd, 1) := by decide +kernel
theorem dX4_compareSizes_75 : decode cX4_compareSizes 75 = .ok (.iload 8, 2) := by decide +kernel
theorem dX4_compareSizes_77 : decode cX4_compareSizes 77 = .ok (.aload_n 0, 1) := by decide +kernel
theorem dX4_compareSizes_78 : decode cX4_compareSizes 78 = .ok (.getfield 21, 3) := by decide +kernel
theorem dX4_compareSizes_81 : decode cX4_compareSizes 81 = .ok (.iload_n 2, 1) := by decide +kernel
theorem dX4_compareSizes_82 : decode cX4_compareSizes 82 = .ok (.iaload, 1) := by decide +kernel
theorem dX4_compareSizes_83 : decode cX4_compareSizes 83 = .ok (.iadd, 1) := by decide +kernel
theorem dX4_compareSizes_84 : decode cX4_compareSizes 84 = .ok (.if_icmp .eq 30, 3) := by decide +kernel
theorem dX4_compareSizes_87 : decode cX4_compareSizes 87 = .ok (.iload 7, 2) := by decide +kernel
theorem dX4_compareSizes_89 : decode cX4_compareSizes 89 = .ok (.aload_n 0, 1) := by decide +kernel
theorem dX4_compareSizes_90 : decode cX4_compareSizes 90 = .ok (.getfield 21, 3) := by decide +kernel
theorem dX4_compareSizes_93 : decode cX4_compareSizes 93 = .ok (.iload_n 1, 1) := by decide +kernel
theorem dX4_compareSizes_94 : decode cX4_compareSizes 94 = .ok (.iaload, 1) := by decide +kernel
theorem dX4_compareSizes_95 : decode cX4_compareSizes 95 = .ok (.iadd, 1) := by decide +kernel
theorem dX4_compareSizes_96 : decode cX4_compareSizes 96 = .ok (.iload 8, 2) := by decide +kernel
theorem dX4_compareSizes_98 : decode cX4_compareSizes 98 = .ok (.aload_n 0, 1) := by decide +kernel
theorem dX4_compareSizes_99 : decode cX4_compareSizes 99 = .ok (.getfield 21, 3) := by decide +kernel
theorem dX4_compareSizes_102 : decode cX4_compareSizes 102 = .ok (.iload_n 2, 1) := by decide +kernel
theorem dX4_compareSizes_103 : decode cX4_compareSizes 103 = .ok (.iaload, 1) := by decide +kernel
theorem dX4_compareSizes_104 : decode cX4_compareSizes 104 = .ok (.iadd, 1) := by decide +kernel
theorem dX4_compareSizes_105 : decode cX4_compareSizes 105 = .ok (.if_icmp .ge 7, 3) := by decide +kernel
theorem dX4_compareSizes_108 : decode cX4_compareSizes 108 = .ok (.iconst (-1), 1) := by decide +kernel
theorem dX4_compareSizes_109 : decode cX4_compareSizes 109 = .ok (.goto 4, 3) := by decide +kernel
theorem dX4_compareSizes_112 : decode cX4_compareSizes 112 = .ok (.iconst 1, 1) := by decide +kernel
theorem dX4_compareSizes_113 : decode cX4_compareSizes 113 = .ok (.ireturn, 1) := by decide +kernel
theorem dX4_compareSizes_114 : decode cX4_compareSizes 114 = .ok (.aload_n 0, 1) := by decide +kernel
theorem dX4_compareSizes_115 : decode cX4_compareSizes 115 = .ok (.lload_n 3, 1) := by decide +kernel
theorem dX4_compareSizes_116 : decode cX4_compareSizes 116 = .ok (.bipush 16, 2) := by decide +kernel
theorem dX4_compareSizes_118 : decode cX4_compareSizes 118 = .ok (.iload 7, 2) := by decide +kernel
theorem dX4_compareSizes_120 : decode cX4_compareSizes 120 = .ok (.isub, 1) := by decide +kernel
theorem dX4_compareSizes_121 : decode cX4_compareSizes 121 = .ok (.invokevirtual 67, 3) := by decide +kernel
theorem dX4_compareSizes_124 : decode cX4_compareSizes 124 = .ok (.lstore 9, 2) := by decide +kernel
theorem dX4_compareSizes_126 : decode cX4_compareSizes 126 = .ok (.aload_n 0, 1) := by decide +kernel
theorem dX4_compareSizes_127 : decode cX4_compareSizes 127 = .ok (.lload 5, 2) := by decide +kernel
theorem dX4_compareSizes_129 : decode cX4_compareSizes 129 = .ok (.bipush 16, 2) := by decide +kernel
theorem dX4_compareSizes_131 : decode cX4_compareSizes 131 = .ok (.iload 8, 2) := by decide +kernel
theorem dX4_compareSizes_133 : decode cX4_compareSizes 133 = .ok (.isub, 1) := by decide +kernel
theorem dX4_compareSizes_134 : decode cX4_compareSizes 134 = .ok (.invokevirtual 67, 3) := by decide +kernel
theorem dX4_compareSizes_137 : decode cX4_compareSizes 137 = .ok (.lstore 11, 2) := by decide +kernel
theorem dX4_compareSizes_139 : decode cX4_compareSizes 139 = .ok (.lload 9, 2) := by decide +kernel
theorem dX4_compareSizes_141 : decode cX4_compareSizes 141 = .ok (.lload 11, 2) := by decide +kernel
theorem dX4_compareSizes_143 : decode cX4_compareSizes 143 = .ok (.lcmp, 1) := by decide +kernel
theorem dX4_compareSizes_144 : decode cX4_compareSizes 144 = .ok (.ifCond .ge 7, 3) := by decide +kernel
theorem dX4_compareSizes_147 : decode cX4_compareSizes 147 = .ok (.iconst (-1), 1) := by decide +kernel
theorem dX4_compareSizes_148 : decode cX4_compareSizes 148 = .ok (.goto 16, 3) := by decide +kernel
theorem dX4_compareSizes_151 : decode cX4_compareSizes 151 = .ok (.lload 9, 2) := by decide +kernel
theorem dX4_compareSizes_153 : decode cX4_compareSizes 153 = .ok (.lload 11, 2) := by decide +kernel
theorem dX4_compareSizes_155 : decode cX4_compareSizes 155 = .ok (.lcmp, 1) := by decide +kernel
theorem dX4_compareSizes_156 : decode cX4_compareSizes 156 = .ok (.ifCond .le 7, 3) := by decide +kernel
theorem dX4_compareSizes_159 : decode cX4_compareSizes 159 = .ok (.iconst 1, 1) := by decide +kernel
theorem dX4_compareSizes_160 : decode cX4_compareSizes 160 = .ok (.goto 4, 3) := by decide +kernel
theorem dX4_compareSizes_163 : decode cX4_compareSizes 163 = .ok (.iconst 0, 1) := by decide +kernel
theorem dX4_compareSizes_164 : decode cX4_compareSizes 164 = .ok (.ireturn, 1) := by decide +kernel
theorem dX4_signOf_0 : decode cX4_signOf 0 = .ok (.aload_n 0, 1) := by decide +kernel
theorem dX4_signOf_1 : decode cX4_signOf 1 = .ok (.iload_n 1, 1) := by decide +kernel
theorem dX4_signOf_2 : decode cX4_signOf 2 = .ok (.iconst 0, 1) := by decide +kernel
theorem dX4_signOf_3 : decode cX4_signOf 3 = .ok (.invokevirtual 107, 3) := by decide +kernel
theorem dX4_signOf_6 : decode cX4_signOf 6 = .ok (.ifCond .eq 18, 3) := by decide +kernel
theorem dX4_signOf_9 : decode cX4_signOf 9 = .ok (.aload_n 0, 1) := by decide +kernel
theorem dX4_signOf_10 : decode cX4_signOf 10 = .ok (.getfield 17, 3) := by decide +kernel
theorem dX4_signOf_13 : decode cX4_signOf 13 = .ok (.iload_n 1, 1) := by decide +kernel
theorem dX4_signOf_14 : decode cX4_signOf 14 = .ok (.laload, 1) := by decide +kernel
theorem dX4_signOf_15 : decode cX4_signOf 15 = .ok (.lconst 0, 1) := by decide +kernel
theorem dX4_signOf_16 : decode cX4_signOf 16 = .ok (.lcmp, 1) := by decide +kernel
theorem dX4_signOf_17 : decode cX4_signOf 17 = .ok (.ifCond .ne 7, 3) := by decide +kernel
theorem dX4_signOf_20 : decode cX4_signOf 20 = .ok (.iconst 0, 1) := by decide +kernel
theorem dX4_signOf_21 : decode cX4_signOf 21 = .ok (.goto 17, 3) := by decide +kernel
theorem dX4_signOf_24 : decode cX4_signOf 24 = .ok (.aload_n 0, 1) := by decide +kernel
theorem dX4_signOf_25 : decode cX4_signOf 25 = .ok (.getfield 13, 3) := by decide +kernel
theorem dX4_signOf_28 : decode cX4_signOf 28 = .ok (.iload_n 1, 1) := by decide +kernel
theorem dX4_signOf_29 : decode cX4_signOf 29 = .ok (.baload, 1) := by decide +kernel
theorem dX4_signOf_30 : decode cX4_signOf 30 = .ok (.ifCond .eq 7, 3) := by decide +kernel
theorem dX4_signOf_33 : decode cX4_signOf 33 = .ok (.iconst (-1), 1) := by decide +kernel
theorem dX4_signOf_34 : decode cX4_signOf 34 = .ok (.goto 4, 3) := by decide +kernel
theorem dX4_signOf_37 : decode cX4_signOf 37 = .ok (.iconst 1, 1) := by decide +kernel
theorem dX4_signOf_38 : decode cX4_signOf 38 = .ok (.ireturn, 1) := by decide +kernel
theorem dX4_order_0 : decode cX4_order 0 = .ok (.aload_n 0, 1) := by decide +kernel
theorem dX4_order_1 : decode cX4_order 1 = .ok (.iload_n 1, 1) := by decide +kernel
theorem dX4_order_2 : decode cX4_order 2 = .ok (.invokevirtual 135, 3) := by decide +kernel
theorem dX4_order_5 : decode cX4_order 5 = .ok (.aload_n 0, 1) := by decide +kernel
theorem dX4_order_6 : decode cX4_order 6 = .ok (.iload_n 2, 1) := by decide +kernel
theorem dX4_order_7 : decode cX4_order 7 = .ok (.invokevirtual 135, 3) := by decide +kernel
theorem dX4_order_10 : decode cX4_order 10 = .ok (.if_icmp .eq 22, 3) := by decide +kernel
theorem dX4_order_13 : decode cX4_order 13 = .ok (.aload_n 0, 1) := by decide +kernel
theorem dX4_order_14 : decode cX4_order 14 = .ok (.iload_n 1, 1) := by decide +kernel
theorem dX4_order_15 : decode cX4_order 15 = .ok (.invokevirtual 135, 3) := by decide +kernel
theorem dX4_order_18 : decode cX4_order 18 = .ok (.aload_n 0, 1) := by decide +kernel
theorem dX4_order_19 : decode cX4_order 19 = .ok (.iload_n 2, 1) := by decide +kernel
theorem dX4_order_20 : decode cX4_order 20 = .ok (.invokevirtual 135, 3) := by decide +kernel
theorem dX4_order_23 : decode cX4_order 23 = .ok (.if_icmp .ge 7, 3) := by decide +kernel
theorem dX4_order_26 : decode cX4_order 26 = .ok (.iconst (-1), 1) := by decide +kernel
theorem dX4_order_27 : decode cX4_order 27 = .ok (.goto 4, 3) := by decide +kernel
theorem dX4_order_30 : decode cX4_order 30 = .ok (.iconst 1, 1) := by decide +kernel
theorem dX4_order_31 : decode cX4_order 31 = .ok (.ireturn, 1) := by decide +kernel
theorem dX4_order_32 : decode cX4_order 32 = .ok (.aload_n 0, 1) := by decide +kernel
theorem dX4_order_33 : decode cX4_order 33 = .ok (.iload_n 1, 1) := by decide +kernel
theorem dX4_order_34 : decode cX4_order 34 = .ok (.iconst 1, 1) := by decide +kernel
theorem dX4_order_35 : decode cX4_order 35 = .ok (.invokevirtual 107, 3) := by decide +kernel
theorem dX4_order_38 : decode cX4_order 38 = .ok (.ifCond .ne 12, 3) := by decide +kernel
theorem dX4_order_41 : decode cX4_order 41 = .ok (.aload_n 0, 1) := by decide +kernel
theorem dX4_order_42 : decode cX4_order 42 = .ok (.iload_n 2, 1) := by decide +kernel
theorem dX4_order_43 : decode cX4_order 43 = .ok (.iconst 1, 1) := by decide +kernel
theorem dX4_order_44 : decode cX4_order 44 = .ok (.invokevirtual 107, 3) := by decide +kernel
theorem dX4_order_47 : decode cX4_order 47 = .ok (.ifCond .eq 35, 3) := by decide +kernel
theorem dX4_order_50 : decode cX4_order 50 = .ok (.aload_n 0, 1) := by decide +kernel
theorem dX4_order_51 : decode cX4_order 51 = .ok (.iload_n 1, 1) := by decide +kernel
theorem dX4_order_52 : decode cX4_order 52 = .ok (.iconst 1, 1) := by decide +kernel
theorem dX4_order_53 : decode cX4_order 53 = .ok (.invokevirtual 107, 3) := by decide +kernel
theorem dX4_order_56 : decode cX4_order 56 = .ok (.ifCond .eq 7, 3) := by decide +kernel
theorem dX4_order_59 : decode cX4_order 59 = .ok (.iconst 1, 1) := by decide +kernel
theorem dX4_order_60 : decode cX4_order 60 = .ok (.goto 4, 3) := by decide +kernel
theorem dX4_order_63 : decode cX4_order 63 = .ok (.iconst 0, 1) := by decide +kernel
theorem dX4_order_64 : decode cX4_order 64 = .ok (.aload_n 0, 1) := by decide +kernel
theorem dX4_order_65 : decode cX4_order 65 = .ok (.iload_n 2, 1) := by decide +kernel
theorem dX4_order_66 : decode cX4_order 66 = .ok (.iconst 1, 1) := by decide +kernel
theorem dX4_order_67 : decode cX4_order 67 = .ok (.invokevirtual 107, 3) := by decide +kernel
theorem dX4_order_70 : decode cX4_order 70 = .ok (.ifCond .eq 7, 3) := by decide +kernel
theorem dX4_order_73 : decode cX4_order 73 = .ok (.iconst 1, 1) := by decide +kernel
theorem dX4_order_74 : decode cX4_order 74 = .ok (.goto 4, 3) := by decide +kernel
theorem dX4_order_77 : decode cX4_order 77 = .ok (.iconst 0, 1) := by decide +kernel
theorem dX4_order_78 : decode cX4_order 78 = .ok (.isub, 1) := by decide +kernel
theorem dX4_order_79 : decode cX4_order 79 = .ok (.goto 9, 3) := by decide +kernel
theorem dX4_order_82 : decode cX4_order 82 = .ok (.aload_n 0, 1) := by decide +kernel
theorem dX4_order_83 : decode cX4_order 83 = .ok (.iload_n 1, 1) := by decide +kernel
theorem dX4_order_84 : decode cX4_order 84 = .ok (.iload_n 2, 1) := by decide +kernel
theorem dX4_order_85 : decode cX4_order 85 = .ok (.invokevirtual 139, 3) := by decide +kernel
theorem dX4_order_88 : decode cX4_order 88 = .ok (.istore_n 3, 1) := by decide +kernel
theorem dX4_order_89 : decode cX4_order 89 = .ok (.aload_n 0, 1) := by decide +kernel
theorem dX4_order_90 : decode cX4_order 90 = .ok (.iload_n 1, 1) := by decide +kernel
theorem dX4_order_91 : decode cX4_order 91 = .ok (.invokevirtual 135, 3) := by decide +kernel
theorem dX4_order_94 : decode cX4_order 94 = .ok (.ifCond .ge 8, 3) := by decide +kernel
theorem dX4_order_97 : decode cX4_order 97 = .ok (.iload_n 3, 1) := by decide +kernel
theorem dX4_order_98 : decode cX4_order 98 = .ok (.ineg, 1) := by decide +kernel
theorem dX4_order_99 : decode cX4_order 99 = .ok (.goto 4, 3) := by decide +kernel
theorem dX4_order_102 : decode cX4_order 102 = .ok (.iload_n 3, 1) := by decide +kernel
theorem dX4_order_103 : decode cX4_order 103 = .ok (.ireturn, 1) := by decide +kernel
theorem dX4_next_0 : decode cX4_next 0 = .ok (.aload_n 0, 1) := by decide +kernel
theorem dX4_next_1 : decode cX4_next 1 = .ok (.iload_n 1, 1) := by decide +kernel
theorem dX4_next_2 : decode cX4_next 2 = .ok (.iconst 1, 1) := by decide +kernel
theorem dX4_next_3 : decode cX4_next 3 = .ok (.invokevirtual 107, 3) := by decide +kernel
theorem dX4_next_6 : decode cX4_next 6 = .ok (.ifCond .eq 60, 3) := by decide +kernel
theorem dX4_next_9 : decode cX4_next 9 = .ok (.aload_n 0, 1) := by decide +kernel
theorem dX4_next_10 : decode cX4_next 10 = .ok (.aload_n 0, 1) := by decide +kernel
theorem dX4_next_11 : decode cX4_next 11 = .ok (.getfield 13, 3) := by decide +kernel
theorem dX4_next_14 : decode cX4_next 14 = .ok (.iload_n 1, 1) := by decide +kernel
theorem dX4_next_15 : decode cX4_next 15 = .ok (.baload, 1) := by decide +kernel
theorem dX4_next_16 : decode cX4_next 16 = .ok (.ifCond .eq 7, 3) := by decide +kernel
theorem dX4_next_19 : decode cX4_next 19 = .ok (.iconst 0, 1) := by decide +kernel
theorem dX4_next_20 : decode cX4_next 20 = .ok (.goto 4, 3) := by decide +kernel
theorem dX4_next_23 : decode cX4_next 23 = .ok (.iconst 1, 1) := by decide +kernel
theorem dX4_next_24 : decode cX4_next 24 = .ok (.aload_n 0, 1) := by decide +kernel
theorem dX4_next_25 : decode cX4_next 25 = .ok (.getfield 13, 3) := by decide +kernel
theorem dX4_next_28 : decode cX4_next 28 = .ok (.iload_n 1, 1) := by decide +kernel
theorem dX4_next_29 : decode cX4_next 29 = .ok (.baload, 1) := by decide +kernel
theorem dX4_next_30 : decode cX4_next 30 = .ok (.aload_n 0, 1) := by decide +kernel
theorem dX4_next_31 : decode cX4_next 31 = .ok (.getfield 13, 3) := by decide +kernel
theorem dX4_next_34 : decode cX4_next 34 = .ok (.iload_n 1, 1) := by decide +kernel
theorem dX4_next_35 : decode cX4_next 35 = .ok (.baload, 1) := by decide +kernel
theorem dX4_next_36 : decode cX4_next 36 = .ok (.ifCond .eq 9, 3) := by decide +kernel
theorem dX4_next_39 : decode cX4_next 39 = .ok (.ldc2_w 101, 3) := by decide +kernel
theorem dX4_next_42 : decode cX4_next 42 = .ok (.goto 4, 3) := by decide +kernel
theorem dX4_next_45 : decode cX4_next 45 = .ok (.lconst 0, 1) := by decide +kernel
theorem dX4_next_46 : decode cX4_next 46 = .ok (.aload_n 0, 1) := by decide +kernel
theorem dX4_next_47 : decode cX4_next 47 = .ok (.getfield 13, 3) := by decide +kernel
theorem dX4_next_50 : decode cX4_next 50 = .ok (.iload_n 1, 1) := by decide +kernel
theorem dX4_next_51 : decode cX4_next 51 = .ok (.baload, 1) := by decide +kernel
theorem dX4_next_52 : decode cX4_next 52 = .ok (.ifCond .eq 9, 3) := by decide +kernel
theorem dX4_next_55 : decode cX4_next 55 = .ok (.sipush 369, 3) := by decide +kernel
theorem dX4_next_58 : decode cX4_next 58 = .ok (.goto 4, 3) := by decide +kernel
theorem dX4_next_61 : decode cX4_next 61 = .ok (.iconst 0, 1) := by decide +kernel
theorem dX4_next_62 : decode cX4_next 62 = .ok (.invokevirtual 59, 3) := by decide +kernel
theorem dX4_next_65 : decode cX4_next 65 = .ok (.return_, 1) := by decide +kernel
theorem dX4_next_66 : decode cX4_next 66 = .ok (.aload_n 0, 1) := by decide +kernel
theorem dX4_next_67 : decode cX4_next 67 = .ok (.getfield 17, 3) := by decide +kernel
theorem dX4_next_70 : decode cX4_next 70 = .ok (.iload_n 1, 1) := by decide +kernel
theorem dX4_next_71 : decode cX4_next 71 = .ok (.laload, 1) := by decide +kernel
theorem dX4_next_72 : decode cX4_next 72 = .ok (.lstore_n 2, 1) := by decide +kernel
theorem dX4_next_73 : decode cX4_next 73 = .ok (.aload_n 0, 1) := by decide +kernel
theorem dX4_next_74 : decode cX4_next 74 = .ok (.getfield 21, 3) := by decide +kernel
theorem dX4_next_77 : decode cX4_next 77 = .ok (.iload_n 1, 1) := by decide +kernel
theorem dX4_next_78 : decode cX4_next 78 = .ok (.iaload, 1) := by decide +kernel
theorem dX4_next_79 : decode cX4_next 79 = .ok (.istore 4, 2) := by decide +kernel
theorem dX4_next_81 : decode cX4_next 81 = .ok (.lload_n 2, 1) := by decide +kernel
theorem dX4_next_82 : decode cX4_next 82 = .ok (.lconst 0, 1) := by decide +kernel
theorem dX4_next_83 : decode cX4_next 83 = .ok (.lcmp, 1) := by decide +kernel
theorem dX4_next_84 : decode cX4_next 84 = .ok (.ifCond .ne 14, 3) := by decide +kernel
theorem dX4_next_87 : decode cX4_next 87 = .ok (.aload_n 0, 1) := by decide +kernel
theorem dX4_next_88 : decode cX4_next 88 = .ok (.iconst 0, 1) := by decide +kernel
theorem dX4_next_89 : decode cX4_next 89 = .ok (.iconst 0, 1) := by decide +kernel
theorem dX4_next_90 : decode cX4_next 90 = .ok (.lconst 1, 1) := by decide +kernel
theorem dX4_next_91 : decode cX4_next 91 = .ok (.sipush (-398), 3) := by decide +kernel
theorem dX4_next_94 : decode cX4_next 94 = .ok (.invokevirtual 59, 3) := by decide +kernel
theorem dX4_next_97 : decode cX4_next 97 = .ok (.return_, 1) := by decide +kernel
theorem dX4_next_98 : decode cX4_next 98 = .ok (.iload 4, 2) := by decide +kernel
theorem dX4_next_100 : decode cX4_next 100 = .ok (.sipush (-398), 3) := by decide +kernel
theorem dX4_next_103 : decode cX4_next 103 = .ok (.if_icmp .le 23, 3) := by decide +kernel
theorem dX4_next_106 : decode cX4_next 106 = .ok (.lload_n 2, 1) := by decide +kernel
theorem dX4_next_107 : decode cX4_next 107 = .ok (.ldc2_w 99, 3) := by decide +kernel
theorem dX4_next_110 : decode cX4_next 110 = .ok (.lcmp, 1) := by decide +kernel
theorem dX4_next_111 : decode cX4_next 111 = .ok (.ifCond .ge 15, 3) := by decide +kernel
theorem dX4_next_114 : decode cX4_next 114 = .ok (.ldc2_w 37, 3) := by decide +kernel
theorem dX4_next_117 : decode cX4_next 117 = .ok (.lload_n 2, 1) := by decide +kernel
theorem dX4_next_118 : decode cX4_next 118 = .ok (.lmul, 1) := by decide +kernel
theorem dX4_next_119 : decode cX4_next 119 = .ok (.lstore_n 2, 1) := by decide +kernel
theorem dX4_next_120 : decode cX4_next 120 = .ok (.iinc 4 (-1), 3) := by decide +kernel
theorem dX4_next_123 : decode cX4_next 123 = .ok (.goto (-25), 3) := by decide +kernel
theorem dX4_next_126 : decode cX4_next 126 = .ok (.aload_n 0, 1) := by decide +kernel
theorem dX4_next_127 : decode cX4_next 127 = .ok (.getfield 13, 3) := by decide +kernel
theorem dX4_next_130 : decode cX4_next 130 = .ok (.iload_n 1, 1) := by decide +kernel
theorem dX4_next_131 : decode cX4_next 131 = .ok (.baload, 1) := by decide +kernel
theorem dX4_next_132 : decode cX4_next 132 = .ok (.ifCond .ne 90, 3) := by decide +kernel
theorem dX4_next_135 : decode cX4_next 135 = .ok (.lload_n 2, 1) := by decide +kernel
theorem dX4_next_136 : decode cX4_next 136 = .ok (.lconst 1, 1) := by decide +kernel
theorem dX4_next_137 : decode cX4_next 137 = .ok (.ladd, 1) := by decide +kernel
theorem dX4_next_138 : decode cX4_next 138 = .ok (.lstore_n 2, 1) := by decide +kernel
theorem dX4_next_139 : decode cX4_next 139 = .ok (.lload_n 2, 1) := by decide +kernel
theorem dX4_next_140 : decode cX4_next 140 = .ok (.ldc2_w 97, 3) := by decide +kernel
theorem dX4_next_143 : decode cX4_next 143 = .ok (.lcmp, 1) := by decide +kernel
theorem dX4_next_144 : decode cX4_next 144 = .ok (.ifCond .ne 10, 3) := by decide +kernel
theorem dX4_next_147 : decode cX4_next 147 = .ok (.iload 4, 2) := by decide +kernel
theorem dX4_next_149 : decode cX4_next 149 = .ok (.iconst 1, 1) := by decide +kernel
theorem dX4_next_150 : decode cX4_next 150 = .ok (.iadd, 1) := by decide +kernel
theorem dX4_next_151 : decode cX4_next 151 = .ok (.goto 5, 3) := by decide +kernel
theorem dX4_next_154 : decode cX4_next 154 = .ok (.iload 4, 2) := by decide +kernel
theorem dX4_next_156 : decode cX4_next 156 = .ok (.istore 4, 2) := by decide +kernel
theorem dX4_next_158 : decode cX4_next 158 = .ok (.lload_n 2, 1) := by decide +kernel
theorem dX4_next_159 : decode cX4_next 159 = .ok (.ldc2_w 97, 3) := by decide +kernel
theorem dX4_next_162 : decode cX4_next 162 = .ok (.lcmp, 1) := by decide +kernel
theorem dX4_next_163 : decode cX4_next 163 = .ok (.ifCond .ne 9, 3) := by decide +kernel
theorem dX4_next_166 : decode cX4_next 166 = .ok (.ldc2_w 99, 3) := by decide +kernel
theorem dX4_next_169 : decode cX4_next 169 = .ok (.goto 4, 3) := by decide +kernel
theorem dX4_next_172 : decode cX4_next 172 = .ok (.lload_n 2, 1) := by decide +kernel
theorem dX4_next_173 : decode cX4_next 173 = .ok (.lstore_n 2, 1) := by decide +kernel
theorem dX4_next_174 : decode cX4_next 174 = .ok (.aload_n 0, 1) := by decide +kernel
theorem dX4_next_175 : decode cX4_next 175 = .ok (.iload 4, 2) := by decide +kernel
theorem dX4_next_177 : decode cX4_next 177 = .ok (.sipush 369, 3) := by decide +kernel
theorem dX4_next_180 : decode cX4_next 180 = .ok (.if_icmp .le 7, 3) := by decide +kernel
theorem dX4_next_183 : decode cX4_next 183 = .ok (.iconst 1, 1) := by decide +kernel
theorem dX4_next_184 : decode cX4_next 184 = .ok (.goto 4, 3) := by decide +kernel
theorem dX4_next_187 : decode cX4_next 187 = .ok (.iconst 0, 1) := by decide +kernel
theorem dX4_next_188 : decode cX4_next 188 = .ok (.iconst 0, 1) := by decide +kernel
theorem dX4_next_189 : decode cX4_next 189 = .ok (.iload 4, 2) := by decide +kernel
theorem dX4_next_191 : decode cX4_next 191 = .ok (.sipush 369, 3) := by decide +kernel
theorem dX4_next_194 : decode cX4_next 194 = .ok (.if_icmp .le 7, 3) := by decide +kernel
theorem dX4_next_197 : decode cX4_next 197 = .ok (.lconst 0, 1) := by decide +kernel
theorem dX4_next_198 : decode cX4_next 198 = .ok (.goto 4, 3) := by decide +kernel
theorem dX4_next_201 : decode cX4_next 201 = .ok (.lload_n 2, 1) := by decide +kernel
theorem dX4_next_202 : decode cX4_next 202 = .ok (.iload 4, 2) := by decide +kernel
theorem dX4_next_204 : decode cX4_next 204 = .ok (.sipush 369, 3) := by decide +kernel
theorem dX4_next_207 : decode cX4_next 207 = .ok (.if_icmp .le 7, 3) := by decide +kernel
theorem dX4_next_210 : decode cX4_next 210 = .ok (.iconst 0, 1) := by decide +kernel
theorem dX4_next_211 : decode cX4_next 211 = .ok (.goto 5, 3) := by decide +kernel
theorem dX4_next_214 : decode cX4_next 214 = .ok (.iload 4, 2) := by decide +kernel
theorem dX4_next_216 : decode cX4_next 216 = .ok (.invokevirtual 59, 3) := by decide +kernel
theorem dX4_next_219 : decode cX4_next 219 = .ok (.goto 46, 3) := by decide +kernel
theorem dX4_next_222 : decode cX4_next 222 = .ok (.lload_n 2, 1) := by decide +kernel
theorem dX4_next_223 : decode cX4_next 223 = .ok (.ldc2_w 99, 3) := by decide +kernel
theorem dX4_next_226 : decode cX4_next 226 = .ok (.lcmp, 1) := by decide +kernel
theorem dX4_next_227 : decode cX4_next 227 = .ok (.ifCond .ne 27, 3) := by decide +kernel
theorem dX4_next_230 : decode cX4_next 230 = .ok (.iload 4, 2) := by decide +kernel
theorem dX4_next_232 : decode cX4_next 232 = .ok (.sipush (-398), 3) := by decide +kernel
theorem dX4_next_235 : decode cX4_next 235 = .ok (.if_icmp .le 19, 3) := by decide +kernel
theorem dX4_next_238 : decode cX4_next 238 = .ok (.aload_n 0, 1) := by decide +kernel
theorem dX4_next_239 : decode cX4_next 239 = .ok (.iconst 0, 1) := by decide +kernel
theorem dX4_next_240 : decode cX4_next 240 = .ok (.iconst 1, 1) := by decide +kernel
theorem dX4_next_241 : decode cX4_next 241 = .ok (.ldc2_w 101, 3) := by decide +kernel
theorem dX4_next_244 : decode cX4_next 244 = .ok (.iload 4, 2) := by decide +kernel
theorem dX4_next_246 : decode cX4_next 246 = .ok (.iconst 1, 1) := by decide +kernel
theorem dX4_next_247 : decode cX4_next 247 = .ok (.isub, 1) := by decide +kernel
theorem dX4_next_248 : decode cX4_next 248 = .ok (.invokevirtual 59, 3) := by decide +kernel
theorem dX4_next_251 : decode cX4_next 251 = .ok (.goto 14, 3) := by decide +kernel
theorem dX4_next_254 : decode cX4_next 254 = .ok (.aload_n 0, 1) := by decide +kernel
theorem dX4_next_255 : decode cX4_next 255 = .ok (.iconst 0, 1) := by decide +kernel
theorem dX4_next_256 : decode cX4_next 256 = .ok (.iconst 1, 1) := by decide +kernel
theorem dX4_next_257 : decode cX4_next 257 = .ok (.lload_n 2, 1) := by decide +kernel
theorem dX4_next_258 : decode cX4_next 258 = .ok (.lconst 1, 1) := by decide +kernel
theorem dX4_next_259 : decode cX4_next 259 = .ok (.lsub, 1) := by decide +kernel
theorem dX4_next_260 : decode cX4_next 260 = .ok (.iload 4, 2) := by decide +kernel
theorem dX4_next_262 : decode cX4_next 262 = .ok (.invokevirtual 59, 3) := by decide +kernel
theorem dX4_next_265 : decode cX4_next 265 = .ok (.return_, 1) := by decide +kernel
theorem dX4_copy_0 : decode cX4_copy 0 = .ok (.aload_n 0, 1) := by decide +kernel
theorem dX4_copy_1 : decode cX4_copy 1 = .ok (.aload_n 0, 1) := by decide +kernel
theorem dX4_copy_2 : decode cX4_copy 2 = .ok (.getfield 7, 3) := by decide +kernel
theorem dX4_copy_5 : decode cX4_copy 5 = .ok (.iload_n 1, 1) := by decide +kernel
theorem dX4_copy_6 : decode cX4_copy 6 = .ok (.iaload, 1) := by decide +kernel
theorem dX4_copy_7 : decode cX4_copy 7 = .ok (.aload_n 0, 1) := by decide +kernel
theorem dX4_copy_8 : decode cX4_copy 8 = .ok (.getfield 13, 3) := by decide +kernel
theorem dX4_copy_11 : decode cX4_copy 11 = .ok (.iload_n 1, 1) := by decide +kernel
theorem dX4_copy_12 : decode cX4_copy 12 = .ok (.baload, 1) := by decide +kernel
theorem dX4_copy_13 : decode cX4_copy 13 = .ok (.aload_n 0, 1) := by decide +kernel
theorem dX4_copy_14 : decode cX4_copy 14 = .ok (.getfield 17, 3) := by decide +kernel
theorem dX4_copy_17 : decode cX4_copy 17 = .ok (.iload_n 1, 1) := by decide +kernel
theorem dX4_copy_18 : decode cX4_copy 18 = .ok (.laload, 1) := by decide +kernel
theorem dX4_copy_19 : decode cX4_copy 19 = .ok (.aload_n 0, 1) := by decide +kernel
theorem dX4_copy_20 : decode cX4_copy 20 = .ok (.getfield 21, 3) := by decide +kernel
theorem dX4_copy_23 : decode cX4_copy 23 = .ok (.iload_n 1, 1) := by decide +kernel
theorem dX4_copy_24 : decode cX4_copy 24 = .ok (.iaload, 1) := by decide +kernel
theorem dX4_copy_25 : decode cX4_copy 25 = .ok (.invokevirtual 59, 3) := by decide +kernel
theorem dX4_copy_28 : decode cX4_copy 28 = .ok (.return_, 1) := by decide +kernel
theorem dX4_operate_0 : decode cX4_operate 0 = .ok (.aload_n 0, 1) := by decide +kernel
theorem dX4_operate_1 : decode cX4_operate 1 = .ok (.iconst 0, 1) := by decide +kernel
theorem dX4_operate_2 : decode cX4_operate 2 = .ok (.putfield 56, 3) := by decide +kernel
theorem dX4_operate_5 : decode cX4_operate 5 = .ok (.aload_n 0, 1) := by decide +kernel
theorem dX4_operate_6 : decode cX4_operate 6 = .ok (.iload_n 2, 1) := by decide +kernel
theorem dX4_operate_7 : decode cX4_operate 7 = .ok (.iconst 2, 1) := by decide +kernel
theorem dX4_operate_8 : decode cX4_operate 8 = .ok (.invokevirtual 107, 3) := by decide +kernel
theorem dX4_operate_11 : decode cX4_operate 11 = .ok (.ifCond .ne 18, 3) := by decide +kernel
theorem dX4_operate_14 : decode cX4_operate 14 = .ok (.iload_n 1, 1) := by decide +kernel
theorem dX4_operate_15 : decode cX4_operate 15 = .ok (.bipush 6, 2) := by decide +kernel
theorem dX4_operate_17 : decode cX4_operate 17 = .ok (.if_icmp .eq 23, 3) := by decide +kernel
theorem dX4_operate_20 : decode cX4_operate 20 = .ok (.aload_n 0, 1) := by decide +kernel
theorem dX4_operate_21 : decode cX4_operate 21 = .ok (.iload_n 3, 1) := by decide +kernel
theorem dX4_operate_22 : decode cX4_operate 22 = .ok (.iconst 2, 1) := by decide +kernel
theorem dX4_operate_23 : decode cX4_operate 23 = .ok (.invokevirtual 107, 3) := by decide +kernel
theorem dX4_operate_26 : decode cX4_operate 26 = .ok (.ifCond .eq 14, 3) := by decide +kernel
theorem dX4_operate_29 : decode cX4_operate 29 = .ok (.aload_n 0, 1) := by decide +kernel
theorem dX4_operate_30 : decode cX4_operate 30 = .ok (.iconst 2, 1) := by decide +kernel
theorem dX4_operate_31 : decode cX4_operate 31 = .ok (.iconst 0, 1) := by decide +kernel
theorem dX4_operate_32 : decode cX4_operate 32 = .ok (.lconst 0, 1) := by decide +kernel
theorem dX4_operate_33 : decode cX4_operate 33 = .ok (.iconst 0, 1) := by decide +kernel
theorem dX4_operate_34 : decode cX4_operate 34 = .ok (.invokevirtual 59, 3) := by decide +kernel
theorem dX4_operate_37 : decode cX4_operate 37 = .ok (.goto 100, 3) := by decide +kernel
theorem dX4_operate_40 : decode cX4_operate 40 = .ok (.iload_n 1, 1) := by decide +kernel
theorem dX4_operate_41 : decode cX4_operate 41 = .ok (.iconst 2, 1) := by decide +kernel
theorem dX4_operate_42 : decode cX4_operate 42 = .ok (.if_icmp .ge 22, 3) := by decide +kernel
theorem dX4_operate_45 : decode cX4_operate 45 = .ok (.aload_n 0, 1) := by decide +kernel
theorem dX4_operate_46 : decode cX4_operate 46 = .ok (.iload_n 2, 1) := by decide +kernel
theorem dX4_operate_47 : decode cX4_operate 47 = .ok (.iload_n 3, 1) := by decide +kernel
theorem dX4_operate_48 : decode cX4_operate 48 = .ok (.iload_n 1, 1) := by decide +kernel
theorem dX4_operate_49 : decode cX4_operate 49 = .ok (.iconst 1, 1) := by decide +kernel
theorem dX4_operate_50 : decode cX4_operate 50 = .ok (.if_icmp .ne 7, 3) := by decide +kernel
theorem dX4_operate_53 : decode cX4_operate 53 = .ok (.iconst 1, 1) := by decide +kernel
theorem dX4_operate_54 : decode cX4_operate 54 = .ok (.goto 4, 3) := by decide +kernel
theorem dX4_operate_57 : decode cX4_operate 57 = .ok (.iconst 0, 1) := by decide +kernel
theorem dX4_operate_58 : decode cX4_operate 58 = .ok (.invokevirtual 143, 3) := by decide +kernel
theorem dX4_operate_61 : decode cX4_operate 61 = .ok (.goto 76, 3) := by decide +kernel
theorem dX4_operate_64 : decode cX4_operate 64 = .ok (.iload_n 1, 1) := by decide +kernel
theorem dX4_operate_65 : decode cX4_operate 65 = .ok (.iconst 2, 1) := by decide +kernel
theorem dX4_operate_66 : decode cX4_operate 66 = .ok (.if_icmp .ne 12, 3) := by decide +kernel
theorem dX4_operate_69 : decode cX4_operate 69 = .ok (.aload_n 0, 1) := by decide +kernel
theorem dX4_operate_70 : decode cX4_operate 70 = .ok (.iload_n 2, 1) := by decide +kernel
theorem dX4_operate_71 : decode cX4_operate 71 = .ok (.iload_n 3, 1) := by decide +kernel
theorem dX4_operate_72 : decode cX4_operate 72 = .ok (.invokevirtual 147, 3) := by decide +kernel
theorem dX4_operate_75 : decode cX4_operate 75 = .ok (.goto 62, 3) := by decide +kernel
theorem dX4_operate_78 : decode cX4_operate 78 = .ok (.iload_n 1, 1) := by decide +kernel
theorem dX4_operate_79 : decode cX4_operate 79 = .ok (.iconst 3, 1) := by decide +kernel
theorem dX4_operate_80 : decode cX4_operate 80 = .ok (.if_icmp .ne 12, 3) := by decide +kernel
theorem dX4_operate_83 : decode cX4_operate 83 = .ok (.aload_n 0, 1) := by decide +kernel
theorem dX4_operate_84 : decode cX4_operate 84 = .ok (.iload_n 2, 1) := by decide +kernel
theorem dX4_operate_85 : decode cX4_operate 85 = .ok (.iload_n 3, 1) := by decide +kernel
theorem dX4_operate_86 : decode cX4_operate 86 = .ok (.invokevirtual 151, 3) := by decide +kernel
theorem dX4_operate_89 : decode cX4_operate 89 = .ok (.goto 48, 3) := by decide +kernel
theorem dX4_operate_92 : decode cX4_operate 92 = .ok (.iload_n 1, 1) := by decide +kernel
theorem dX4_operate_93 : decode cX4_operate 93 = .ok (.iconst 4, 1) := by decide +kernel
theorem dX4_operate_94 : decode cX4_operate 94 = .ok (.if_icmp .ne 12, 3) := by decide +kernel
theorem dX4_operate_97 : decode cX4_operate 97 = .ok (.aload_n 0, 1) := by decide +kernel
theorem dX4_operate_98 : decode cX4_operate 98 = .ok (.iload_n 2, 1) := by decide +kernel
theorem dX4_operate_99 : decode cX4_operate 99 = .ok (.iload_n 3, 1) := by decide +kernel
theorem dX4_operate_100 : decode cX4_operate 100 = .ok (.invokevirtual 154, 3) := by decide +kernel
theorem dX4_operate_103 : decode cX4_operate 103 = .ok (.goto 34, 3) := by decide +kernel
theorem dX4_operate_106 : decode cX4_operate 106 = .ok (.iload_n 1, 1) := by decide +kernel
theorem dX4_operate_107 : decode cX4_operate 107 = .ok (.iconst 5, 1) := by decide +kernel
theorem dX4_operate_108 : decode cX4_operate 108 = .ok (.if_icmp .ne 24, 3) := by decide +kernel
theorem dX4_operate_111 : decode cX4_operate 111 = .ok (.aload_n 0, 1) := by decide +kernel
theorem dX4_operate_112 : decode cX4_operate 112 = .ok (.aload_n 0, 1) := by decide +kernel
theorem dX4_operate_113 : decode cX4_operate 113 = .ok (.iload_n 2, 1) := by decide +kernel
theorem dX4_operate_114 : decode cX4_operate 114 = .ok (.iload_n 3, 1) := by decide +kernel
theorem dX4_operate_115 : decode cX4_operate 115 = .ok (.invokevirtual 157, 3) := by decide +kernel
theorem dX4_operate_118 : decode cX4_operate 118 = .ok (.ifCond .le 7, 3) := by decide +kernel
theorem dX4_operate_121 : decode cX4_operate 121 = .ok (.iload_n 3, 1) := by decide +kernel
theorem dX4_operate_122 : decode cX4_operate 122 = .ok (.goto 4, 3) := by decide +kernel
theorem dX4_operate_125 : decode cX4_operate 125 = .ok (.iload_n 2, 1) := by decide +kernel
theorem dX4_operate_126 : decode cX4_operate 126 = .ok (.invokevirtual 160, 3) := by decide +kernel
theorem dX4_operate_129 : decode cX4_operate 129 = .ok (.goto 8, 3) := by decide +kernel
theorem dX4_operate_132 : decode cX4_operate 132 = .ok (.aload_n 0, 1) := by decide +kernel
theorem dX4_operate_133 : decode cX4_operate 133 = .ok (.iload_n 2, 1) := by decide +kernel
theorem dX4_operate_134 : decode cX4_operate 134 = .ok (.invokevirtual 164, 3) := by decide +kernel
theorem dX4_operate_137 : decode cX4_operate 137 = .ok (.return_, 1) := by decide +kernel
theorem dX4_noRegister_0 : decode cX4_noRegister 0 = .ok (.iload_n 1, 1) := by decide +kernel
theorem dX4_noRegister_1 : decode cX4_noRegister 1 = .ok (.ifCond .lt 9, 3) := by decide +kernel
theorem dX4_noRegister_4 : decode cX4_noRegister 4 = .ok (.iload_n 1, 1) := by decide +kernel
theorem dX4_noRegister_5 : decode cX4_noRegister 5 = .ok (.bipush 7, 2) := by decide +kernel
theorem dX4_noRegister_7 : decode cX4_noRegister 7 = .ok (.if_icmp .le 7, 3) := by decide +kernel
theorem dX4_noRegister_10 : decode cX4_noRegister 10 = .ok (.iconst 1, 1) := by decide +kernel
theorem dX4_noRegister_11 : decode cX4_noRegister 11 = .ok (.goto 4, 3) := by decide +kernel
theorem dX4_noRegister_14 : decode cX4_noRegister 14 = .ok (.iconst 0, 1) := by decide +kernel
theorem dX4_noRegister_15 : decode cX4_noRegister 15 = .ok (.ireturn, 1) := by decide +kernel
theorem dX4_store_0 : decode cX4_store 0 = .ok (.aload_n 0, 1) := by decide +kernel
theorem dX4_store_1 : decode cX4_store 1 = .ok (.getfield 7, 3) := by decide +kernel
theorem dX4_store_4 : decode cX4_store 4 = .ok (.iload_n 1, 1) := by decide +kernel
theorem dX4_store_5 : decode cX4_store 5 = .ok (.aload_n 0, 1) := by decide +kernel
theorem dX4_store_6 : decode cX4_store 6 = .ok (.getfield 42, 3) := by decide +kernel
theorem dX4_store_9 : decode cX4_store 9 = .ok (.iastore, 1) := by decide +kernel
theorem dX4_store_10 : decode cX4_store 10 = .ok (.aload_n 0, 1) := by decide +kernel
theorem dX4_store_11 : decode cX4_store 11 = .ok (.getfield 13, 3) := by decide +kernel
theorem dX4_store_14 : decode cX4_store 14 = .ok (.iload_n 1, 1) := by decide +kernel
theorem dX4_store_15 : decode cX4_store 15 = .ok (.aload_n 0, 1) := by decide +kernel
theorem dX4_store_16 : decode cX4_store 16 = .ok (.getfield 45, 3) := by decide +kernel
theorem dX4_store_19 : decode cX4_store 19 = .ok (.bastore, 1) := by decide +kernel
theorem dX4_store_20 : decode cX4_store 20 = .ok (.aload_n 0, 1) := by decide +kernel
theorem dX4_store_21 : decode cX4_store 21 = .ok (.getfield 17, 3) := by decide +kernel
theorem dX4_store_24 : decode cX4_store 24 = .ok (.iload_n 1, 1) := by decide +kernel
theorem dX4_store_25 : decode cX4_store 25 = .ok (.aload_n 0, 1) := by decide +kernel
theorem dX4_store_26 : decode cX4_store 26 = .ok (.getfield 49, 3) := by decide +kernel
theorem dX4_store_29 : decode cX4_store 29 = .ok (.lastore, 1) := by decide +kernel
theorem dX4_store_30 : decode cX4_store 30 = .ok (.aload_n 0, 1) := by decide +kernel
theorem dX4_store_31 : decode cX4_store 31 = .ok (.getfield 21, 3) := by decide +kernel
theorem dX4_store_34 : decode cX4_store 34 = .ok (.iload_n 1, 1) := by decide +kernel
theorem dX4_store_35 : decode cX4_store 35 = .ok (.aload_n 0, 1) := by decide +kernel
theorem dX4_store_36 : decode cX4_store 36 = .ok (.getfield 53, 3) := by decide +kernel
theorem dX4_store_39 : decode cX4_store 39 = .ok (.iastore, 1) := by decide +kernel
theorem dX4_store_40 : decode cX4_store 40 = .ok (.return_, 1) := by decide +kernel
theorem dX4_apply_0 : decode cX4_apply 0 = .ok (.aload_n 0, 1) := by decide +kernel
theorem dX4_apply_1 : decode cX4_apply 1 = .ok (.aload_n 0, 1) := by decide +kernel
theorem dX4_apply_2 : decode cX4_apply 2 = .ok (.iload_n 2, 1) := by decide +kernel
theorem dX4_apply_3 : decode cX4_apply 3 = .ok (.invokevirtual 167, 3) := by decide +kernel
theorem dX4_apply_6 : decode cX4_apply 6 = .ok (.ifCond .ne 20, 3) := by decide +kernel
theorem dX4_apply_9 : decode cX4_apply 9 = .ok (.aload_n 0, 1) := by decide +kernel
theorem dX4_apply_10 : decode cX4_apply 10 = .ok (.iload_n 3, 1) := by decide +kernel
theorem dX4_apply_11 : decode cX4_apply 11 = .ok (.invokevirtual 167, 3) := by decide +kernel
theorem dX4_apply_14 : decode cX4_apply 14 = .ok (.ifCond .ne 12, 3) := by decide +kernel
theorem dX4_apply_17 : decode cX4_apply 17 = .ok (.aload_n 0, 1) := by decide +kernel
theorem dX4_apply_18 : decode cX4_apply 18 = .ok (.iload 4, 2) := by decide +kernel
theorem dX4_apply_20 : decode cX4_apply 20 = .ok (.invokevirtual 167, 3) := by decide +kernel
theorem dX4_apply_23 : decode cX4_apply 23 = .ok (.ifCond .eq 7, 3) := by decide +kernel
theorem dX4_apply_26 : decode cX4_apply 26 = .ok (.iconst 1, 1) := by decide +kernel
theorem dX4_apply_27 : decode cX4_apply 27 = .ok (.goto 18, 3) := by decide +kernel
theorem dX4_apply_30 : decode cX4_apply 30 = .ok (.iload_n 1, 1) := by decide +kernel
theorem dX4_apply_31 : decode cX4_apply 31 = .ok (.ifCond .lt 9, 3) := by decide +kernel
theorem dX4_apply_34 : decode cX4_apply 34 = .ok (.iload_n 1, 1) := by decide +kernel
theorem dX4_apply_35 : decode cX4_apply 35 = .ok (.bipush 6, 2) := by decide +kernel
theorem dX4_apply_37 : decode cX4_apply 37 = .ok (.if_icmp .le 7, 3) := by decide +kernel
theorem dX4_apply_40 : decode cX4_apply 40 = .ok (.iconst 2, 1) := by decide +kernel
theorem dX4_apply_41 : decode cX4_apply 41 = .ok (.goto 4, 3) := by decide +kernel
theorem dX4_apply_44 : decode cX4_apply 44 = .ok (.iconst 0, 1) := by decide +kernel
theorem dX4_apply_45 : decode cX4_apply 45 = .ok (.putfield 30, 3) := by decide +kernel
theorem dX4_apply_48 : decode cX4_apply 48 = .ok (.aload_n 0, 1) := by decide +kernel
theorem dX4_apply_49 : decode cX4_apply 49 = .ok (.getfield 30, 3) := by decide +kernel
theorem dX4_apply_52 : decode cX4_apply 52 = .ok (.ifCond .eq 4, 3) := by decide +kernel
theorem dX4_apply_55 : decode cX4_apply 55 = .ok (.return_, 1) := by decide +kernel
theorem dX4_apply_56 : decode cX4_apply 56 = .ok (.aload_n 0, 1) := by decide +kernel
theorem dX4_apply_57 : decode cX4_apply 57 = .ok (.iload_n 1, 1) := by decide +kernel
theorem dX4_apply_58 : decode cX4_apply 58 = .ok (.iload_n 3, 1) := by decide +kernel
theorem dX4_apply_59 : decode cX4_apply 59 = .ok (.iload 4, 2) := by decide +kernel
theorem dX4_apply_61 : decode cX4_apply 61 = .ok (.invokevirtual 171, 3) := by decide +kernel
theorem dX4_apply_64 : decode cX4_apply 64 = .ok (.aload_n 0, 1) := by decide +kernel
theorem dX4_apply_65 : decode cX4_apply 65 = .ok (.aload_n 0, 1) := by decide +kernel
theorem dX4_apply_66 : decode cX4_apply 66 = .ok (.getfield 175, 3) := by decide +kernel
theorem dX4_apply_69 : decode cX4_apply 69 = .ok (.aload_n 0, 1) := by decide +kernel
theorem dX4_apply_70 : decode cX4_apply 70 = .ok (.getfield 56, 3) := by decide +kernel
theorem dX4_apply_73 : decode cX4_apply 73 = .ok (.ior, 1) := by decide +kernel
theorem dX4_apply_74 : decode cX4_apply 74 = .ok (.putfield 175, 3) := by decide +kernel
theorem dX4_apply_77 : decode cX4_apply 77 = .ok (.aload_n 0, 1) := by decide +kernel
theorem dX4_apply_78 : decode cX4_apply 78 = .ok (.getfield 56, 3) := by decide +kernel
theorem dX4_apply_81 : decode cX4_apply 81 = .ok (.aload_n 0, 1) := by decide +kernel
theorem dX4_apply_82 : decode cX4_apply 82 = .ok (.getfield 178, 3) := by decide +kernel
theorem dX4_apply_85 : decode cX4_apply 85 = .ok (.iand, 1) := by decide +kernel
theorem dX4_apply_86 : decode cX4_apply 86 = .ok (.ifCond .eq 11, 3) := by decide +kernel
theorem dX4_apply_89 : decode cX4_apply 89 = .ok (.aload_n 0, 1) := by decide +kernel
theorem dX4_apply_90 : decode cX4_apply 90 = .ok (.iconst 3, 1) := by decide +kernel
theorem dX4_apply_91 : decode cX4_apply 91 = .ok (.putfield 30, 3) := by decide +kernel
theorem dX4_apply_94 : decode cX4_apply 94 = .ok (.goto 8, 3) := by decide +kernel
theorem dX4_apply_97 : decode cX4_apply 97 = .ok (.aload_n 0, 1) := by decide +kernel
theorem dX4_apply_98 : decode cX4_apply 98 = .ok (.iload_n 2, 1) := by decide +kernel
theorem dX4_apply_99 : decode cX4_apply 99 = .ok (.invokevirtual 181, 3) := by decide +kernel
theorem dX4_apply_102 : decode cX4_apply 102 = .ok (.return_, 1) := by decide +kernel
theorem dX4_sum_0 : decode cX4_sum 0 = .ok (.aload_n 0, 1) := by decide +kernel
theorem dX4_sum_1 : decode cX4_sum 1 = .ok (.aload_n 0, 1) := by decide +kernel
theorem dX4_sum_2 : decode cX4_sum 2 = .ok (.iload_n 1, 1) := by decide +kernel
theorem dX4_sum_3 : decode cX4_sum 3 = .ok (.invokevirtual 167, 3) := by decide +kernel
theorem dX4_sum_6 : decode cX4_sum 6 = .ok (.ifCond .ne 19, 3) := by decide +kernel
theorem dX4_sum_9 : decode cX4_sum 9 = .ok (.aload_n 0, 1) := by decide +kernel
theorem dX4_sum_10 : decode cX4_sum 10 = .ok (.iload_n 2, 1) := by decide +kernel
theorem dX4_sum_11 : decode cX4_sum 11 = .ok (.invokevirtual 167, 3) := by decide +kernel
theorem dX4_sum_14 : decode cX4_sum 14 = .ok (.ifCond .ne 11, 3) := by decide +kernel
theorem dX4_sum_17 : decode cX4_sum 17 = .ok (.aload_n 0, 1) := by decide +kernel
theorem dX4_sum_18 : decode cX4_sum 18 = .ok (.iload_n 3, 1) := by decide +kernel
theorem dX4_sum_19 : decode cX4_sum 19 = .ok (.invokevirtual 167, 3) := by decide +kernel
theorem dX4_sum_22 : decode cX4_sum 22 = .ok (.ifCond .eq 7, 3) := by decide +kernel
theorem dX4_sum_25 : decode cX4_sum 25 = .ok (.iconst 1, 1) := by decide +kernel
theorem dX4_sum_26 : decode cX4_sum 26 = .ok (.goto 4, 3) := by decide +kernel
theorem dX4_sum_29 : decode cX4_sum 29 = .ok (.iconst 0, 1) := by decide +kernel
theorem dX4_sum_30 : decode cX4_sum 30 = .ok (.putfield 30, 3) := by decide +kernel
theorem dX4_sum_33 : decode cX4_sum 33 = .ok (.iconst 0, 1) := by decide +kernel
theorem dX4_sum_34 : decode cX4_sum 34 = .ok (.istore 4, 2) := by decide +kernel
theorem dX4_sum_36 : decode cX4_sum 36 = .ok (.iload_n 2, 1) := by decide +kernel
theorem dX4_sum_37 : decode cX4_sum 37 = .ok (.istore 5, 2) := by decide +kernel
theorem dX4_sum_39 : decode cX4_sum 39 = .ok (.iload 5, 2) := by decide +kernel
theorem dX4_sum_41 : decode cX4_sum 41 = .ok (.iload_n 3, 1) := by decide +kernel
theorem dX4_sum_42 : decode cX4_sum 42 = .ok (.if_icmp .gt 60, 3) := by decide +kernel
theorem dX4_sum_45 : decode cX4_sum 45 = .ok (.aload_n 0, 1) := by decide +kernel
theorem dX4_sum_46 : decode cX4_sum 46 = .ok (.getfield 30, 3) := by decide +kernel
theorem dX4_sum_49 : decode cX4_sum 49 = .ok (.ifCond .ne 53, 3) := by decide +kernel
theorem dX4_sum_52 : decode cX4_sum 52 = .ok (.aload_n 0, 1) := by decide +kernel
theorem dX4_sum_53 : decode cX4_sum 53 = .ok (.iconst 0, 1) := by decide +kernel
theorem dX4_sum_54 : decode cX4_sum 54 = .ok (.iload_n 1, 1) := by decide +kernel
theorem dX4_sum_55 : decode cX4_sum 55 = .ok (.iload 5, 2) := by decide +kernel
theorem dX4_sum_57 : decode cX4_sum 57 = .ok (.invokevirtual 171, 3) := by decide +kernel
theorem dX4_sum_60 : decode cX4_sum 60 = .ok (.aload_n 0, 1) := by decide +kernel
theorem dX4_sum_61 : decode cX4_sum 61 = .ok (.aload_n 0, 1) := by decide +kernel
theorem dX4_sum_62 : decode cX4_sum 62 = .ok (.getfield 175, 3) := by decide +kernel
theorem dX4_sum_65 : decode cX4_sum 65 = .ok (.aload_n 0, 1) := by decide +kernel
theorem dX4_sum_66 : decode cX4_sum 66 = .ok (.getfield 56, 3) := by decide +kernel
theorem dX4_sum_69 : decode cX4_sum 69 = .ok (.ior, 1) := by decide +kernel
theorem dX4_sum_70 : decode cX4_sum 70 = .ok (.putfield 175, 3) := by decide +kernel
theorem dX4_sum_73 : decode cX4_sum 73 = .ok (.aload_n 0, 1) := by decide +kernel
theorem dX4_sum_74 : decode cX4_sum 74 = .ok (.getfield 56, 3) := by decide +kernel
theorem dX4_sum_77 : decode cX4_sum 77 = .ok (.aload_n 0, 1) := by decide +kernel
theorem dX4_sum_78 : decode cX4_sum 78 = .ok (.getfield 178, 3) := by decide +kernel
theorem dX4_sum_81 : decode cX4_sum 81 = .ok (.iand, 1) := by decide +kernel
theorem dX4_sum_82 : decode cX4_sum 82 = .ok (.ifCond .eq 9, 3) := by decide +kernel
theorem dX4_sum_85 : decode cX4_sum 85 = .ok (.iinc 4 1, 3) := by decide +kernel
theorem dX4_sum_88 : decode cX4_sum 88 = .ok (.goto 8, 3) := by decide +kernel
theorem dX4_sum_91 : decode cX4_sum 91 = .ok (.aload_n 0, 1) := by decide +kernel
theorem dX4_sum_92 : decode cX4_sum 92 = .ok (.iload_n 1, 1) := by decide +kernel
theorem dX4_sum_93 : decode cX4_sum 93 = .ok (.invokevirtual 181, 3) := by decide +kernel
theorem dX4_sum_96 : decode cX4_sum 96 = .ok (.iinc 5 1, 3) := by decide +kernel
theorem dX4_sum_99 : decode cX4_sum 99 = .ok (.goto (-60), 3) := by decide +kernel
theorem dX4_sum_102 : decode cX4_sum 102 = .ok (.iload 4, 2) := by decide +kernel
theorem dX4_sum_104 : decode cX4_sum 104 = .ok (.ireturn, 1) := by decide +kernel
theorem dX4_put_0 : decode cX4_put 0 = .ok (.aload_n 0, 1) := by decide +kernel
theorem dX4_put_1 : decode cX4_put 1 = .ok (.aload_n 0, 1) := by decide +kernel
theorem dX4_put_2 : decode cX4_put 2 = .ok (.iload_n 1, 1) := by decide +kernel
theorem dX4_put_3 : decode cX4_put 3 = .ok (.invokevirtual 167, 3) := by decide +kernel
theorem dX4_put_6 : decode cX4_put 6 = .ok (.ifCond .eq 7, 3) := by decide +kernel
theorem dX4_put_9 : decode cX4_put 9 = .ok (.iconst 1, 1) := by decide +kernel
theorem dX4_put_10 : decode cX4_put 10 = .ok (.goto 38, 3) := by decide +kernel
theorem dX4_put_13 : decode cX4_put 13 = .ok (.lload_n 3, 1) := by decide +kernel
theorem dX4_put_14 : decode cX4_put 14 = .ok (.lconst 0, 1) := by decide +kernel
theorem dX4_put_15 : decode cX4_put 15 = .ok (.lcmp, 1) := by decide +kernel
theorem dX4_put_16 : decode cX4_put 16 = .ok (.ifCond .lt 27, 3) := by decide +kernel
theorem dX4_put_19 : decode cX4_put 19 = .ok (.lload_n 3, 1) := by decide +kernel
theorem dX4_put_20 : decode cX4_put 20 = .ok (.ldc2_w 97, 3) := by decide +kernel
theorem dX4_put_23 : decode cX4_put 23 = .ok (.lcmp, 1) := by decide +kernel
theorem dX4_put_24 : decode cX4_put 24 = .ok (.ifCond .ge 19, 3) := by decide +kernel
theorem dX4_put_27 : decode cX4_put 27 = .ok (.iload 5, 2) := by decide +kernel
theorem dX4_put_29 : decode cX4_put 29 = .ok (.sipush (-398), 3) := by decide +kernel
theorem dX4_put_32 : decode cX4_put 32 = .ok (.if_icmp .lt 11, 3) := by decide +kernel
theorem dX4_put_35 : decode cX4_put 35 = .ok (.iload 5, 2) := by decide +kernel
theorem dX4_put_37 : decode cX4_put 37 = .ok (.sipush 369, 3) := by decide +kernel
theorem dX4_put_40 : decode cX4_put 40 = .ok (.if_icmp .le 7, 3) := by decide +kernel
theorem dX4_put_43 : decode cX4_put 43 = .ok (.iconst 2, 1) := by decide +kernel
theorem dX4_put_44 : decode cX4_put 44 = .ok (.goto 4, 3) := by decide +kernel
theorem dX4_put_47 : decode cX4_put 47 = .ok (.iconst 0, 1) := by decide +kernel
theorem dX4_put_48 : decode cX4_put 48 = .ok (.putfield 30, 3) := by decide +kernel
theorem dX4_put_51 : decode cX4_put 51 = .ok (.aload_n 0, 1) := by decide +kernel
theorem dX4_put_52 : decode cX4_put 52 = .ok (.getfield 30, 3) := by decide +kernel
theorem dX4_put_55 : decode cX4_put 55 = .ok (.ifCond .ne 17, 3) := by decide +kernel
theorem dX4_put_58 : decode cX4_put 58 = .ok (.aload_n 0, 1) := by decide +kernel
theorem dX4_put_59 : decode cX4_put 59 = .ok (.iconst 0, 1) := by decide +kernel
theorem dX4_put_60 : decode cX4_put 60 = .ok (.iload_n 2, 1) := by decide +kernel
theorem dX4_put_61 : decode cX4_put 61 = .ok (.lload_n 3, 1) := by decide +kernel
theorem dX4_put_62 : decode cX4_put 62 = .ok (.iload 5, 2) := by decide +kernel
theorem dX4_put_64 : decode cX4_put 64 = .ok (.invokevirtual 59, 3) := by decide +kernel
theorem dX4_put_67 : decode cX4_put 67 = .ok (.aload_n 0, 1) := by decide +kernel
theorem dX4_put_68 : decode cX4_put 68 = .ok (.iload_n 1, 1) := by decide +kernel
theorem dX4_put_69 : decode cX4_put 69 = .ok (.invokevirtual 181, 3) := by decide +kernel
theorem dX4_put_72 : decode cX4_put 72 = .ok (.return_, 1) := by decide +kernel
theorem dX4_compare_0 : decode cX4_compare 0 = .ok (.aload_n 0, 1) := by decide +kernel
theorem dX4_compare_1 : decode cX4_compare 1 = .ok (.aload_n 0, 1) := by decide +kernel
theorem dX4_compare_2 : decode cX4_compare 2 = .ok (.iload_n 1, 1) := by decide +kernel
theorem dX4_compare_3 : decode cX4_compare 3 = .ok (.invokevirtual 167, 3) := by decide +kernel
theorem dX4_compare_6 : decode cX4_compare 6 = .ok (.ifCond .ne 11, 3) := by decide +kernel
theorem dX4_compare_9 : decode cX4_compare 9 = .ok (.aload_n 0, 1) := by decide +kernel
theorem dX4_compare_10 : decode cX4_compare 10 = .ok (.iload_n 2, 1) := by decide +kernel
theorem dX4_compare_11 : decode cX4_compare 11 = .ok (.invokevirtual 167, 3) := by decide +kernel
theorem dX4_compare_14 : decode cX4_compare 14 = .ok (.ifCond .eq 7, 3) := by decide +kernel
theorem dX4_compare_17 : decode cX4_compare 17 = .ok (.iconst 1, 1) := by decide +kernel
theorem dX4_compare_18 : decode cX4_compare 18 = .ok (.goto 4, 3) := by decide +kernel
theorem dX4_compare_21 : decode cX4_compare 21 = .ok (.iconst 0, 1) := by decide +kernel
theorem dX4_compare_22 : decode cX4_compare 22 = .ok (.putfield 30, 3) := by decide +kernel
theorem dX4_compare_25 : decode cX4_compare 25 = .ok (.aload_n 0, 1) := by decide +kernel
theorem dX4_compare_26 : decode cX4_compare 26 = .ok (.getfield 30, 3) := by decide +kernel
theorem dX4_compare_29 : decode cX4_compare 29 = .ok (.ifCond .eq 5, 3) := by decide +kernel
theorem dX4_compare_32 : decode cX4_compare 32 = .ok (.iconst 0, 1) := by decide +kernel
theorem dX4_compare_33 : decode cX4_compare 33 = .ok (.ireturn, 1) := by decide +kernel
theorem dX4_compare_34 : decode cX4_compare 34 = .ok (.aload_n 0, 1) := by decide +kernel
theorem dX4_compare_35 : decode cX4_compare 35 = .ok (.iload_n 1, 1) := by decide +kernel
theorem dX4_compare_36 : decode cX4_compare 36 = .ok (.iconst 2, 1) := by decide +kernel
theorem dX4_compare_37 : decode cX4_compare 37 = .ok (.invokevirtual 107, 3) := by decide +kernel
theorem dX4_compare_40 : decode cX4_compare 40 = .ok (.ifCond .ne 12, 3) := by decide +kernel
theorem dX4_compare_43 : decode cX4_compare 43 = .ok (.aload_n 0, 1) := by decide +kernel
theorem dX4_compare_44 : decode cX4_compare 44 = .ok (.iload_n 2, 1) := by decide +kernel
theorem dX4_compare_45 : decode cX4_compare 45 = .ok (.iconst 2, 1) := by decide +kernel
theorem dX4_compare_46 : decode cX4_compare 46 = .ok (.invokevirtual 107, 3) := by decide +kernel
theorem dX4_compare_49 : decode cX4_compare 49 = .ok (.ifCond .eq 7, 3) := by decide +kernel
theorem dX4_compare_52 : decode cX4_compare 52 = .ok (.iconst 2, 1) := by decide +kernel
theorem dX4_compare_53 : decode cX4_compare 53 = .ok (.goto 9, 3) := by decide +kernel
theorem dX4_compare_56 : decode cX4_compare 56 = .ok (.aload_n 0, 1) := by decide +kernel
theorem dX4_compare_57 : decode cX4_compare 57 = .ok (.iload_n 1, 1) := by decide +kernel
theorem dX4_compare_58 : decode cX4_compare 58 = .ok (.iload_n 2, 1) := by decide +kernel
theorem dX4_compare_59 : decode cX4_compare 59 = .ok (.invokevirtual 157, 3) := by decide +kernel
theorem dX4_compare_62 : decode cX4_compare 62 = .ok (.ireturn, 1) := by decide +kernel
theorem dX4_kind_0 : decode cX4_kind 0 = .ok (.aload_n 0, 1) := by decide +kernel
theorem dX4_kind_1 : decode cX4_kind 1 = .ok (.aload_n 0, 1) := by decide +kernel
theorem dX4_kind_2 : decode cX4_kind 2 = .ok (.iload_n 1, 1) := by decide +kernel
theorem dX4_kind_3 : decode cX4_kind 3 = .ok (.invokevirtual 167, 3) := by decide +kernel
theorem dX4_kind_6 : decode cX4_kind 6 = .ok (.ifCond .eq 7, 3) := by decide +kernel
theorem dX4_kind_9 : decode cX4_kind 9 = .ok (.iconst 1, 1) := by decide +kernel
theorem dX4_kind_10 : decode cX4_kind 10 = .ok (.goto 4, 3) := by decide +kernel
theorem dX4_kind_13 : decode cX4_kind 13 = .ok (.iconst 0, 1) := by decide +kernel
theorem dX4_kind_14 : decode cX4_kind 14 = .ok (.putfield 30, 3) := by decide +kernel
theorem dX4_kind_17 : decode cX4_kind 17 = .ok (.aload_n 0, 1) := by decide +kernel
theorem dX4_kind_18 : decode cX4_kind 18 = .ok (.getfield 30, 3) := by decide +kernel
theorem dX4_kind_21 : decode cX4_kind 21 = .ok (.ifCond .eq 7, 3) := by decide +kernel
theorem dX4_kind_24 : decode cX4_kind 24 = .ok (.iconst 0, 1) := by decide +kernel
theorem dX4_kind_25 : decode cX4_kind 25 = .ok (.goto 24, 3) := by decide +kernel
theorem dX4_kind_28 : decode cX4_kind 28 = .ok (.aload_n 0, 1) := by decide +kernel
theorem dX4_kind_29 : decode cX4_kind 29 = .ok (.getfield 7, 3) := by decide +kernel
theorem dX4_kind_32 : decode cX4_kind 32 = .ok (.iload_n 1, 1) := by decide +kernel
theorem dX4_kind_33 : decode cX4_kind 33 = .ok (.iaload, 1) := by decide +kernel
theorem dX4_kind_34 : decode cX4_kind 34 = .ok (.aload_n 0, 1) := by decide +kernel
theorem dX4_kind_35 : decode cX4_kind 35 = .ok (.getfield 13, 3) := by decide +kernel
theorem dX4_kind_38 : decode cX4_kind 38 = .ok (.iload_n 1, 1) := by decide +kernel
theorem dX4_kind_39 : decode cX4_kind 39 = .ok (.baload, 1) := by decide +kernel
theorem dX4_kind_40 : decode cX4_kind 40 = .ok (.ifCond .eq 7, 3) := by decide +kernel
theorem dX4_kind_43 : decode cX4_kind 43 = .ok (.iconst 4, 1) := by decide +kernel
theorem dX4_kind_44 : decode cX4_kind 44 = .ok (.goto 4, 3) := by decide +kernel
theorem dX4_kind_47 : decode cX4_kind 47 = .ok (.iconst 0, 1) := by decide +kernel
theorem dX4_kind_48 : decode cX4_kind 48 = .ok (.iadd, 1) := by decide +kernel
theorem dX4_kind_49 : decode cX4_kind 49 = .ok (.ireturn, 1) := by decide +kernel
theorem dX4_coefficient_0 : decode cX4_coefficient 0 = .ok (.aload_n 0, 1) := by decide +kernel
theorem dX4_coefficient_1 : decode cX4_coefficient 1 = .ok (.aload_n 0, 1) := by decide +kernel
theorem dX4_coefficient_2 : decode cX4_coefficient 2 = .ok (.iload_n 1, 1) := by decide +kernel
theorem dX4_coefficient_3 : decode cX4_coefficient 3 = .ok (.invokevirtual 167, 3) := by decide +kernel
theorem dX4_coefficient_6 : decode cX4_coefficient 6 = .ok (.ifCond .eq 7, 3) := by decide +kernel
theorem dX4_coefficient_9 : decode cX4_coefficient 9 = .ok (.iconst 1, 1) := by decide +kernel
theorem dX4_coefficient_10 : decode cX4_coefficient 10 = .ok (.goto 4, 3) := by decide +kernel
theorem dX4_coefficient_13 : decode cX4_coefficient 13 = .ok (.iconst 0, 1) := by decide +kernel
theorem dX4_coefficient_14 : decode cX4_coefficient 14 = .ok (.putfield 30, 3) := by decide +kernel
theorem dX4_coefficient_17 : decode cX4_coefficient 17 = .ok (.aload_n 0, 1) := by decide +kernel
theorem dX4_coefficient_18 : decode cX4_coefficient 18 = .ok (.getfield 30, 3) := by decide +kernel
theorem dX4_coefficient_21 : decode cX4_coefficient 21 = .ok (.ifCond .ne 12, 3) := by decide +kernel
theorem dX4_coefficient_24 : decode cX4_coefficient 24 = .ok (.aload_n 0, 1) := by decide +kernel
theorem dX4_coefficient_25 : decode cX4_coefficient 25 = .ok (.iload_n 1, 1) := by decide +kernel
theorem dX4_coefficient_26 : decode cX4_coefficient 26 = .ok (.iconst 0, 1) := by decide +kernel
theorem dX4_coefficient_27 : decode cX4_coefficient 27 = .ok (.invokevirtual 107, 3) := by decide +kernel
theorem dX4_coefficient_30 : decode cX4_coefficient 30 = .ok (.ifCond .ne 7, 3) := by decide +kernel
theorem dX4_coefficient_33 : decode cX4_coefficient 33 = .ok (.lconst 0, 1) := by decide +kernel
theorem dX4_coefficient_34 : decode cX4_coefficient 34 = .ok (.goto 9, 3) := by decide +kernel
theorem dX4_coefficient_37 : decode cX4_coefficient 37 = .ok (.aload_n 0, 1) := by decide +kernel
theorem dX4_coefficient_38 : decode cX4_coefficient 38 = .ok (.getfield 17, 3) := by decide +kernel
theorem dX4_coefficient_41 : decode cX4_coefficient 41 = .ok (.iload_n 1, 1) := by decide +kernel
theorem dX4_coefficient_42 : decode cX4_coefficient 42 = .ok (.laload, 1) := by decide +kernel
theorem dX4_coefficient_43 : decode cX4_coefficient 43 = .ok (.lreturn, 1) := by decide +kernel
theorem dX4_exponent_0 : decode cX4_exponent 0 = .ok (.aload_n 0, 1) := by decide +kernel
theorem dX4_exponent_1 : decode cX4_exponent 1 = .ok (.aload_n 0, 1) := by decide +kernel
theorem dX4_exponent_2 : decode cX4_exponent 2 = .ok (.iload_n 1, 1) := by decide +kernel
theorem dX4_exponent_3 : decode cX4_exponent 3 = .ok (.invokevirtual 167, 3) := by decide +kernel
theorem dX4_exponent_6 : decode cX4_exponent 6 = .ok (.ifCond .eq 7, 3) := by decide +kernel
theorem dX4_exponent_9 : decode cX4_exponent 9 = .ok (.iconst 1, 1) := by decide +kernel
theorem dX4_exponent_10 : decode cX4_exponent 10 = .ok (.goto 4, 3) := by decide +kernel
theorem dX4_exponent_13 : decode cX4_exponent 13 = .ok (.iconst 0, 1) := by decide +kernel
theorem dX4_exponent_14 : decode cX4_exponent 14 = .ok (.putfield 30, 3) := by decide +kernel
theorem dX4_exponent_17 : decode cX4_exponent 17 = .ok (.aload_n 0, 1) := by decide +kernel
theorem dX4_exponent_18 : decode cX4_exponent 18 = .ok (.getfield 30, 3) := by decide +kernel
theorem dX4_exponent_21 : decode cX4_exponent 21 = .ok (.ifCond .ne 12, 3) := by decide +kernel
theorem dX4_exponent_24 : decode cX4_exponent 24 = .ok (.aload_n 0, 1) := by decide +kernel
theorem dX4_exponent_25 : decode cX4_exponent 25 = .ok (.iload_n 1, 1) := by decide +kernel
theorem dX4_exponent_26 : decode cX4_exponent 26 = .ok (.iconst 0, 1) := by decide +kernel
theorem dX4_exponent_27 : decode cX4_exponent 27 = .ok (.invokevirtual 107, 3) := by decide +kernel
theorem dX4_exponent_30 : decode cX4_exponent 30 = .ok (.ifCond .ne 7, 3) := by decide +kernel
theorem dX4_exponent_33 : decode cX4_exponent 33 = .ok (.iconst 0, 1) := by decide +kernel
theorem dX4_exponent_34 : decode cX4_exponent 34 = .ok (.goto 9, 3) := by decide +kernel
theorem dX4_exponent_37 : decode cX4_exponent 37 = .ok (.aload_n 0, 1) := by decide +kernel
theorem dX4_exponent_38 : decode cX4_exponent 38 = .ok (.getfield 21, 3) := by decide +kernel
theorem dX4_exponent_41 : decode cX4_exponent 41 = .ok (.iload_n 1, 1) := by decide +kernel
theorem dX4_exponent_42 : decode cX4_exponent 42 = .ok (.iaload, 1) := by decide +kernel
theorem dX4_exponent_43 : decode cX4_exponent 43 = .ok (.ireturn, 1) := by decide +kernel
theorem dX4_ten_0 : decode cX4_ten 0 = .ok (.iload_n 1, 1) := by decide +kernel
theorem dX4_ten_1 : decode cX4_ten 1 = .ok (.bipush 7, 2) := by decide +kernel
theorem dX4_ten_3 : decode cX4_ten 3 = .ok (.iand, 1) := by decide +kernel
theorem dX4_ten_4 : decode cX4_ten 4 = .ok (.istore 4, 2) := by decide +kernel
theorem dX4_ten_6 : decode cX4_ten 6 = .ok (.iload_n 2, 1) := by decide +kernel
theorem dX4_ten_7 : decode cX4_ten 7 = .ok (.bipush 7, 2) := by decide +kernel
theorem dX4_ten_9 : decode cX4_ten 9 = .ok (.iand, 1) := by decide +kernel
theorem dX4_ten_10 : decode cX4_ten 10 = .ok (.istore 5, 2) := by decide +kernel
theorem dX4_ten_12 : decode cX4_ten 12 = .ok (.iload_n 3, 1) := by decide +kernel
theorem dX4_ten_13 : decode cX4_ten 13 = .ok (.bipush 7, 2) := by decide +kernel
theorem dX4_ten_15 : decode cX4_ten 15 = .ok (.iand, 1) := by decide +kernel
theorem dX4_ten_16 : decode cX4_ten 16 = .ok (.istore 6, 2) := by decide +kernel
theorem dX4_ten_18 : decode cX4_ten 18 = .ok (.iload_n 1, 1) := by decide +kernel
theorem dX4_ten_19 : decode cX4_ten 19 = .ok (.bipush 7, 2) := by decide +kernel
theorem dX4_ten_21 : decode cX4_ten 21 = .ok (.if_icmp .le 7, 3) := by decide +kernel
theorem dX4_ten_24 : decode cX4_ten 24 = .ok (.iconst 4, 1) := by decide +kernel
theorem dX4_ten_25 : decode cX4_ten 25 = .ok (.goto 4, 3) := by decide +kernel
theorem dX4_ten_28 : decode cX4_ten 28 = .ok (.iconst 0, 1) := by decide +kernel
theorem dX4_ten_29 : decode cX4_ten 29 = .ok (.iload_n 2, 1) := by decide +kernel
theorem dX4_ten_30 : decode cX4_ten 30 = .ok (.bipush 7, 2) := by decide +kernel
theorem dX4_ten_32 : decode cX4_ten 32 = .ok (.if_icmp .le 7, 3) := by decide +kernel
theorem dX4_ten_35 : decode cX4_ten 35 = .ok (.iconst 2, 1) := by decide +kernel
theorem dX4_ten_36 : decode cX4_ten 36 = .ok (.goto 4, 3) := by decide +kernel
theorem dX4_ten_39 : decode cX4_ten 39 = .ok (.iconst 0, 1) := by decide +kernel
theorem dX4_ten_40 : decode cX4_ten 40 = .ok (.iadd, 1) := by decide +kernel
theorem dX4_ten_41 : decode cX4_ten 41 = .ok (.iload_n 3, 1) := by decide +kernel
theorem dX4_ten_42 : decode cX4_ten 42 = .ok (.bipush 7, 2) := by decide +kernel
theorem dX4_ten_44 : decode cX4_ten 44 = .ok (.if_icmp .le 7, 3) := by decide +kernel
theorem dX4_ten_47 : decode cX4_ten 47 = .ok (.iconst 1, 1) := by decide +kernel
theorem dX4_ten_48 : decode cX4_ten 48 = .ok (.goto 4, 3) := by decide +kernel
theorem dX4_ten_51 : decode cX4_ten 51 = .ok (.iconst 0, 1) := by decide +kernel
theorem dX4_ten_52 : decode cX4_ten 52 = .ok (.iadd, 1) := by decide +kernel
theorem dX4_ten_53 : decode cX4_ten 53 = .ok (.istore 7, 2) := by decide +kernel
theorem dX4_ten_55 : decode cX4_ten 55 = .ok (.iload 7, 2) := by decide +kernel
theorem dX4_ten_57 : decode cX4_ten 57 = .ok (.tableswitch 213 0 6 #[43, 57, 75, 191, 102, 159, 130], 43) := by decide +kernel
theorem dX4_ten_100 : decode cX4_ten 100 = .ok (.iload 4, 2) := by decide +kernel
theorem dX4_ten_102 : decode cX4_ten 102 = .ok (.bipush 7, 2) := by decide +kernel
theorem dX4_ten_104 : decode cX4_ten 104 = .ok (.ishl, 1) := by decide +kernel
theorem dX4_ten_105 : decode cX4_ten 105 = .ok (.iload 5, 2) := by decide +kernel
theorem dX4_ten_107 : decode cX4_ten 107 = .ok (.iconst 4, 1) := by decide +kernel
theorem dX4_ten_108 : decode cX4_ten 108 = .ok (.ishl, 1) := by decide +kernel
theorem dX4_ten_109 : decode cX4_ten 109 = .ok (.ior, 1) := by decide +kernel
theorem dX4_ten_110 : decode cX4_ten 110 = .ok (.iload 6, 2) := by decide +kernel
theorem dX4_ten_112 : decode cX4_ten 112 = .ok (.ior, 1) := by decide +kernel
theorem dX4_ten_113 : decode cX4_ten 113 = .ok (.ireturn, 1) := by decide +kernel
theorem dX4_ten_114 : decode cX4_ten 114 = .ok (.iload 4, 2) := by decide +kernel
theorem dX4_ten_116 : decode cX4_ten 116 = .ok (.bipush 7, 2) := by decide +kernel
theorem dX4_ten_118 : decode cX4_ten 118 = .ok (.ishl, 1) := by decide +kernel
theorem dX4_ten_119 : decode cX4_ten 119 = .ok (.iload 5, 2) := by decide +kernel
theorem dX4_ten_121 : decode cX4_ten 121 = .ok (.iconst 4, 1) := by decide +kernel
theorem dX4_ten_122 : decode cX4_ten 122 = .ok (.ishl, 1) := by decide +kernel
theorem dX4_ten_123 : decode cX4_ten 123 = .ok (.ior, 1) := by decide +kernel
theorem dX4_ten_124 : decode cX4_ten 124 = .ok (.bipush 8, 2) := by decide +kernel
theorem dX4_ten_126 : decode cX4_ten 126 = .ok (.ior, 1) := by decide +kernel
theorem dX4_ten_127 : decode cX4_ten 127 = .ok (.iload_n 3, 1) := by decide +kernel
theorem dX4_ten_128 : decode cX4_ten 128 = .ok (.iconst 1, 1) := by decide +kernel
theorem dX4_ten_129 : decode cX4_ten 129 = .ok (.iand, 1) := by decide +kernel
theorem dX4_ten_130 : decode cX4_ten 130 = .ok (.ior, 1) := by decide +kernel
theorem dX4_ten_131 : decode cX4_ten 131 = .ok (.ireturn, 1) := by decide +kernel
theorem dX4_ten_132 : decode cX4_ten 132 = .ok (.iload 4, 2) := by decide +kernel
theorem dX4_ten_134 : decode cX4_ten 134 = .ok (.bipush 7, 2) := by decide +kernel
theorem dX4_ten_136 : decode cX4_ten 136 = .ok (.ishl, 1) := by decide +kernel
theorem dX4_ten_137 : decode cX4_ten 137 = .ok (.iload 6, 2) := by decide +kernel
theorem dX4_ten_139 : decode cX4_ten 139 = .ok (.iconst 1, 1) := by decide +kernel
theorem dX4_ten_140 : decode cX4_ten 140 = .ok (.ishr, 1) := by decide +kernel
theorem dX4_ten_141 : decode cX4_ten 141 = .ok (.iconst 5, 1) := by decide +kernel
theorem dX4_ten_142 : decode cX4_ten 142 = .ok (.ishl, 1) := by decide +kernel
theorem dX4_ten_143 : decode cX4_ten 143 = .ok (.ior, 1) := by decide +kernel
theorem dX4_ten_144 : decode cX4_ten 144 = .ok (.iload_n 2, 1) := by decide +kernel
theorem dX4_ten_145 : decode cX4_ten 145 = .ok (.iconst 1, 1) := by decide +kernel
theorem dX4_ten_146 : decode cX4_ten 146 = .ok (.iand, 1) := by decide +kernel
theorem dX4_ten_147 : decode cX4_ten 147 = .ok (.iconst 4, 1) := by decide +kernel
theorem dX4_ten_148 : decode cX4_ten 148 = .ok (.ishl, 1) := by decide +kernel
theorem dX4_ten_149 : decode cX4_ten 149 = .ok (.ior, 1) := by decide +kernel
theorem dX4_ten_150 : decode cX4_ten 150 = .ok (.bipush 10, 2) := by decide +kernel
theorem dX4_ten_152 : decode cX4_ten 152 = .ok (.ior, 1) := by decide +kernel
theorem dX4_ten_153 : decode cX4_ten 153 = .ok (.iload 6, 2) := by decide +kernel
theorem dX4_ten_155 : decode cX4_ten 155 = .ok (.iconst 1, 1) := by decide +kernel
theorem dX4_ten_156 : decode cX4_ten 156 = .ok (.iand, 1) := by decide +kernel
theorem dX4_ten_157 : decode cX4_ten 157 = .ok (.ior, 1) := by decide +kernel
theorem dX4_ten_158 : decode cX4_ten 158 = .ok (.ireturn, 1) := by decide +kernel
theorem dX4_ten_159 : decode cX4_ten 159 = .ok (.iload 6, 2) := by decide +kernel
theorem dX4_ten_161 : decode cX4_ten 161 = .ok (.iconst 1, 1) := by decide +kernel
theorem dX4_ten_162 : decode cX4_ten 162 = .ok (.ishr, 1) := by decide +kernel
theorem dX4_ten_163 : decode cX4_ten 163 = .ok (.bipush 8, 2) := by decide +kernel
theorem dX4_ten_165 : decode cX4_ten 165 = .ok (.ishl, 1) := by decide +kernel
theorem dX4_ten_166 : decode cX4_ten 166 = .ok (.iload_n 1, 1) := by decide +kernel
theorem dX4_ten_167 : decode cX4_ten 167 = .ok (.iconst 1, 1) := by decide +kernel
theorem dX4_ten_168 : decode cX4_ten 168 = .ok (.iand, 1) := by decide +kernel
theorem dX4_ten_169 : decode cX4_ten 169 = .ok (.bipush 7, 2) := by decide +kernel
theorem dX4_ten_171 : decode cX4_ten 171 = .ok (.ishl, 1) := by decide +kernel
theorem dX4_ten_172 : decode cX4_ten 172 = .ok (.ior, 1) := by decide +kernel
theorem dX4_ten_173 : decode cX4_ten 173 = .ok (.iload 5, 2) := by decide +kernel
theorem dX4_ten_175 : decode cX4_ten 175 = .ok (.iconst 4, 1) := by decide +kernel
theorem dX4_ten_176 : decode cX4_ten 176 = .ok (.ishl, 1) := by decide +kernel
theorem dX4_ten_177 : decode cX4_ten 177 = .ok (.ior, 1) := by decide +kernel
theorem dX4_ten_178 : decode cX4_ten 178 = .ok (.bipush 12, 2) := by decide +kernel
theorem dX4_ten_180 : decode cX4_ten 180 = .ok (.ior, 1) := by decide +kernel
theorem dX4_ten_181 : decode cX4_ten 181 = .ok (.iload 6, 2) := by decide +kernel
theorem dX4_ten_183 : decode cX4_ten 183 = .ok (.iconst 1, 1) := by decide +kernel
theorem dX4_ten_184 : decode cX4_ten 184 = .ok (.iand, 1) := by decide +kernel
theorem dX4_ten_185 : decode cX4_ten 185 = .ok (.ior, 1) := by decide +kernel
theorem dX4_ten_186 : decode cX4_ten 186 = .ok (.ireturn, 1) := by decide +kernel
theorem dX4_ten_187 : decode cX4_ten 187 = .ok (.iload 6, 2) := by decide +kernel
theorem dX4_ten_189 : decode cX4_ten 189 = .ok (.iconst 1, 1) := by decide +kernel
theorem dX4_ten_190 : decode cX4_ten 190 = .ok (.ishr, 1) := by decide +kernel
theorem dX4_ten_191 : decode cX4_ten 191 = .ok (.bipush 8, 2) := by decide +kernel
theorem dX4_ten_193 : decode cX4_ten 193 = .ok (.ishl, 1) := by decide +kernel
theorem dX4_ten_194 : decode cX4_ten 194 = .ok (.iload_n 1, 1) := by decide +kernel
theorem dX4_ten_195 : decode cX4_ten 195 = .ok (.iconst 1, 1) := by decide +kernel
theorem dX4_ten_196 : decode cX4_ten 196 = .ok (.iand, 1) := by decide +kernel
theorem dX4_ten_197 : decode cX4_ten 197 = .ok (.bipush 7, 2) := by decide +kernel
theorem dX4_ten_199 : decode cX4_ten 199 = .ok (.ishl, 1) := by decide +kernel
theorem dX4_ten_200 : decode cX4_ten 200 = .ok (.ior, 1) := by decide +kernel
theorem dX4_ten_201 : decode cX4_ten 201 = .ok (.iload_n 2, 1) := by decide +kernel
theorem dX4_ten_202 : decode cX4_ten 202 = .ok (.iconst 1, 1) := by decide +kernel
theorem dX4_ten_203 : decode cX4_ten 203 = .ok (.iand, 1) := by decide +kernel
theorem dX4_ten_204 : decode cX4_ten 204 = .ok (.iconst 4, 1) := by decide +kernel
theorem dX4_ten_205 : decode cX4_ten 205 = .ok (.ishl, 1) := by decide +kernel
theorem dX4_ten_206 : decode cX4_ten 206 = .ok (.ior, 1) := by decide +kernel
theorem dX4_ten_207 : decode cX4_ten 207 = .ok (.bipush 14, 2) := by decide +kernel
theorem dX4_ten_209 : decode cX4_ten 209 = .ok (.ior, 1) := by decide +kernel
theorem dX4_ten_210 : decode cX4_ten 210 = .ok (.iload 6, 2) := by decide +kernel
theorem dX4_ten_212 : decode cX4_ten 212 = .ok (.iconst 1, 1) := by decide +kernel
theorem dX4_ten_213 : decode cX4_ten 213 = .ok (.iand, 1) := by decide +kernel
theorem dX4_ten_214 : decode cX4_ten 214 = .ok (.ior, 1) := by decide +kernel
theorem dX4_ten_215 : decode cX4_ten 215 = .ok (.ireturn, 1) := by decide +kernel
theorem dX4_ten_216 : decode cX4_ten 216 = .ok (.iload 5, 2) := by decide +kernel
theorem dX4_ten_218 : decode cX4_ten 218 = .ok (.iconst 1, 1) := by decide +kernel
theorem dX4_ten_219 : decode cX4_ten 219 = .ok (.ishr, 1) := by decide +kernel
theorem dX4_ten_220 : decode cX4_ten 220 = .ok (.bipush 8, 2) := by decide +kernel
theorem dX4_ten_222 : decode cX4_ten 222 = .ok (.ishl, 1) := by decide +kernel
theorem dX4_ten_223 : decode cX4_ten 223 = .ok (.iload_n 1, 1) := by decide +kernel
theorem dX4_ten_224 : decode cX4_ten 224 = .ok (.iconst 1, 1) := by decide +kernel
theorem dX4_ten_225 : decode cX4_ten 225 = .ok (.iand, 1) := by decide +kernel
theorem dX4_ten_226 : decode cX4_ten 226 = .ok (.bipush 7, 2) := by decide +kernel
theorem dX4_ten_228 : decode cX4_ten 228 = .ok (.ishl, 1) := by decide +kernel
theorem dX4_ten_229 : decode cX4_ten 229 = .ok (.ior, 1) := by decide +kernel
theorem dX4_ten_230 : decode cX4_ten 230 = .ok (.bipush 32, 2) := by decide +kernel
theorem dX4_ten_232 : decode cX4_ten 232 = .ok (.ior, 1) := by decide +kernel
theorem dX4_ten_233 : decode cX4_ten 233 = .ok (.iload 5, 2) := by decide +kernel
theorem dX4_ten_235 : decode cX4_ten 235 = .ok (.iconst 1, 1) := by decide +kernel
theorem dX4_ten_236 : decode cX4_ten 236 = .ok (.iand, 1) := by decide +kernel
theorem dX4_ten_237 : decode cX4_ten 237 = .ok (.iconst 4, 1) := by decide +kernel
theorem dX4_ten_238 : decode cX4_ten 238 = .ok (.ishl, 1) := by decide +kernel
theorem dX4_ten_239 : decode cX4_ten 239 = .ok (.ior, 1) := by decide +kernel
theorem dX4_ten_240 : decode cX4_ten 240 = .ok (.bipush 14, 2) := by decide +kernel
theorem dX4_ten_242 : decode cX4_ten 242 = .ok (.ior, 1) := by decide +kernel
theorem dX4_ten_243 : decode cX4_ten 243 = .ok (.iload_n 3, 1) := by decide +kernel
theorem dX4_ten_244 : decode cX4_ten 244 = .ok (.iconst 1, 1) := by decide +kernel
theorem dX4_ten_245 : decode cX4_ten 245 = .ok (.iand, 1) := by decide +kernel
theorem dX4_ten_246 : decode cX4_ten 246 = .ok (.ior, 1) := by decide +kernel
theorem dX4_ten_247 : decode cX4_ten 247 = .ok (.ireturn, 1) := by decide +kernel
theorem dX4_ten_248 : decode cX4_ten 248 = .ok (.iload 4, 2) := by decide +kernel
theorem dX4_ten_250 : decode cX4_ten 250 = .ok (.bipush 7, 2) := by decide +kernel
theorem dX4_ten_252 : decode cX4_ten 252 = .ok (.ishl, 1) := by decide +kernel
theorem dX4_ten_253 : decode cX4_ten 253 = .ok (.bipush 64, 2) := by decide +kernel
theorem dX4_ten_255 : decode cX4_ten 255 = .ok (.ior, 1) := by decide +kernel
theorem dX4_ten_256 : decode cX4_ten 256 = .ok (.iload_n 2, 1) := by decide +kernel
theorem dX4_ten_257 : decode cX4_ten 257 = .ok (.iconst 1, 1) := by decide +kernel
theorem dX4_ten_258 : decode cX4_ten 258 = .ok (.iand, 1) := by decide +kernel
theorem dX4_ten_259 : decode cX4_ten 259 = .ok (.iconst 4, 1) := by decide +kernel
theorem dX4_ten_260 : decode cX4_ten 260 = .ok (.ishl, 1) := by decide +kernel
theorem dX4_ten_261 : decode cX4_ten 261 = .ok (.ior, 1) := by decide +kernel
theorem dX4_ten_262 : decode cX4_ten 262 = .ok (.bipush 14, 2) := by decide +kernel
theorem dX4_ten_264 : decode cX4_ten 264 = .ok (.ior, 1) := by decide +kernel
theorem dX4_ten_265 : decode cX4_ten 265 = .ok (.iload_n 3, 1) := by decide +kernel
theorem dX4_ten_266 : decode cX4_ten 266 = .ok (.iconst 1, 1) := by decide +kernel
theorem dX4_ten_267 : decode cX4_ten 267 = .ok (.iand, 1) := by decide +kernel
theorem dX4_ten_268 : decode cX4_ten 268 = .ok (.ior, 1) := by decide +kernel
theorem dX4_ten_269 : decode cX4_ten 269 = .ok (.ireturn, 1) := by decide +kernel
theorem dX4_ten_270 : decode cX4_ten 270 = .ok (.iload_n 1, 1) := by decide +kernel
theorem dX4_ten_271 : decode cX4_ten 271 = .ok (.iconst 1, 1) := by decide +kernel
theorem dX4_ten_272 : decode cX4_ten 272 = .ok (.iand, 1) := by decide +kernel
theorem dX4_ten_273 : decode cX4_ten 273 = .ok (.bipush 7, 2) := by decide +kernel
theorem dX4_ten_275 : decode cX4_ten 275 = .ok (.ishl, 1) := by decide +kernel
theorem dX4_ten_276 : decode cX4_ten 276 = .ok (.bipush 96, 2) := by decide +kernel
theorem dX4_ten_278 : decode cX4_ten 278 = .ok (.ior, 1) := by decide +kernel
theorem dX4_ten_279 : decode cX4_ten 279 = .ok (.iload_n 2, 1) := by decide +kernel
theorem dX4_ten_280 : decode cX4_ten 280 = .ok (.iconst 1, 1) := by decide +kernel
theorem dX4_ten_281 : decode cX4_ten 281 = .ok (.iand, 1) := by decide +kernel
theorem dX4_ten_282 : decode cX4_ten 282 = .ok (.iconst 4, 1) := by decide +kernel
theorem dX4_ten_283 : decode cX4_ten 283 = .ok (.ishl, 1) := by decide +kernel
theorem dX4_ten_284 : decode cX4_ten 284 = .ok (.ior, 1) := by decide +kernel
theorem dX4_ten_285 : decode cX4_ten 285 = .ok (.bipush 14, 2) := by decide +kernel
theorem dX4_ten_287 : decode cX4_ten 287 = .ok (.ior, 1) := by decide +kernel
theorem dX4_ten_288 : decode cX4_ten 288 = .ok (.iload_n 3, 1) := by decide +kernel
theorem dX4_ten_289 : decode cX4_ten 289 = .ok (.iconst 1, 1) := by decide +kernel
theorem dX4_ten_290 : decode cX4_ten 290 = .ok (.iand, 1) := by decide +kernel
theorem dX4_ten_291 : decode cX4_ten 291 = .ok (.ior, 1) := by decide +kernel
theorem dX4_ten_292 : decode cX4_ten 292 = .ok (.ireturn, 1) := by decide +kernel
theorem dX4_three_0 : decode cX4_three 0 = .ok (.iload_n 1, 1) := by decide +kernel
theorem dX4_three_1 : decode cX4_three 1 = .ok (.bipush 7, 2) := by decide +kernel
theorem dX4_three_3 : decode cX4_three 3 = .ok (.ishr, 1) := by decide +kernel
theorem dX4_three_4 : decode cX4_three 4 = .ok (.bipush 7, 2) := by decide +kernel
theorem dX4_three_6 : decode cX4_three 6 = .ok (.iand, 1) := by decide +kernel
theorem dX4_three_7 : decode cX4_three 7 = .ok (.istore_n 2, 1) := by decide +kernel
theorem dX4_three_8 : decode cX4_three 8 = .ok (.iload_n 1, 1) := by decide +kernel
theorem dX4_three_9 : decode cX4_three 9 = .ok (.iconst 4, 1) := by decide +kernel
theorem dX4_three_10 : decode cX4_three 10 = .ok (.ishr, 1) := by decide +kernel
theorem dX4_three_11 : decode cX4_three 11 = .ok (.bipush 7, 2) := by decide +kernel
theorem dX4_three_13 : decode cX4_three 13 = .ok (.iand, 1) := by decide +kernel
theorem dX4_three_14 : decode cX4_three 14 = .ok (.istore_n 3, 1) := by decide +kernel
theorem dX4_three_15 : decode cX4_three 15 = .ok (.iload_n 1, 1) := by decide +kernel
theorem dX4_three_16 : decode cX4_three 16 = .ok (.bipush 7, 2) := by decide +kernel
theorem dX4_three_18 : decode cX4_three 18 = .ok (.iand, 1) := by decide +kernel
theorem dX4_three_19 : decode cX4_three 19 = .ok (.istore 4, 2) := by decide +kernel
theorem dX4_three_21 : decode cX4_three 21 = .ok (.iload_n 1, 1) := by decide +kernel
theorem dX4_three_22 : decode cX4_three 22 = .ok (.bipush 8, 2) := by decide +kernel
theorem dX4_three_24 : decode cX4_three 24 = .ok (.ishr, 1) := by decide +kernel
theorem dX4_three_25 : decode cX4_three 25 = .ok (.iconst 3, 1) := by decide +kernel
theorem dX4_three_26 : decode cX4_three 26 = .ok (.iand, 1) := by decide +kernel
theorem dX4_three_27 : decode cX4_three 27 = .ok (.istore 5, 2) := by decide +kernel
theorem dX4_three_29 : decode cX4_three 29 = .ok (.iload_n 1, 1) := by decide +kernel
theorem dX4_three_30 : decode cX4_three 30 = .ok (.iconst 5, 1) := by decide +kernel
theorem dX4_three_31 : decode cX4_three 31 = .ok (.ishr, 1) := by decide +kernel
theorem dX4_three_32 : decode cX4_three 32 = .ok (.iconst 3, 1) := by decide +kernel
theorem dX4_three_33 : decode cX4_three 33 = .ok (.iand, 1) := by decide +kernel
theorem dX4_three_34 : decode cX4_three 34 = .ok (.istore 6, 2) := by decide +kernel
theorem dX4_three_36 : decode cX4_three 36 = .ok (.iload_n 1, 1) := by decide +kernel
theorem dX4_three_37 : decode cX4_three 37 = .ok (.iconst 1, 1) := by decide +kernel
theorem dX4_three_38 : decode cX4_three 38 = .ok (.iand, 1) := by decide +kernel
theorem dX4_three_39 : decode cX4_three 39 = .ok (.istore 7, 2) := by decide +kernel
theorem dX4_three_41 : decode cX4_three 41 = .ok (.iload_n 1, 1) := by decide +kernel
theorem dX4_three_42 : decode cX4_three 42 = .ok (.iconst 3, 1) := by decide +kernel
theorem dX4_three_43 : decode cX4_three 43 = .ok (.ishr, 1) := by decide +kernel
theorem dX4_three_44 : decode cX4_three 44 = .ok (.iconst 1, 1) := by decide +kernel
theorem dX4_three_45 : decode cX4_three 45 = .ok (.iand, 1) := by decide +kernel
theorem dX4_three_46 : decode cX4_three 46 = .ok (.ifCond .ne 7, 3) := by decide +kernel
theorem dX4_three_49 : decode cX4_three 49 = .ok (.iconst 0, 1) := by decide +kernel
theorem dX4_three_50 : decode cX4_three 50 = .ok (.goto 10, 3) := by decide +kernel
theorem dX4_three_53 : decode cX4_three 53 = .ok (.iconst 1, 1) := by decide +kernel
theorem dX4_three_54 : decode cX4_three 54 = .ok (.iload_n 1, 1) := by decide +kernel
theorem dX4_three_55 : decode cX4_three 55 = .ok (.iconst 1, 1) := by decide +kernel
theorem dX4_three_56 : decode cX4_three 56 = .ok (.ishr, 1) := by decide +kernel
theorem dX4_three_57 : decode cX4_three 57 = .ok (.iconst 3, 1) := by decide +kernel
theorem dX4_three_58 : decode cX4_three 58 = .ok (.iand, 1) := by decide +kernel
theorem dX4_three_59 : decode cX4_three 59 = .ok (.iadd, 1) := by decide +kernel
theorem dX4_three_60 : decode cX4_three 60 = .ok (.istore 8, 2) := by decide +kernel
theorem dX4_three_62 : decode cX4_three 62 = .ok (.bipush 8, 2) := by decide +kernel
theorem dX4_three_64 : decode cX4_three 64 = .ok (.iload_n 2, 1) := by decide +kernel
theorem dX4_three_65 : decode cX4_three 65 = .ok (.iconst 1, 1) := by decide +kernel
theorem dX4_three_66 : decode cX4_three 66 = .ok (.iand, 1) := by decide +kernel
theorem dX4_three_67 : decode cX4_three 67 = .ok (.iadd, 1) := by decide +kernel
theorem dX4_three_68 : decode cX4_three 68 = .ok (.istore 9, 2) := by decide +kernel
theorem dX4_three_70 : decode cX4_three 70 = .ok (.bipush 8, 2) := by decide +kernel
theorem dX4_three_72 : decode cX4_three 72 = .ok (.iload_n 3, 1) := by decide +kernel
theorem dX4_three_73 : decode cX4_three 73 = .ok (.iconst 1, 1) := by decide +kernel
theorem dX4_three_74 : decode cX4_three 74 = .ok (.iand, 1) := by decide +kernel
theorem dX4_three_75 : decode cX4_three 75 = .ok (.iadd, 1) := by decide +kernel
theorem dX4_three_76 : decode cX4_three 76 = .ok (.istore 10, 2) := by decide +kernel
theorem dX4_three_78 : decode cX4_three 78 = .ok (.iload 8, 2) := by decide +kernel
theorem dX4_three_80 : decode cX4_three 80 = .ok (.iconst 1, 1) := by decide +kernel
theorem dX4_three_81 : decode cX4_three 81 = .ok (.if_icmp .ne 13, 3) := by decide +kernel
theorem dX4_three_84 : decode cX4_three 84 = .ok (.bipush 8, 2) := by decide +kernel
theorem dX4_three_86 : decode cX4_three 86 = .ok (.iload 7, 2) := by decide +kernel
theorem dX4_three_88 : decode cX4_three 88 = .ok (.iadd, 1) := by decide +kernel
theorem dX4_three_89 : decode cX4_three 89 = .ok (.istore 4, 2) := by decide +kernel
theorem dX4_three_91 : decode cX4_three 91 = .ok (.goto 106, 3) := by decide +kernel
theorem dX4_three_94 : decode cX4_three 94 = .ok (.iload 8, 2) := by decide +kernel
theorem dX4_three_96 : decode cX4_three 96 = .ok (.iconst 2, 1) := by decide +kernel
theorem dX4_three_97 : decode cX4_three 97 = .ok (.if_icmp .ne 18, 3) := by decide +kernel
theorem dX4_three_100 : decode cX4_three 100 = .ok (.iconst 2, 1) := by decide +kernel
theorem dX4_three_101 : decode cX4_three 101 = .ok (.iload 6, 2) := by decide +kernel
theorem dX4_three_103 : decode cX4_three 103 = .ok (.imul, 1) := by decide +kernel
theorem dX4_three_104 : decode cX4_three 104 = .ok (.iload 7, 2) := by decide +kernel
theorem dX4_three_106 : decode cX4_three 106 = .ok (.iadd, 1) := by decide +kernel
theorem dX4_three_107 : decode cX4_three 107 = .ok (.istore 4, 2) := by decide +kernel
theorem dX4_three_109 : decode cX4_three 109 = .ok (.iload 10, 2) := by decide +kernel
theorem dX4_three_111 : decode cX4_three 111 = .ok (.istore_n 3, 1) := by decide +kernel
theorem dX4_three_112 : decode cX4_three 112 = .ok (.goto 85, 3) := by decide +kernel
theorem dX4_three_115 : decode cX4_three 115 = .ok (.iload 8, 2) := by decide +kernel
theorem dX4_three_117 : decode cX4_three 117 = .ok (.iconst 3, 1) := by decide +kernel
theorem dX4_three_118 : decode cX4_three 118 = .ok (.if_icmp .ne 18, 3) := by decide +kernel
theorem dX4_three_121 : decode cX4_three 121 = .ok (.iconst 2, 1) := by decide +kernel
theorem dX4_three_122 : decode cX4_three 122 = .ok (.iload 5, 2) := by decide +kernel
theorem dX4_three_124 : decode cX4_three 124 = .ok (.imul, 1) := by decide +kernel
theorem dX4_three_125 : decode cX4_three 125 = .ok (.iload 7, 2) := by decide +kernel
theorem dX4_three_127 : decode cX4_three 127 = .ok (.iadd, 1) := by decide +kernel
theorem dX4_three_128 : decode cX4_three 128 = .ok (.istore 4, 2) := by decide +kernel
theorem dX4_three_130 : decode cX4_three 130 = .ok (.iload 9, 2) := by decide +kernel
theorem dX4_three_132 : decode cX4_three 132 = .ok (.istore_n 2, 1) := by decide +kernel
theorem dX4_three_133 : decode cX4_three 133 = .ok (.goto 64, 3) := by decide +kernel
theorem dX4_three_136 : decode cX4_three 136 = .ok (.iload 8, 2) := by decide +kernel
theorem dX4_three_138 : decode cX4_three 138 = .ok (.iconst 4, 1) := by decide +kernel
theorem dX4_three_139 : decode cX4_three 139 = .ok (.if_icmp .ne 58, 3) := by decide +kernel
theorem dX4_three_142 : decode cX4_three 142 = .ok (.iload 6, 2) := by decide +kernel
theorem dX4_three_144 : decode cX4_three 144 = .ok (.ifCond .ne 13, 3) := by decide +kernel
theorem dX4_three_147 : decode cX4_three 147 = .ok (.iconst 2, 1) := by decide +kernel
theorem dX4_three_148 : decode cX4_three 148 = .ok (.iload 5, 2) := by decide +kernel
theorem dX4_three_150 : decode cX4_three 150 = .ok (.imul, 1) := by decide +kernel
theorem dX4_three_151 : decode cX4_three 151 = .ok (.iload 7, 2) := by decide +kernel
theorem dX4_three_153 : decode cX4_three 153 = .ok (.iadd, 1) := by decide +kernel
theorem dX4_three_154 : decode cX4_three 154 = .ok (.goto 8, 3) := by decide +kernel
theorem dX4_three_157 : decode cX4_three 157 = .ok (.bipush 8, 2) := by decide +kernel
theorem dX4_three_159 : decode cX4_three 159 = .ok (.iload 7, 2) := by decide +kernel
theorem dX4_three_161 : decode cX4_three 161 = .ok (.iadd, 1) := by decide +kernel
theorem dX4_three_162 : decode cX4_three 162 = .ok (.istore 4, 2) := by decide +kernel
theorem dX4_three_164 : decode cX4_three 164 = .ok (.iload 6, 2) := by decide +kernel
theorem dX4_three_166 : decode cX4_three 166 = .ok (.iconst 2, 1) := by decide +kernel
theorem dX4_three_167 : decode cX4_three 167 = .ok (.if_icmp .ne 7, 3) := by decide +kernel
theorem dX4_three_170 : decode cX4_three 170 = .ok (.iload_n 2, 1) := by decide +kernel
theorem dX4_three_171 : decode cX4_three 171 = .ok (.goto 5, 3) := by decide +kernel
theorem dX4_three_174 : decode cX4_three 174 = .ok (.iload 9, 2) := by decide +kernel
theorem dX4_three_176 : decode cX4_three 176 = .ok (.istore_n 2, 1) := by decide +kernel
theorem dX4_three_177 : decode cX4_three 177 = .ok (.iload 6, 2) := by decide +kernel
theorem dX4_three_179 : decode cX4_three 179 = .ok (.iconst 1, 1) := by decide +kernel
theorem dX4_three_180 : decode cX4_three 180 = .ok (.if_icmp .ne 14, 3) := by decide +kernel
theorem dX4_three_183 : decode cX4_three 183 = .ok (.iconst 2, 1) := by decide +kernel
theorem dX4_three_184 : decode cX4_three 184 = .ok (.iload 5, 2) := by decide +kernel
theorem dX4_three_186 : decode cX4_three 186 = .ok (.imul, 1) := by decide +kernel
theorem dX4_three_187 : decode cX4_three 187 = .ok (.iload_n 3, 1) := by decide +kernel
theorem dX4_three_188 : decode cX4_three 188 = .ok (.iconst 1, 1) := by decide +kernel
theorem dX4_three_189 : decode cX4_three 189 = .ok (.iand, 1) := by decide +kernel
theorem dX4_three_190 : decode cX4_three 190 = .ok (.iadd, 1) := by decide +kernel
theorem dX4_three_191 : decode cX4_three 191 = .ok (.goto 5, 3) := by decide +kernel
theorem dX4_three_194 : decode cX4_three 194 = .ok (.iload 10, 2) := by decide +kernel
theorem dX4_three_196 : decode cX4_three 196 = .ok (.istore_n 3, 1) := by decide +kernel
theorem dX4_three_197 : decode cX4_three 197 = .ok (.bipush 100, 2) := by decide +kernel
theorem dX4_three_199 : decode cX4_three 199 = .ok (.iload_n 2, 1) := by decide +kernel
theorem dX4_three_200 : decode cX4_three 200 = .ok (.imul, 1) := by decide +kernel
theorem dX4_three_201 : decode cX4_three 201 = .ok (.bipush 10, 2) := by decide +kernel
theorem dX4_three_203 : decode cX4_three 203 = .ok (.iload_n 3, 1) := by decide +kernel
theorem dX4_three_204 : decode cX4_three 204 = .ok (.imul, 1) := by decide +kernel
theorem dX4_three_205 : decode cX4_three 205 = .ok (.iadd, 1) := by decide +kernel
theorem dX4_three_206 : decode cX4_three 206 = .ok (.iload 4, 2) := by decide +kernel
theorem dX4_three_208 : decode cX4_three 208 = .ok (.iadd, 1) := by decide +kernel
theorem dX4_three_209 : decode cX4_three 209 = .ok (.ireturn, 1) := by decide +kernel
theorem dX4_packDigits_0 : decode cX4_packDigits 0 = .ok (.aload_n 0, 1) := by decide +kernel
theorem dX4_packDigits_1 : decode cX4_packDigits 1 = .ok (.getfield 17, 3) := by decide +kernel
theorem dX4_packDigits_4 : decode cX4_packDigits 4 = .ok (.iload_n 1, 1) := by decide +kernel
theorem dX4_packDigits_5 : decode cX4_packDigits 5 = .ok (.laload, 1) := by decide +kernel
theorem dX4_packDigits_6 : decode cX4_packDigits 6 = .ok (.lstore_n 2, 1) := by decide +kernel
theorem dX4_packDigits_7 : decode cX4_packDigits 7 = .ok (.aload_n 0, 1) := by decide +kernel
theorem dX4_packDigits_8 : decode cX4_packDigits 8 = .ok (.getfield 21, 3) := by decide +kernel
theorem dX4_packDigits_11 : decode cX4_packDigits 11 = .ok (.iload_n 1, 1) := by decide +kernel
theorem dX4_packDigits_12 : decode cX4_packDigits 12 = .ok (.iaload, 1) := by decide +kernel
theorem dX4_packDigits_13 : decode cX4_packDigits 13 = .ok (.sipush (-398), 3) := by decide +kernel
theorem dX4_packDigits_16 : decode cX4_packDigits 16 = .ok (.isub, 1) := by decide +kernel
theorem dX4_packDigits_17 : decode cX4_packDigits 17 = .ok (.i2l, 1) := by decide +kernel
theorem dX4_packDigits_18 : decode cX4_packDigits 18 = .ok (.lstore 4, 2) := by decide +kernel
theorem dX4_packDigits_20 : decode cX4_packDigits 20 = .ok (.lconst 0, 1) := by decide +kernel
theorem dX4_packDigits_21 : decode cX4_packDigits 21 = .ok (.lstore 6, 2) := by decide +kernel
theorem dX4_packDigits_23 : decode cX4_packDigits 23 = .ok (.iconst 0, 1) := by decide +kernel
theorem dX4_packDigits_24 : decode cX4_packDigits 24 = .ok (.istore 8, 2) := by decide +kernel
theorem dX4_packDigits_26 : decode cX4_packDigits 26 = .ok (.iload 8, 2) := by decide +kernel
theorem dX4_packDigits_28 : decode cX4_packDigits 28 = .ok (.iconst 5, 1) := by decide +kernel
theorem dX4_packDigits_29 : decode cX4_packDigits 29 = .ok (.if_icmp .ge 57, 3) := by decide +kernel
theorem dX4_packDigits_32 : decode cX4_packDigits 32 = .ok (.lload_n 2, 1) := by decide +kernel
theorem dX4_packDigits_33 : decode cX4_packDigits 33 = .ok (.ldc2_w 184, 3) := by decide +kernel
theorem dX4_packDigits_36 : decode cX4_packDigits 36 = .ok (.lrem, 1) := by decide +kernel
theorem dX4_packDigits_37 : decode cX4_packDigits 37 = .ok (.l2i, 1) := by decide +kernel
theorem dX4_packDigits_38 : decode cX4_packDigits 38 = .ok (.istore 9, 2) := by decide +kernel
theorem dX4_packDigits_40 : decode cX4_packDigits 40 = .ok (.lload_n 2, 1) := by decide +kernel
theorem dX4_packDigits_41 : decode cX4_packDigits 41 = .ok (.ldc2_w 184, 3) := by decide +kernel
theorem dX4_packDigits_44 : decode cX4_packDigits 44 = .ok (.ldiv, 1) := by decide +kernel
theorem dX4_packDigits_45 : decode cX4_packDigits 45 = .ok (.lstore_n 2, 1) := by decide +kernel
theorem dX4_packDigits_46 : decode cX4_packDigits 46 = .ok (.lload 6, 2) := by decide +kernel
theorem dX4_packDigits_48 : decode cX4_packDigits 48 = .ok (.aload_n 0, 1) := by decide +kernel
theorem dX4_packDigits_49 : decode cX4_packDigits 49 = .ok (.iload 9, 2) := by decide +kernel
theorem dX4_packDigits_51 : decode cX4_packDigits 51 = .ok (.bipush 100, 2) := by decide +kernel
theorem dX4_packDigits_53 : decode cX4_packDigits 53 = .ok (.idiv, 1) := by decide +kernel
theorem dX4_packDigits_54 : decode cX4_packDigits 54 = .ok (.iload 9, 2) := by decide +kernel
theorem dX4_packDigits_56 : decode cX4_packDigits 56 = .ok (.bipush 10, 2) := by decide +kernel
theorem dX4_packDigits_58 : decode cX4_packDigits 58 = .ok (.idiv, 1) := by decide +kernel
theorem dX4_packDigits_59 : decode cX4_packDigits 59 = .ok (.bipush 10, 2) := by decide +kernel
theorem dX4_packDigits_61 : decode cX4_packDigits 61 = .ok (.irem, 1) := by decide +kernel
theorem dX4_packDigits_62 : decode cX4_packDigits 62 = .ok (.iload 9, 2) := by decide +kernel
theorem dX4_packDigits_64 : decode cX4_packDigits 64 = .ok (.bipush 10, 2) := by decide +kernel
theorem dX4_packDigits_66 : decode cX4_packDigits 66 = .ok (.irem, 1) := by decide +kernel
theorem dX4_packDigits_67 : decode cX4_packDigits 67 = .ok (.invokevirtual 186, 3) := by decide +kernel
theorem dX4_packDigits_70 : decode cX4_packDigits 70 = .ok (.i2l, 1) := by decide +kernel
theorem dX4_packDigits_71 : decode cX4_packDigits 71 = .ok (.bipush 10, 2) := by decide +kernel
theorem dX4_packDigits_73 : decode cX4_packDigits 73 = .ok (.iload 8, 2) := by decide +kernel
theorem dX4_packDigits_75 : decode cX4_packDigits 75 = .ok (.imul, 1) := by decide +kernel
theorem dX4_packDigits_76 : decode cX4_packDigits 76 = .ok (.lshl, 1) := by decide +kernel
theorem dX4_packDigits_77 : decode cX4_packDigits 77 = .ok (.lor, 1) := by decide +kernel
theorem dX4_packDigits_78 : decode cX4_packDigits 78 = .ok (.lstore 6, 2) := by decide +kernel
theorem dX4_packDigits_80 : decode cX4_packDigits 80 = .ok (.iinc 8 1, 3) := by decide +kernel
theorem dX4_packDigits_83 : decode cX4_packDigits 83 = .ok (.goto (-57), 3) := by decide +kernel
theorem dX4_packDigits_86 : decode cX4_packDigits 86 = .ok (.lload 6, 2) := by decide +kernel
theorem dX4_packDigits_88 : decode cX4_packDigits 88 = .ok (.lload 4, 2) := by decide +kernel
theorem dX4_packDigits_90 : decode cX4_packDigits 90 = .ok (.ldc2_w 189, 3) := by decide +kernel
theorem dX4_packDigits_93 : decode cX4_packDigits 93 = .ok (.lrem, 1) := by decide +kernel
theorem dX4_packDigits_94 : decode cX4_packDigits 94 = .ok (.bipush 50, 2) := by decide +kernel
theorem dX4_packDigits_96 : decode cX4_packDigits 96 = .ok (.lshl, 1) := by decide +kernel
theorem dX4_packDigits_97 : decode cX4_packDigits 97 = .ok (.lor, 1) := by decide +kernel
theorem dX4_packDigits_98 : decode cX4_packDigits 98 = .ok (.lstore 6, 2) := by decide +kernel
theorem dX4_packDigits_100 : decode cX4_packDigits 100 = .ok (.lload_n 2, 1) := by decide +kernel
theorem dX4_packDigits_101 : decode cX4_packDigits 101 = .ok (.ldc2_w 191, 3) := by decide +kernel
theorem dX4_packDigits_104 : decode cX4_packDigits 104 = .ok (.lcmp, 1) := by decide +kernel
theorem dX4_packDigits_105 : decode cX4_packDigits 105 = .ok (.ifCond .ge 23, 3) := by decide +kernel
theorem dX4_packDigits_108 : decode cX4_packDigits 108 = .ok (.lload 6, 2) := by decide +kernel
theorem dX4_packDigits_110 : decode cX4_packDigits 110 = .ok (.lload 4, 2) := by decide +kernel
theorem dX4_packDigits_112 : decode cX4_packDigits 112 = .ok (.ldc2_w 189, 3) := by decide +kernel
theorem dX4_packDigits_115 : decode cX4_packDigits 115 = .ok (.ldiv, 1) := by decide +kernel
theorem dX4_packDigits_116 : decode cX4_packDigits 116 = .ok (.bipush 61, 2) := by decide +kernel
theorem dX4_packDigits_118 : decode cX4_packDigits 118 = .ok (.lshl, 1) := by decide +kernel
theorem dX4_packDigits_119 : decode cX4_packDigits 119 = .ok (.lor, 1) := by decide +kernel
theorem dX4_packDigits_120 : decode cX4_packDigits 120 = .ok (.lload_n 2, 1) := by decide +kernel
theorem dX4_packDigits_121 : decode cX4_packDigits 121 = .ok (.bipush 58, 2) := by decide +kernel
theorem dX4_packDigits_123 : decode cX4_packDigits 123 = .ok (.lshl, 1) := by decide +kernel
theorem dX4_packDigits_124 : decode cX4_packDigits 124 = .ok (.lor, 1) := by decide +kernel
theorem dX4_packDigits_125 : decode cX4_packDigits 125 = .ok (.goto 28, 3) := by decide +kernel
theorem dX4_packDigits_128 : decode cX4_packDigits 128 = .ok (.lload 6, 2) := by decide +kernel
theorem dX4_packDigits_130 : decode cX4_packDigits 130 = .ok (.ldc2_w 193, 3) := by decide +kernel
theorem dX4_packDigits_133 : decode cX4_packDigits 133 = .ok (.lor, 1) := by decide +kernel
theorem dX4_packDigits_134 : decode cX4_packDigits 134 = .ok (.lload 4, 2) := by decide +kernel
theorem dX4_packDigits_136 : decode cX4_packDigits 136 = .ok (.ldc2_w 189, 3) := by decide +kernel
theorem dX4_packDigits_139 : decode cX4_packDigits 139 = .ok (.ldiv, 1) := by decide +kernel
theorem dX4_packDigits_140 : decode cX4_packDigits 140 = .ok (.bipush 59, 2) := by decide +kernel
theorem dX4_packDigits_142 : decode cX4_packDigits 142 = .ok (.lshl, 1) := by decide +kernel
theorem dX4_packDigits_143 : decode cX4_packDigits 143 = .ok (.lor, 1) := by decide +kernel
theorem dX4_packDigits_144 : decode cX4_packDigits 144 = .ok (.lload_n 2, 1) := by decide +kernel
theorem dX4_packDigits_145 : decode cX4_packDigits 145 = .ok (.ldc2_w 191, 3) := by decide +kernel
theorem dX4_packDigits_148 : decode cX4_packDigits 148 = .ok (.lsub, 1) := by decide +kernel
theorem dX4_packDigits_149 : decode cX4_packDigits 149 = .ok (.bipush 58, 2) := by decide +kernel
theorem dX4_packDigits_151 : decode cX4_packDigits 151 = .ok (.lshl, 1) := by decide +kernel
theorem dX4_packDigits_152 : decode cX4_packDigits 152 = .ok (.lor, 1) := by decide +kernel
theorem dX4_packDigits_153 : decode cX4_packDigits 153 = .ok (.lreturn, 1) := by decide +kernel
theorem dX4_pack_0 : decode cX4_pack 0 = .ok (.aload_n 0, 1) := by decide +kernel
theorem dX4_pack_1 : decode cX4_pack 1 = .ok (.aload_n 0, 1) := by decide +kernel
theorem dX4_pack_2 : decode cX4_pack 2 = .ok (.iload_n 1, 1) := by decide +kernel
theorem dX4_pack_3 : decode cX4_pack 3 = .ok (.invokevirtual 167, 3) := by decide +kernel
theorem dX4_pack_6 : decode cX4_pack 6 = .ok (.ifCond .eq 7, 3) := by decide +kernel
theorem dX4_pack_9 : decode cX4_pack 9 = .ok (.iconst 1, 1) := by decide +kernel
theorem dX4_pack_10 : decode cX4_pack 10 = .ok (.goto 17, 3) := by decide +kernel
theorem dX4_pack_13 : decode cX4_pack 13 = .ok (.iload_n 2, 1) := by decide +kernel
theorem dX4_pack_14 : decode cX4_pack 14 = .ok (.ifCond .lt 8, 3) := by decide +kernel
theorem dX4_pack_17 : decode cX4_pack 17 = .ok (.iload_n 2, 1) := by decide +kernel
theorem dX4_pack_18 : decode cX4_pack 18 = .ok (.iconst 1, 1) := by decide +kernel
theorem dX4_pack_19 : decode cX4_pack 19 = .ok (.if_icmp .le 7, 3) := by decide +kernel
theorem dX4_pack_22 : decode cX4_pack 22 = .ok (.iconst 2, 1) := by decide +kernel
theorem dX4_pack_23 : decode cX4_pack 23 = .ok (.goto 4, 3) := by decide +kernel
theorem dX4_pack_26 : decode cX4_pack 26 = .ok (.iconst 0, 1) := by decide +kernel
theorem dX4_pack_27 : decode cX4_pack 27 = .ok (.putfield 30, 3) := by decide +kernel
theorem dX4_pack_30 : decode cX4_pack 30 = .ok (.aload_n 0, 1) := by decide +kernel
theorem dX4_pack_31 : decode cX4_pack 31 = .ok (.getfield 30, 3) := by decide +kernel
theorem dX4_pack_34 : decode cX4_pack 34 = .ok (.ifCond .eq 5, 3) := by decide +kernel
theorem dX4_pack_37 : decode cX4_pack 37 = .ok (.lconst 0, 1) := by decide +kernel
theorem dX4_pack_38 : decode cX4_pack 38 = .ok (.lreturn, 1) := by decide +kernel
theorem dX4_pack_39 : decode cX4_pack 39 = .ok (.aload_n 0, 1) := by decide +kernel
theorem dX4_pack_40 : decode cX4_pack 40 = .ok (.getfield 13, 3) := by decide +kernel
theorem dX4_pack_43 : decode cX4_pack 43 = .ok (.iload_n 1, 1) := by decide +kernel
theorem dX4_pack_44 : decode cX4_pack 44 = .ok (.baload, 1) := by decide +kernel
theorem dX4_pack_45 : decode cX4_pack 45 = .ok (.ifCond .eq 9, 3) := by decide +kernel
theorem dX4_pack_48 : decode cX4_pack 48 = .ok (.ldc2_w 195, 3) := by decide +kernel
theorem dX4_pack_51 : decode cX4_pack 51 = .ok (.goto 4, 3) := by decide +kernel
theorem dX4_pack_54 : decode cX4_pack 54 = .ok (.lconst 0, 1) := by decide +kernel
theorem dX4_pack_55 : decode cX4_pack 55 = .ok (.lstore_n 3, 1) := by decide +kernel
theorem dX4_pack_56 : decode cX4_pack 56 = .ok (.aload_n 0, 1) := by decide +kernel
theorem dX4_pack_57 : decode cX4_pack 57 = .ok (.iload_n 1, 1) := by decide +kernel
theorem dX4_pack_58 : decode cX4_pack 58 = .ok (.iconst 0, 1) := by decide +kernel
theorem dX4_pack_59 : decode cX4_pack 59 = .ok (.invokevirtual 107, 3) := by decide +kernel
theorem dX4_pack_62 : decode cX4_pack 62 = .ok (.ifCond .ne 27, 3) := by decide +kernel
theorem dX4_pack_65 : decode cX4_pack 65 = .ok (.lload_n 3, 1) := by decide +kernel
theorem dX4_pack_66 : decode cX4_pack 66 = .ok (.aload_n 0, 1) := by decide +kernel
theorem dX4_pack_67 : decode cX4_pack 67 = .ok (.iload_n 1, 1) := by decide +kernel
theorem dX4_pack_68 : decode cX4_pack 68 = .ok (.iconst 1, 1) := by decide +kernel
theorem dX4_pack_69 : decode cX4_pack 69 = .ok (.invokevirtual 107, 3) := by decide +kernel
theorem dX4_pack_72 : decode cX4_pack 72 = .ok (.ifCond .eq 9, 3) := by decide +kernel
theorem dX4_pack_75 : decode cX4_pack 75 = .ok (.ldc2_w 197, 3) := by decide +kernel
theorem dX4_pack_78 : decode cX4_pack 78 = .ok (.goto 6, 3) := by decide +kernel
theorem dX4_pack_81 : decode cX4_pack 81 = .ok (.ldc2_w 199, 3) := by decide +kernel
theorem dX4_pack_84 : decode cX4_pack 84 = .ok (.bipush 58, 2) := by decide +kernel
theorem dX4_pack_86 : decode cX4_pack 86 = .ok (.lshl, 1) := by decide +kernel
theorem dX4_pack_87 : decode cX4_pack 87 = .ok (.lor, 1) := by decide +kernel
theorem dX4_pack_88 : decode cX4_pack 88 = .ok (.lreturn, 1) := by decide +kernel
theorem dX4_pack_89 : decode cX4_pack 89 = .ok (.iload_n 2, 1) := by decide +kernel
theorem dX4_pack_90 : decode cX4_pack 90 = .ok (.iconst 1, 1) := by decide +kernel
theorem dX4_pack_91 : decode cX4_pack 91 = .ok (.if_icmp .ne 11, 3) := by decide +kernel
theorem dX4_pack_94 : decode cX4_pack 94 = .ok (.lload_n 3, 1) := by decide +kernel
theorem dX4_pack_95 : decode cX4_pack 95 = .ok (.aload_n 0, 1) := by decide +kernel
theorem dX4_pack_96 : decode cX4_pack 96 = .ok (.iload_n 1, 1) := by decide +kernel
theorem dX4_pack_97 : decode cX4_pack 97 = .ok (.invokevirtual 201, 3) := by decide +kernel
theorem dX4_pack_100 : decode cX4_pack 100 = .ok (.lor, 1) := by decide +kernel
theorem dX4_pack_101 : decode cX4_pack 101 = .ok (.lreturn, 1) := by decide +kernel
theorem dX4_pack_102 : decode cX4_pack 102 = .ok (.aload_n 0, 1) := by decide +kernel
theorem dX4_pack_103 : decode cX4_pack 103 = .ok (.getfield 21, 3) := by decide +kernel
theorem dX4_pack_106 : decode cX4_pack 106 = .ok (.iload_n 1, 1) := by decide +kernel
theorem dX4_pack_107 : decode cX4_pack 107 = .ok (.iaload, 1) := by decide +kernel
theorem dX4_pack_108 : decode cX4_pack 108 = .ok (.sipush (-398), 3) := by decide +kernel
theorem dX4_pack_111 : decode cX4_pack 111 = .ok (.isub, 1) := by decide +kernel
theorem dX4_pack_112 : decode cX4_pack 112 = .ok (.i2l, 1) := by decide +kernel
theorem dX4_pack_113 : decode cX4_pack 113 = .ok (.lstore 5, 2) := by decide +kernel
theorem dX4_pack_115 : decode cX4_pack 115 = .ok (.aload_n 0, 1) := by decide +kernel
theorem dX4_pack_116 : decode cX4_pack 116 = .ok (.getfield 17, 3) := by decide +kernel
theorem dX4_pack_119 : decode cX4_pack 119 = .ok (.iload_n 1, 1) := by decide +kernel
theorem dX4_pack_120 : decode cX4_pack 120 = .ok (.laload, 1) := by decide +kernel
theorem dX4_pack_121 : decode cX4_pack 121 = .ok (.lstore 7, 2) := by decide +kernel
theorem dX4_pack_123 : decode cX4_pack 123 = .ok (.lload 7, 2) := by decide +kernel
theorem dX4_pack_125 : decode cX4_pack 125 = .ok (.ldc2_w 204, 3) := by decide +kernel
theorem dX4_pack_128 : decode cX4_pack 128 = .ok (.lcmp, 1) := by decide +kernel
theorem dX4_pack_129 : decode cX4_pack 129 = .ok (.ifCond .ge 16, 3) := by decide +kernel
theorem dX4_pack_132 : decode cX4_pack 132 = .ok (.lload_n 3, 1) := by decide +kernel
theorem dX4_pack_133 : decode cX4_pack 133 = .ok (.lload 5, 2) := by decide +kernel
theorem dX4_pack_135 : decode cX4_pack 135 = .ok (.bipush 53, 2) := by decide +kernel
theorem dX4_pack_137 : decode cX4_pack 137 = .ok (.lshl, 1) := by decide +kernel
theorem dX4_pack_138 : decode cX4_pack 138 = .ok (.lor, 1) := by decide +kernel
theorem dX4_pack_139 : decode cX4_pack 139 = .ok (.lload 7, 2) := by decide +kernel
theorem dX4_pack_141 : decode cX4_pack 141 = .ok (.lor, 1) := by decide +kernel
theorem dX4_pack_142 : decode cX4_pack 142 = .ok (.goto 21, 3) := by decide +kernel
theorem dX4_pack_145 : decode cX4_pack 145 = .ok (.lload_n 3, 1) := by decide +kernel
theorem dX4_pack_146 : decode cX4_pack 146 = .ok (.ldc2_w 193, 3) := by decide +kernel
theorem dX4_pack_149 : decode cX4_pack 149 = .ok (.lor, 1) := by decide +kernel
theorem dX4_pack_150 : decode cX4_pack 150 = .ok (.lload 5, 2) := by decide +kernel
theorem dX4_pack_152 : decode cX4_pack 152 = .ok (.bipush 51, 2) := by decide +kernel
theorem dX4_pack_154 : decode cX4_pack 154 = .ok (.lshl, 1) := by decide +kernel
theorem dX4_pack_155 : decode cX4_pack 155 = .ok (.lor, 1) := by decide +kernel
theorem dX4_pack_156 : decode cX4_pack 156 = .ok (.lload 7, 2) := by decide +kernel
theorem dX4_pack_158 : decode cX4_pack 158 = .ok (.ldc2_w 204, 3) := by decide +kernel
theorem dX4_pack_161 : decode cX4_pack 161 = .ok (.lsub, 1) := by decide +kernel
theorem dX4_pack_162 : decode cX4_pack 162 = .ok (.lor, 1) := by decide +kernel
theorem dX4_pack_163 : decode cX4_pack 163 = .ok (.lreturn, 1) := by decide +kernel
theorem dX4_unpack_0 : decode cX4_unpack 0 = .ok (.aload_n 0, 1) := by decide +kernel
theorem dX4_unpack_1 : decode cX4_unpack 1 = .ok (.aload_n 0, 1) := by decide +kernel
theorem dX4_unpack_2 : decode cX4_unpack 2 = .ok (.iload_n 1, 1) := by decide +kernel
theorem dX4_unpack_3 : decode cX4_unpack 3 = .ok (.invokevirtual 167, 3) := by decide +kernel
theorem dX4_unpack_6 : decode cX4_unpack 6 = .ok (.ifCond .eq 7, 3) := by decide +kernel
theorem dX4_unpack_9 : decode cX4_unpack 9 = .ok (.iconst 1, 1) := by decide +kernel
theorem dX4_unpack_10 : decode cX4_unpack 10 = .ok (.goto 17, 3) := by decide +kernel
theorem dX4_unpack_13 : decode cX4_unpack 13 = .ok (.iload_n 2, 1) := by decide +kernel
theorem dX4_unpack_14 : decode cX4_unpack 14 = .ok (.ifCond .lt 8, 3) := by decide +kernel
theorem dX4_unpack_17 : decode cX4_unpack 17 = .ok (.iload_n 2, 1) := by decide +kernel
theorem dX4_unpack_18 : decode cX4_unpack 18 = .ok (.iconst 1, 1) := by decide +kernel
theorem dX4_unpack_19 : decode cX4_unpack 19 = .ok (.if_icmp .le 7, 3) := by decide +kernel
theorem dX4_unpack_22 : decode cX4_unpack 22 = .ok (.iconst 2, 1) := by decide +kernel
theorem dX4_unpack_23 : decode cX4_unpack 23 = .ok (.goto 4, 3) := by decide +kernel
theorem dX4_unpack_26 : decode cX4_unpack 26 = .ok (.iconst 0, 1) := by decide +kernel
theorem dX4_unpack_27 : decode cX4_unpack 27 = .ok (.putfield 30, 3) := by decide +kernel
theorem dX4_unpack_30 : decode cX4_unpack 30 = .ok (.aload_n 0, 1) := by decide +kernel
theorem dX4_unpack_31 : decode cX4_unpack 31 = .ok (.getfield 30, 3) := by decide +kernel
theorem dX4_unpack_34 : decode cX4_unpack 34 = .ok (.ifCond .eq 4, 3) := by decide +kernel
theorem dX4_unpack_37 : decode cX4_unpack 37 = .ok (.return_, 1) := by decide +kernel
theorem dX4_unpack_38 : decode cX4_unpack 38 = .ok (.lload_n 3, 1) := by decide +kernel
theorem dX4_unpack_39 : decode cX4_unpack 39 = .ok (.lconst 0, 1) := by decide +kernel
theorem dX4_unpack_40 : decode cX4_unpack 40 = .ok (.lcmp, 1) := by decide +kernel
theorem dX4_unpack_41 : decode cX4_unpack 41 = .ok (.ifCond .ge 7, 3) := by decide +kernel
theorem dX4_unpack_44 : decode cX4_unpack 44 = .ok (.iconst 1, 1) := by decide +kernel
theorem dX4_unpack_45 : decode cX4_unpack 45 = .ok (.goto 4, 3) := by decide +kernel
theorem dX4_unpack_48 : decode cX4_unpack 48 = .ok (.iconst 0, 1) := by decide +kernel
theorem dX4_unpack_49 : decode cX4_unpack 49 = .ok (.istore 5, 2) := by decide +kernel
theorem dX4_unpack_51 : decode cX4_unpack 51 = .ok (.lload_n 3, 1) := by decide +kernel
theorem dX4_unpack_52 : decode cX4_unpack 52 = .ok (.bipush 58, 2) := by decide +kernel
theorem dX4_unpack_54 : decode cX4_unpack 54 = .ok (.lshr, 1) := by decide +kernel
theorem dX4_unpack_55 : decode cX4_unpack 55 = .ok (.ldc2_w 199, 3) := by decide +kernel
theorem dX4_unpack_58 : decode cX4_unpack 58 = .ok (.land, 1) := by decide +kernel
theorem dX4_unpack_59 : decode cX4_unpack 59 = .ok (.l2i, 1) := by decide +kernel
theorem dX4_unpack_60 : decode cX4_unpack 60 = .ok (.istore 6, 2) := by decide +kernel
theorem dX4_unpack_62 : decode cX4_unpack 62 = .ok (.iload 6, 2) := by decide +kernel
theorem dX4_unpack_64 : decode cX4_unpack 64 = .ok (.iconst 3, 1) := by decide +kernel
theorem dX4_unpack_65 : decode cX4_unpack 65 = .ok (.ishr, 1) := by decide +kernel
theorem dX4_unpack_66 : decode cX4_unpack 66 = .ok (.iconst 3, 1) := by decide +kernel
theorem dX4_unpack_67 : decode cX4_unpack 67 = .ok (.if_icmp .ne 7, 3) := by decide +kernel
theorem dX4_unpack_70 : decode cX4_unpack 70 = .ok (.iconst 1, 1) := by decide +kernel
theorem dX4_unpack_71 : decode cX4_unpack 71 = .ok (.goto 4, 3) := by decide +kernel
theorem dX4_unpack_74 : decode cX4_unpack 74 = .ok (.iconst 0, 1) := by decide +kernel
theorem dX4_unpack_75 : decode cX4_unpack 75 = .ok (.istore 7, 2) := by decide +kernel
theorem dX4_unpack_77 : decode cX4_unpack 77 = .ok (.iload 6, 2) := by decide +kernel
theorem dX4_unpack_79 : decode cX4_unpack 79 = .ok (.bipush 31, 2) := by decide +kernel
theorem dX4_unpack_81 : decode cX4_unpack 81 = .ok (.if_icmp .ne 14, 3) := by decide +kernel
theorem dX4_unpack_84 : decode cX4_unpack 84 = .ok (.aload_n 0, 1) := by decide +kernel
theorem dX4_unpack_85 : decode cX4_unpack 85 = .ok (.iconst 2, 1) := by decide +kernel
theorem dX4_unpack_86 : decode cX4_unpack 86 = .ok (.iconst 0, 1) := by decide +kernel
theorem dX4_unpack_87 : decode cX4_unpack 87 = .ok (.lconst 0, 1) := by decide +kernel
theorem dX4_unpack_88 : decode cX4_unpack 88 = .ok (.iconst 0, 1) := by decide +kernel
theorem dX4_unpack_89 : decode cX4_unpack 89 = .ok (.invokevirtual 59, 3) := by decide +kernel
theorem dX4_unpack_92 : decode cX4_unpack 92 = .ok (.goto 215, 3) := by decide +kernel
theorem dX4_unpack_95 : decode cX4_unpack 95 = .ok (.iload 6, 2) := by decide +kernel
theorem dX4_unpack_97 : decode cX4_unpack 97 = .ok (.bipush 30, 2) := by decide +kernel
theorem dX4_unpack_99 : decode cX4_unpack 99 = .ok (.if_icmp .ne 15, 3) := by decide +kernel
theorem dX4_unpack_102 : decode cX4_unpack 102 = .ok (.aload_n 0, 1) := by decide +kernel
theorem dX4_unpack_103 : decode cX4_unpack 103 = .ok (.iconst 1, 1) := by decide +kernel
theorem dX4_unpack_104 : decode cX4_unpack 104 = .ok (.iload 5, 2) := by decide +kernel
theorem dX4_unpack_106 : decode cX4_unpack 106 = .ok (.lconst 0, 1) := by decide +kernel
theorem dX4_unpack_107 : decode cX4_unpack 107 = .ok (.iconst 0, 1) := by decide +kernel
theorem dX4_unpack_108 : decode cX4_unpack 108 = .ok (.invokevirtual 59, 3) := by decide +kernel
theorem dX4_unpack_111 : decode cX4_unpack 111 = .ok (.goto 196, 3) := by decide +kernel
theorem dX4_unpack_114 : decode cX4_unpack 114 = .ok (.iload_n 2, 1) := by decide +kernel
theorem dX4_unpack_115 : decode cX4_unpack 115 = .ok (.ifCond .ne 79, 3) := by decide +kernel
theorem dX4_unpack_118 : decode cX4_unpack 118 = .ok (.iload 7, 2) := by decide +kernel
theorem dX4_unpack_120 : decode cX4_unpack 120 = .ok (.ifCond .eq 15, 3) := by decide +kernel
theorem dX4_unpack_123 : decode cX4_unpack 123 = .ok (.lload_n 3, 1) := by decide +kernel
theorem dX4_unpack_124 : decode cX4_unpack 124 = .ok (.ldc2_w 206, 3) := by decide +kernel
theorem dX4_unpack_127 : decode cX4_unpack 127 = .ok (.land, 1) := by decide +kernel
theorem dX4_unpack_128 : decode cX4_unpack 128 = .ok (.ldc2_w 204, 3) := by decide +kernel
theorem dX4_unpack_131 : decode cX4_unpack 131 = .ok (.ladd, 1) := by decide +kernel
theorem dX4_unpack_132 : decode cX4_unpack 132 = .ok (.goto 8, 3) := by decide +kernel
theorem dX4_unpack_135 : decode cX4_unpack 135 = .ok (.lload_n 3, 1) := by decide +kernel
theorem dX4_unpack_136 : decode cX4_unpack 136 = .ok (.ldc2_w 208, 3) := by decide +kernel
theorem dX4_unpack_139 : decode cX4_unpack 139 = .ok (.land, 1) := by decide +kernel
theorem dX4_unpack_140 : decode cX4_unpack 140 = .ok (.lstore 8, 2) := by decide +kernel
theorem dX4_unpack_142 : decode cX4_unpack 142 = .ok (.lload_n 3, 1) := by decide +kernel
theorem dX4_unpack_143 : decode cX4_unpack 143 = .ok (.iload 7, 2) := by decide +kernel
theorem dX4_unpack_145 : decode cX4_unpack 145 = .ok (.ifCond .eq 8, 3) := by decide +kernel
theorem dX4_unpack_148 : decode cX4_unpack 148 = .ok (.bipush 51, 2) := by decide +kernel
theorem dX4_unpack_150 : decode cX4_unpack 150 = .ok (.goto 5, 3) := by decide +kernel
theorem dX4_unpack_153 : decode cX4_unpack 153 = .ok (.bipush 53, 2) := by decide +kernel
theorem dX4_unpack_155 : decode cX4_unpack 155 = .ok (.lshr, 1) := by decide +kernel
theorem dX4_unpack_156 : decode cX4_unpack 156 = .ok (.ldc2_w 210, 3) := by decide +kernel
theorem dX4_unpack_159 : decode cX4_unpack 159 = .ok (.land, 1) := by decide +kernel
theorem dX4_unpack_160 : decode cX4_unpack 160 = .ok (.l2i, 1) := by decide +kernel
theorem dX4_unpack_161 : decode cX4_unpack 161 = .ok (.istore 10, 2) := by decide +kernel
theorem dX4_unpack_163 : decode cX4_unpack 163 = .ok (.aload_n 0, 1) := by decide +kernel
theorem dX4_unpack_164 : decode cX4_unpack 164 = .ok (.iconst 0, 1) := by decide +kernel
theorem dX4_unpack_165 : decode cX4_unpack 165 = .ok (.iload 5, 2) := by decide +kernel
theorem dX4_unpack_167 : decode cX4_unpack 167 = .ok (.lload 8, 2) := by decide +kernel
theorem dX4_unpack_169 : decode cX4_unpack 169 = .ok (.ldc2_w 97, 3) := by decide +kernel
theorem dX4_unpack_172 : decode cX4_unpack 172 = .ok (.lcmp, 1) := by decide +kernel
theorem dX4_unpack_173 : decode cX4_unpack 173 = .ok (.ifCond .lt 7, 3) := by decide +kernel
theorem dX4_unpack_176 : decode cX4_unpack 176 = .ok (.lconst 0, 1) := by decide +kernel
theorem dX4_unpack_177 : decode cX4_unpack 177 = .ok (.goto 5, 3) := by decide +kernel
theorem dX4_unpack_180 : decode cX4_unpack 180 = .ok (.lload 8, 2) := by decide +kernel
theorem dX4_unpack_182 : decode cX4_unpack 182 = .ok (.iload 10, 2) := by decide +kernel
theorem dX4_unpack_184 : decode cX4_unpack 184 = .ok (.sipush (-398), 3) := by decide +kernel
theorem dX4_unpack_187 : decode cX4_unpack 187 = .ok (.iadd, 1) := by decide +kernel
theorem dX4_unpack_188 : decode cX4_unpack 188 = .ok (.invokevirtual 59, 3) := by decide +kernel
theorem dX4_unpack_191 : decode cX4_unpack 191 = .ok (.goto 116, 3) := by decide +kernel
theorem dX4_unpack_194 : decode cX4_unpack 194 = .ok (.iload 7, 2) := by decide +kernel
theorem dX4_unpack_196 : decode cX4_unpack 196 = .ok (.ifCond .eq 14, 3) := by decide +kernel
theorem dX4_unpack_199 : decode cX4_unpack 199 = .ok (.bipush 8, 2) := by decide +kernel
theorem dX4_unpack_201 : decode cX4_unpack 201 = .ok (.iload 6, 2) := by decide +kernel
theorem dX4_unpack_203 : decode cX4_unpack 203 = .ok (.iconst 1, 1) := by decide +kernel
theorem dX4_unpack_204 : decode cX4_unpack 204 = .ok (.iand, 1) := by decide +kernel
theorem dX4_unpack_205 : decode cX4_unpack 205 = .ok (.iadd, 1) := by decide +kernel
theorem dX4_unpack_206 : decode cX4_unpack 206 = .ok (.i2l, 1) := by decide +kernel
theorem dX4_unpack_207 : decode cX4_unpack 207 = .ok (.goto 9, 3) := by decide +kernel
theorem dX4_unpack_210 : decode cX4_unpack 210 = .ok (.iload 6, 2) := by decide +kernel
theorem dX4_unpack_212 : decode cX4_unpack 212 = .ok (.bipush 7, 2) := by decide +kernel
theorem dX4_unpack_214 : decode cX4_unpack 214 = .ok (.iand, 1) := by decide +kernel
theorem dX4_unpack_215 : decode cX4_unpack 215 = .ok (.i2l, 1) := by decide +kernel
theorem dX4_unpack_216 : decode cX4_unpack 216 = .ok (.lstore 8, 2) := by decide +kernel
theorem dX4_unpack_218 : decode cX4_unpack 218 = .ok (.iload 7, 2) := by decide +kernel
theorem dX4_unpack_220 : decode cX4_unpack 220 = .ok (.ifCond .eq 12, 3) := by decide +kernel
theorem dX4_unpack_223 : decode cX4_unpack 223 = .ok (.iload 6, 2) := by decide +kernel
theorem dX4_unpack_225 : decode cX4_unpack 225 = .ok (.iconst 1, 1) := by decide +kernel
theorem dX4_unpack_226 : decode cX4_unpack 226 = .ok (.ishr, 1) := by decide +kernel
theorem dX4_unpack_227 : decode cX4_unpack 227 = .ok (.iconst 3, 1) := by decide +kernel
theorem dX4_unpack_228 : decode cX4_unpack 228 = .ok (.iand, 1) := by decide +kernel
theorem dX4_unpack_229 : decode cX4_unpack 229 = .ok (.goto 7, 3) := by decide +kernel
theorem dX4_unpack_232 : decode cX4_unpack 232 = .ok (.iload 6, 2) := by decide +kernel
theorem dX4_unpack_234 : decode cX4_unpack 234 = .ok (.iconst 3, 1) := by decide +kernel
theorem dX4_unpack_235 : decode cX4_unpack 235 = .ok (.ishr, 1) := by decide +kernel
theorem dX4_unpack_236 : decode cX4_unpack 236 = .ok (.sipush 256, 3) := by decide +kernel
theorem dX4_unpack_239 : decode cX4_unpack 239 = .ok (.imul, 1) := by decide +kernel
theorem dX4_unpack_240 : decode cX4_unpack 240 = .ok (.lload_n 3, 1) := by decide +kernel
theorem dX4_unpack_241 : decode cX4_unpack 241 = .ok (.bipush 50, 2) := by decide +kernel
theorem dX4_unpack_243 : decode cX4_unpack 243 = .ok (.lshr, 1) := by decide +kernel
theorem dX4_unpack_244 : decode cX4_unpack 244 = .ok (.ldc2_w 212, 3) := by decide +kernel
theorem dX4_unpack_247 : decode cX4_unpack 247 = .ok (.land, 1) := by decide +kernel
theorem dX4_unpack_248 : decode cX4_unpack 248 = .ok (.l2i, 1) := by decide +kernel
theorem dX4_unpack_249 : decode cX4_unpack 249 = .ok (.iadd, 1) := by decide +kernel
theorem dX4_unpack_250 : decode cX4_unpack 250 = .ok (.istore 10, 2) := by decide +kernel
theorem dX4_unpack_252 : decode cX4_unpack 252 = .ok (.iconst 4, 1) := by decide +kernel
theorem dX4_unpack_253 : decode cX4_unpack 253 = .ok (.istore 11, 2) := by decide +kernel
theorem dX4_unpack_255 : decode cX4_unpack 255 = .ok (.iload 11, 2) := by decide +kernel
theorem dX4_unpack_257 : decode cX4_unpack 257 = .ok (.ifCond .lt 35, 3) := by decide +kernel
theorem dX4_unpack_260 : decode cX4_unpack 260 = .ok (.ldc2_w 184, 3) := by decide +kernel
theorem dX4_unpack_263 : decode cX4_unpack 263 = .ok (.lload 8, 2) := by decide +kernel
theorem dX4_unpack_265 : decode cX4_unpack 265 = .ok (.lmul, 1) := by decide +kernel
theorem dX4_unpack_266 : decode cX4_unpack 266 = .ok (.aload_n 0, 1) := by decide +kernel
theorem dX4_unpack_267 : decode cX4_unpack 267 = .ok (.lload_n 3, 1) := by decide +kernel
theorem dX4_unpack_268 : decode cX4_unpack 268 = .ok (.bipush 10, 2) := by decide +kernel
theorem dX4_unpack_270 : decode cX4_unpack 270 = .ok (.iload 11, 2) := by decide +kernel
theorem dX4_unpack_272 : decode cX4_unpack 272 = .ok (.imul, 1) := by decide +kernel
theorem dX4_unpack_273 : decode cX4_unpack 273 = .ok (.lshr, 1) := by decide +kernel
theorem dX4_unpack_274 : decode cX4_unpack 274 = .ok (.ldc2_w 210, 3) := by decide +kernel
theorem dX4_unpack_277 : decode cX4_unpack 277 = .ok (.land, 1) := by decide +kernel
theorem dX4_unpack_278 : decode cX4_unpack 278 = .ok (.l2i, 1) := by decide +kernel
theorem dX4_unpack_279 : decode cX4_unpack 279 = .ok (.invokevirtual 214, 3) := by decide +kernel
theorem dX4_unpack_282 : decode cX4_unpack 282 = .ok (.i2l, 1) := by decide +kernel
theorem dX4_unpack_283 : decode cX4_unpack 283 = .ok (.ladd, 1) := by decide +kernel
theorem dX4_unpack_284 : decode cX4_unpack 284 = .ok (.lstore 8, 2) := by decide +kernel
theorem dX4_unpack_286 : decode cX4_unpack 286 = .ok (.iinc 11 (-1), 3) := by decide +kernel
theorem dX4_unpack_289 : decode cX4_unpack 289 = .ok (.goto (-34), 3) := by decide +kernel
theorem dX4_unpack_292 : decode cX4_unpack 292 = .ok (.aload_n 0, 1) := by decide +kernel
theorem dX4_unpack_293 : decode cX4_unpack 293 = .ok (.iconst 0, 1) := by decide +kernel
theorem dX4_unpack_294 : decode cX4_unpack 294 = .ok (.iload 5, 2) := by decide +kernel
theorem dX4_unpack_296 : decode cX4_unpack 296 = .ok (.lload 8, 2) := by decide +kernel
theorem dX4_unpack_298 : decode cX4_unpack 298 = .ok (.iload 10, 2) := by decide +kernel
theorem dX4_unpack_300 : decode cX4_unpack 300 = .ok (.sipush (-398), 3) := by decide +kernel
theorem dX4_unpack_303 : decode cX4_unpack 303 = .ok (.iadd, 1) := by decide +kernel
theorem dX4_unpack_304 : decode cX4_unpack 304 = .ok (.invokevirtual 59, 3) := by decide +kernel
theorem dX4_unpack_307 : decode cX4_unpack 307 = .ok (.aload_n 0, 1) := by decide +kernel
theorem dX4_unpack_308 : decode cX4_unpack 308 = .ok (.iload_n 1, 1) := by decide +kernel
theorem dX4_unpack_309 : decode cX4_unpack 309 = .ok (.invokevirtual 181, 3) := by decide +kernel
theorem dX4_unpack_312 : decode cX4_unpack 312 = .ok (.return_, 1) := by decide +kernel
theorem dX4_mode_0 : decode cX4_mode 0 = .ok (.aload_n 0, 1) := by decide +kernel
theorem dX4_mode_1 : decode cX4_mode 1 = .ok (.iload_n 1, 1) := by decide +kernel
theorem dX4_mode_2 : decode cX4_mode 2 = .ok (.ifCond .lt 8, 3) := by decide +kernel
theorem dX4_mode_5 : decode cX4_mode 5 = .ok (.iload_n 1, 1) := by decide +kernel
theorem dX4_mode_6 : decode cX4_mode 6 = .ok (.iconst 4, 1) := by decide +kernel
theorem dX4_mode_7 : decode cX4_mode 7 = .ok (.if_icmp .le 7, 3) := by decide +kernel
theorem dX4_mode_10 : decode cX4_mode 10 = .ok (.iconst 1, 1) := by decide +kernel
theorem dX4_mode_11 : decode cX4_mode 11 = .ok (.goto 4, 3) := by decide +kernel
theorem dX4_mode_14 : decode cX4_mode 14 = .ok (.iconst 0, 1) := by decide +kernel
theorem dX4_mode_15 : decode cX4_mode 15 = .ok (.putfield 30, 3) := by decide +kernel
theorem dX4_mode_18 : decode cX4_mode 18 = .ok (.aload_n 0, 1) := by decide +kernel
theorem dX4_mode_19 : decode cX4_mode 19 = .ok (.aload_n 0, 1) := by decide +kernel
theorem dX4_mode_20 : decode cX4_mode 20 = .ok (.getfield 30, 3) := by decide +kernel
theorem dX4_mode_23 : decode cX4_mode 23 = .ok (.ifCond .ne 7, 3) := by decide +kernel
theorem dX4_mode_26 : decode cX4_mode 26 = .ok (.iload_n 1, 1) := by decide +kernel
theorem dX4_mode_27 : decode cX4_mode 27 = .ok (.goto 7, 3) := by decide +kernel
theorem dX4_mode_30 : decode cX4_mode 30 = .ok (.aload_n 0, 1) := by decide +kernel
theorem dX4_mode_31 : decode cX4_mode 31 = .ok (.getfield 74, 3) := by decide +kernel
theorem dX4_mode_34 : decode cX4_mode 34 = .ok (.putfield 74, 3) := by decide +kernel
theorem dX4_mode_37 : decode cX4_mode 37 = .ok (.return_, 1) := by decide +kernel
theorem dX4_trap_0 : decode cX4_trap 0 = .ok (.aload_n 0, 1) := by decide +kernel
theorem dX4_trap_1 : decode cX4_trap 1 = .ok (.iload_n 1, 1) := by decide +kernel
theorem dX4_trap_2 : decode cX4_trap 2 = .ok (.ifCond .lt 9, 3) := by decide +kernel
theorem dX4_trap_5 : decode cX4_trap 5 = .ok (.iload_n 1, 1) := by decide +kernel
theorem dX4_trap_6 : decode cX4_trap 6 = .ok (.bipush 31, 2) := by decide +kernel
theorem dX4_trap_8 : decode cX4_trap 8 = .ok (.if_icmp .le 7, 3) := by decide +kernel
theorem dX4_trap_11 : decode cX4_trap 11 = .ok (.iconst 1, 1) := by decide +kernel
theorem dX4_trap_12 : decode cX4_trap 12 = .ok (.goto 4, 3) := by decide +kernel
theorem dX4_trap_15 : decode cX4_trap 15 = .ok (.iconst 0, 1) := by decide +kernel
theorem dX4_trap_16 : decode cX4_trap 16 = .ok (.putfield 30, 3) := by decide +kernel
theorem dX4_trap_19 : decode cX4_trap 19 = .ok (.aload_n 0, 1) := by decide +kernel
theorem dX4_trap_20 : decode cX4_trap 20 = .ok (.aload_n 0, 1) := by decide +kernel
theorem dX4_trap_21 : decode cX4_trap 21 = .ok (.getfield 30, 3) := by decide +kernel
theorem dX4_trap_24 : decode cX4_trap 24 = .ok (.ifCond .ne 7, 3) := by decide +kernel
theorem dX4_trap_27 : decode cX4_trap 27 = .ok (.iload_n 1, 1) := by decide +kernel
theorem dX4_trap_28 : decode cX4_trap 28 = .ok (.goto 7, 3) := by decide +kernel
theorem dX4_trap_31 : decode cX4_trap 31 = .ok (.aload_n 0, 1) := by decide +kernel
theorem dX4_trap_32 : decode cX4_trap 32 = .ok (.getfield 178, 3) := by decide +kernel
theorem dX4_trap_35 : decode cX4_trap 35 = .ok (.putfield 178, 3) := by decide +kernel
theorem dX4_trap_38 : decode cX4_trap 38 = .ok (.return_, 1) := by decide +kernel
theorem dX4_flags_0 : decode cX4_flags 0 = .ok (.aload_n 0, 1) := by decide +kernel
theorem dX4_flags_1 : decode cX4_flags 1 = .ok (.iconst 0, 1) := by decide +kernel
theorem dX4_flags_2 : decode cX4_flags 2 = .ok (.putfield 30, 3) := by decide +kernel
theorem dX4_flags_5 : decode cX4_flags 5 = .ok (.aload_n 0, 1) := by decide +kernel
theorem dX4_flags_6 : decode cX4_flags 6 = .ok (.getfield 175, 3) := by decide +kernel
theorem dX4_flags_9 : decode cX4_flags 9 = .ok (.ireturn, 1) := by decide +kernel
theorem dX4_lower_0 : decode cX4_lower 0 = .ok (.aload_n 0, 1) := by decide +kernel
theorem dX4_lower_1 : decode cX4_lower 1 = .ok (.iconst 0, 1) := by decide +kernel
theorem dX4_lower_2 : decode cX4_lower 2 = .ok (.putfield 30, 3) := by decide +kernel
theorem dX4_lower_5 : decode cX4_lower 5 = .ok (.aload_n 0, 1) := by decide +kernel
theorem dX4_lower_6 : decode cX4_lower 6 = .ok (.iconst 0, 1) := by decide +kernel
theorem dX4_lower_7 : decode cX4_lower 7 = .ok (.putfield 175, 3) := by decide +kernel
theorem dX4_lower_10 : decode cX4_lower 10 = .ok (.return_, 1) := by decide +kernel
