theorem dX0_init_0 : decode cX0_init 0 = .ok (.aload_n 0, 1) := by decide +kernel
theorem dX0_init_1 : decode cX0_init 1 = .ok (.invokespecial 3, 3) := by decide +kernel
theorem dX0_init_4 : decode cX0_init 4 = .ok (.return_, 1) := by decide +kernel
theorem dX0_setFinite_0 : decode cX0_setFinite 0 = .ok (.aload_n 0, 1) := by decide +kernel
theorem dX0_setFinite_1 : decode cX0_setFinite 1 = .ok (.iconst 0, 1) := by decide +kernel
theorem dX0_setFinite_2 : decode cX0_setFinite 2 = .ok (.putfield 9, 3) := by decide +kernel
theorem dX0_setFinite_5 : decode cX0_setFinite 5 = .ok (.aload_n 0, 1) := by decide +kernel
theorem dX0_setFinite_6 : decode cX0_setFinite 6 = .ok (.iload_n 1, 1) := by decide +kernel
theorem dX0_setFinite_7 : decode cX0_setFinite 7 = .ok (.putfield 15, 3) := by decide +kernel
theorem dX0_setFinite_10 : decode cX0_setFinite 10 = .ok (.aload_n 0, 1) := by decide +kernel
theorem dX0_setFinite_11 : decode cX0_setFinite 11 = .ok (.lload_n 2, 1) := by decide +kernel
theorem dX0_setFinite_12 : decode cX0_setFinite 12 = .ok (.putfield 19, 3) := by decide +kernel
theorem dX0_setFinite_15 : decode cX0_setFinite 15 = .ok (.aload_n 0, 1) := by decide +kernel
theorem dX0_setFinite_16 : decode cX0_setFinite 16 = .ok (.iload 4, 2) := by decide +kernel
theorem dX0_setFinite_18 : decode cX0_setFinite 18 = .ok (.putfield 23, 3) := by decide +kernel
theorem dX0_setFinite_21 : decode cX0_setFinite 21 = .ok (.return_, 1) := by decide +kernel
theorem dX0_setInfinity_0 : decode cX0_setInfinity 0 = .ok (.aload_n 0, 1) := by decide +kernel
theorem dX0_setInfinity_1 : decode cX0_setInfinity 1 = .ok (.iconst 1, 1) := by decide +kernel
theorem dX0_setInfinity_2 : decode cX0_setInfinity 2 = .ok (.putfield 9, 3) := by decide +kernel
theorem dX0_setInfinity_5 : decode cX0_setInfinity 5 = .ok (.aload_n 0, 1) := by decide +kernel
theorem dX0_setInfinity_6 : decode cX0_setInfinity 6 = .ok (.iload_n 1, 1) := by decide +kernel
theorem dX0_setInfinity_7 : decode cX0_setInfinity 7 = .ok (.putfield 15, 3) := by decide +kernel
theorem dX0_setInfinity_10 : decode cX0_setInfinity 10 = .ok (.aload_n 0, 1) := by decide +kernel
theorem dX0_setInfinity_11 : decode cX0_setInfinity 11 = .ok (.lconst 0, 1) := by decide +kernel
theorem dX0_setInfinity_12 : decode cX0_setInfinity 12 = .ok (.putfield 19, 3) := by decide +kernel
theorem dX0_setInfinity_15 : decode cX0_setInfinity 15 = .ok (.aload_n 0, 1) := by decide +kernel
theorem dX0_setInfinity_16 : decode cX0_setInfinity 16 = .ok (.iconst 0, 1) := by decide +kernel
theorem dX0_setInfinity_17 : decode cX0_setInfinity 17 = .ok (.putfield 23, 3) := by decide +kernel
theorem dX0_setInfinity_20 : decode cX0_setInfinity 20 = .ok (.return_, 1) := by decide +kernel
theorem dX0_setNothing_0 : decode cX0_setNothing 0 = .ok (.aload_n 0, 1) := by decide +kernel
theorem dX0_setNothing_1 : decode cX0_setNothing 1 = .ok (.iconst 2, 1) := by decide +kernel
theorem dX0_setNothing_2 : decode cX0_setNothing 2 = .ok (.putfield 9, 3) := by decide +kernel
theorem dX0_setNothing_5 : decode cX0_setNothing 5 = .ok (.aload_n 0, 1) := by decide +kernel
theorem dX0_setNothing_6 : decode cX0_setNothing 6 = .ok (.iconst 0, 1) := by decide +kernel
theorem dX0_setNothing_7 : decode cX0_setNothing 7 = .ok (.putfield 15, 3) := by decide +kernel
theorem dX0_setNothing_10 : decode cX0_setNothing 10 = .ok (.aload_n 0, 1) := by decide +kernel
theorem dX0_setNothing_11 : decode cX0_setNothing 11 = .ok (.lconst 0, 1) := by decide +kernel
theorem dX0_setNothing_12 : decode cX0_setNothing 12 = .ok (.putfield 19, 3) := by decide +kernel
theorem dX0_setNothing_15 : decode cX0_setNothing 15 = .ok (.aload_n 0, 1) := by decide +kernel
theorem dX0_setNothing_16 : decode cX0_setNothing 16 = .ok (.iconst 0, 1) := by decide +kernel
theorem dX0_setNothing_17 : decode cX0_setNothing 17 = .ok (.putfield 23, 3) := by decide +kernel
theorem dX0_setNothing_20 : decode cX0_setNothing 20 = .ok (.return_, 1) := by decide +kernel
theorem dX0_take_0 : decode cX0_take 0 = .ok (.aload_n 0, 1) := by decide +kernel
theorem dX0_take_1 : decode cX0_take 1 = .ok (.aload_n 1, 1) := by decide +kernel
theorem dX0_take_2 : decode cX0_take 2 = .ok (.getfield 9, 3) := by decide +kernel
theorem dX0_take_5 : decode cX0_take 5 = .ok (.putfield 9, 3) := by decide +kernel
theorem dX0_take_8 : decode cX0_take 8 = .ok (.aload_n 0, 1) := by decide +kernel
theorem dX0_take_9 : decode cX0_take 9 = .ok (.aload_n 1, 1) := by decide +kernel
theorem dX0_take_10 : decode cX0_take 10 = .ok (.getfield 15, 3) := by decide +kernel
theorem dX0_take_13 : decode cX0_take 13 = .ok (.putfield 15, 3) := by decide +kernel
theorem dX0_take_16 : decode cX0_take 16 = .ok (.aload_n 0, 1) := by decide +kernel
theorem dX0_take_17 : decode cX0_take 17 = .ok (.aload_n 1, 1) := by decide +kernel
theorem dX0_take_18 : decode cX0_take 18 = .ok (.getfield 19, 3) := by decide +kernel
theorem dX0_take_21 : decode cX0_take 21 = .ok (.putfield 19, 3) := by decide +kernel
theorem dX0_take_24 : decode cX0_take 24 = .ok (.aload_n 0, 1) := by decide +kernel
theorem dX0_take_25 : decode cX0_take 25 = .ok (.aload_n 1, 1) := by decide +kernel
theorem dX0_take_26 : decode cX0_take 26 = .ok (.getfield 23, 3) := by decide +kernel
theorem dX0_take_29 : decode cX0_take 29 = .ok (.putfield 23, 3) := by decide +kernel
theorem dX0_take_32 : decode cX0_take 32 = .ok (.return_, 1) := by decide +kernel
theorem dX0_isZero_0 : decode cX0_isZero 0 = .ok (.aload_n 0, 1) := by decide +kernel
theorem dX0_isZero_1 : decode cX0_isZero 1 = .ok (.getfield 9, 3) := by decide +kernel
theorem dX0_isZero_4 : decode cX0_isZero 4 = .ok (.ifCond .ne 16, 3) := by decide +kernel
theorem dX0_isZero_7 : decode cX0_isZero 7 = .ok (.aload_n 0, 1) := by decide +kernel
theorem dX0_isZero_8 : decode cX0_isZero 8 = .ok (.getfield 19, 3) := by decide +kernel
theorem dX0_isZero_11 : decode cX0_isZero 11 = .ok (.lconst 0, 1) := by decide +kernel
theorem dX0_isZero_12 : decode cX0_isZero 12 = .ok (.lcmp, 1) := by decide +kernel
theorem dX0_isZero_13 : decode cX0_isZero 13 = .ok (.ifCond .ne 7, 3) := by decide +kernel
theorem dX0_isZero_16 : decode cX0_isZero 16 = .ok (.iconst 1, 1) := by decide +kernel
theorem dX0_isZero_17 : decode cX0_isZero 17 = .ok (.goto 4, 3) := by decide +kernel
theorem dX0_isZero_20 : decode cX0_isZero 20 = .ok (.iconst 0, 1) := by decide +kernel
theorem dX0_isZero_21 : decode cX0_isZero 21 = .ok (.ireturn, 1) := by decide +kernel
theorem dX0_side_0 : decode cX0_side 0 = .ok (.aload_n 0, 1) := by decide +kernel
theorem dX0_side_1 : decode cX0_side 1 = .ok (.invokevirtual 26, 3) := by decide +kernel
theorem dX0_side_4 : decode cX0_side 4 = .ok (.ifCond .eq 5, 3) := by decide +kernel
theorem dX0_side_7 : decode cX0_side 7 = .ok (.iconst 0, 1) := by decide +kernel
theorem dX0_side_8 : decode cX0_side 8 = .ok (.ireturn, 1) := by decide +kernel
theorem dX0_side_9 : decode cX0_side 9 = .ok (.aload_n 0, 1) := by decide +kernel
theorem dX0_side_10 : decode cX0_side 10 = .ok (.getfield 15, 3) := by decide +kernel
theorem dX0_side_13 : decode cX0_side 13 = .ok (.ifCond .eq 7, 3) := by decide +kernel
theorem dX0_side_16 : decode cX0_side 16 = .ok (.iconst (-1), 1) := by decide +kernel
theorem dX0_side_17 : decode cX0_side 17 = .ok (.goto 4, 3) := by decide +kernel
theorem dX0_side_20 : decode cX0_side 20 = .ok (.iconst 1, 1) := by decide +kernel
theorem dX0_side_21 : decode cX0_side 21 = .ok (.ireturn, 1) := by decide +kernel
theorem dX1_init_0 : decode cX1_init 0 = .ok (.aload_n 0, 1) := by decide +kernel
theorem dX1_init_1 : decode cX1_init 1 = .ok (.invokespecial 3, 3) := by decide +kernel
theorem dX1_init_4 : decode cX1_init 4 = .ok (.return_, 1) := by decide +kernel
theorem dX1_isZero_0 : decode cX1_isZero 0 = .ok (.aload_n 0, 1) := by decide +kernel
theorem dX1_isZero_1 : decode cX1_isZero 1 = .ok (.getfield 9, 3) := by decide +kernel
theorem dX1_isZero_4 : decode cX1_isZero 4 = .ok (.lconst 0, 1) := by decide +kernel
theorem dX1_isZero_5 : decode cX1_isZero 5 = .ok (.lcmp, 1) := by decide +kernel
theorem dX1_isZero_6 : decode cX1_isZero 6 = .ok (.ifCond .ne 23, 3) := by decide +kernel
theorem dX1_isZero_9 : decode cX1_isZero 9 = .ok (.aload_n 0, 1) := by decide +kernel
theorem dX1_isZero_10 : decode cX1_isZero 10 = .ok (.getfield 15, 3) := by decide +kernel
theorem dX1_isZero_13 : decode cX1_isZero 13 = .ok (.lconst 0, 1) := by decide +kernel
theorem dX1_isZero_14 : decode cX1_isZero 14 = .ok (.lcmp, 1) := by decide +kernel
theorem dX1_isZero_15 : decode cX1_isZero 15 = .ok (.ifCond .ne 14, 3) := by decide +kernel
theorem dX1_isZero_18 : decode cX1_isZero 18 = .ok (.aload_n 0, 1) := by decide +kernel
theorem dX1_isZero_19 : decode cX1_isZero 19 = .ok (.getfield 18, 3) := by decide +kernel
theorem dX1_isZero_22 : decode cX1_isZero 22 = .ok (.ifCond .ne 7, 3) := by decide +kernel
theorem dX1_isZero_25 : decode cX1_isZero 25 = .ok (.iconst 1, 1) := by decide +kernel
theorem dX1_isZero_26 : decode cX1_isZero 26 = .ok (.goto 4, 3) := by decide +kernel
theorem dX1_isZero_29 : decode cX1_isZero 29 = .ok (.iconst 0, 1) := by decide +kernel
theorem dX1_isZero_30 : decode cX1_isZero 30 = .ok (.ireturn, 1) := by decide +kernel
theorem dX1_digits_0 : decode cX1_digits 0 = .ok (.aload_n 0, 1) := by decide +kernel
theorem dX1_digits_1 : decode cX1_digits 1 = .ok (.getfield 9, 3) := by decide +kernel
theorem dX1_digits_4 : decode cX1_digits 4 = .ok (.lconst 0, 1) := by decide +kernel
theorem dX1_digits_5 : decode cX1_digits 5 = .ok (.lcmp, 1) := by decide +kernel
theorem dX1_digits_6 : decode cX1_digits 6 = .ok (.ifCond .eq 16, 3) := by decide +kernel
theorem dX1_digits_9 : decode cX1_digits 9 = .ok (.bipush 16, 2) := by decide +kernel
theorem dX1_digits_11 : decode cX1_digits 11 = .ok (.aload_n 0, 1) := by decide +kernel
theorem dX1_digits_12 : decode cX1_digits 12 = .ok (.getfield 9, 3) := by decide +kernel
theorem dX1_digits_15 : decode cX1_digits 15 = .ok (.invokestatic 22, 3) := by decide +kernel
theorem dX1_digits_18 : decode cX1_digits 18 = .ok (.iadd, 1) := by decide +kernel
theorem dX1_digits_19 : decode cX1_digits 19 = .ok (.goto 10, 3) := by decide +kernel
theorem dX1_digits_22 : decode cX1_digits 22 = .ok (.aload_n 0, 1) := by decide +kernel
theorem dX1_digits_23 : decode cX1_digits 23 = .ok (.getfield 15, 3) := by decide +kernel
theorem dX1_digits_26 : decode cX1_digits 26 = .ok (.invokestatic 22, 3) := by decide +kernel
theorem dX1_digits_29 : decode cX1_digits 29 = .ok (.ireturn, 1) := by decide +kernel
theorem dX1_setWhole_0 : decode cX1_setWhole 0 = .ok (.aload_n 0, 1) := by decide +kernel
theorem dX1_setWhole_1 : decode cX1_setWhole 1 = .ok (.aload_n 1, 1) := by decide +kernel
theorem dX1_setWhole_2 : decode cX1_setWhole 2 = .ok (.getfield 26, 3) := by decide +kernel
theorem dX1_setWhole_5 : decode cX1_setWhole 5 = .ok (.putfield 31, 3) := by decide +kernel
theorem dX1_setWhole_8 : decode cX1_setWhole 8 = .ok (.aload_n 0, 1) := by decide +kernel
theorem dX1_setWhole_9 : decode cX1_setWhole 9 = .ok (.lconst 0, 1) := by decide +kernel
theorem dX1_setWhole_10 : decode cX1_setWhole 10 = .ok (.putfield 9, 3) := by decide +kernel
theorem dX1_setWhole_13 : decode cX1_setWhole 13 = .ok (.aload_n 0, 1) := by decide +kernel
theorem dX1_setWhole_14 : decode cX1_setWhole 14 = .ok (.aload_n 1, 1) := by decide +kernel
theorem dX1_setWhole_15 : decode cX1_setWhole 15 = .ok (.getfield 32, 3) := by decide +kernel
theorem dX1_setWhole_18 : decode cX1_setWhole 18 = .ok (.putfield 15, 3) := by decide +kernel
theorem dX1_setWhole_21 : decode cX1_setWhole 21 = .ok (.aload_n 0, 1) := by decide +kernel
theorem dX1_setWhole_22 : decode cX1_setWhole 22 = .ok (.aload_n 1, 1) := by decide +kernel
theorem dX1_setWhole_23 : decode cX1_setWhole 23 = .ok (.getfield 35, 3) := by decide +kernel
theorem dX1_setWhole_26 : decode cX1_setWhole 26 = .ok (.putfield 39, 3) := by decide +kernel
theorem dX1_setWhole_29 : decode cX1_setWhole 29 = .ok (.aload_n 0, 1) := by decide +kernel
theorem dX1_setWhole_30 : decode cX1_setWhole 30 = .ok (.iconst 0, 1) := by decide +kernel
theorem dX1_setWhole_31 : decode cX1_setWhole 31 = .ok (.putfield 18, 3) := by decide +kernel
theorem dX1_setWhole_34 : decode cX1_setWhole 34 = .ok (.return_, 1) := by decide +kernel
theorem dX1_setSum_0 : decode cX1_setSum 0 = .ok (.aload_n 1, 1) := by decide +kernel
theorem dX1_setSum_1 : decode cX1_setSum 1 = .ok (.getfield 26, 3) := by decide +kernel
theorem dX1_setSum_4 : decode cX1_setSum 4 = .ok (.iload_n 3, 1) := by decide +kernel
theorem dX1_setSum_5 : decode cX1_setSum 5 = .ok (.if_icmp .ne 7, 3) := by decide +kernel
theorem dX1_setSum_8 : decode cX1_setSum 8 = .ok (.iconst 1, 1) := by decide +kernel
theorem dX1_setSum_9 : decode cX1_setSum 9 = .ok (.goto 4, 3) := by decide +kernel
theorem dX1_setSum_12 : decode cX1_setSum 12 = .ok (.iconst 0, 1) := by decide +kernel
theorem dX1_setSum_13 : decode cX1_setSum 13 = .ok (.istore 5, 2) := by decide +kernel
theorem dX1_setSum_15 : decode cX1_setSum 15 = .ok (.aload_n 1, 1) := by decide +kernel
theorem dX1_setSum_16 : decode cX1_setSum 16 = .ok (.invokevirtual 42, 3) := by decide +kernel
theorem dX1_setSum_19 : decode cX1_setSum 19 = .ok (.ifCond .eq 16, 3) := by decide +kernel
theorem dX1_setSum_22 : decode cX1_setSum 22 = .ok (.aload_n 0, 1) := by decide +kernel
theorem dX1_setSum_23 : decode cX1_setSum 23 = .ok (.aload_n 2, 1) := by decide +kernel
theorem dX1_setSum_24 : decode cX1_setSum 24 = .ok (.invokevirtual 46, 3) := by decide +kernel
theorem dX1_setSum_27 : decode cX1_setSum 27 = .ok (.aload_n 0, 1) := by decide +kernel
theorem dX1_setSum_28 : decode cX1_setSum 28 = .ok (.iload_n 3, 1) := by decide +kernel
theorem dX1_setSum_29 : decode cX1_setSum 29 = .ok (.putfield 31, 3) := by decide +kernel
theorem dX1_setSum_32 : decode cX1_setSum 32 = .ok (.goto 85, 3) := by decide +kernel
theorem dX1_setSum_35 : decode cX1_setSum 35 = .ok (.aload_n 2, 1) := by decide +kernel
theorem dX1_setSum_36 : decode cX1_setSum 36 = .ok (.invokevirtual 42, 3) := by decide +kernel
theorem dX1_setSum_39 : decode cX1_setSum 39 = .ok (.ifCond .eq 11, 3) := by decide +kernel
theorem dX1_setSum_42 : decode cX1_setSum 42 = .ok (.aload_n 0, 1) := by decide +kernel
theorem dX1_setSum_43 : decode cX1_setSum 43 = .ok (.aload_n 1, 1) := by decide +kernel
theorem dX1_setSum_44 : decode cX1_setSum 44 = .ok (.invokevirtual 46, 3) := by decide +kernel
theorem dX1_setSum_47 : decode cX1_setSum 47 = .ok (.goto 70, 3) := by decide +kernel
theorem dX1_setSum_50 : decode cX1_setSum 50 = .ok (.aload_n 1, 1) := by decide +kernel
theorem dX1_setSum_51 : decode cX1_setSum 51 = .ok (.getfield 35, 3) := by decide +kernel
theorem dX1_setSum_54 : decode cX1_setSum 54 = .ok (.aload_n 2, 1) := by decide +kernel
theorem dX1_setSum_55 : decode cX1_setSum 55 = .ok (.getfield 35, 3) := by decide +kernel
theorem dX1_setSum_58 : decode cX1_setSum 58 = .ok (.if_icmp .lt 34, 3) := by decide +kernel
theorem dX1_setSum_61 : decode cX1_setSum 61 = .ok (.aload_n 0, 1) := by decide +kernel
theorem dX1_setSum_62 : decode cX1_setSum 62 = .ok (.aload_n 1, 1) := by decide +kernel
theorem dX1_setSum_63 : decode cX1_setSum 63 = .ok (.aload_n 2, 1) := by decide +kernel
theorem dX1_setSum_64 : decode cX1_setSum 64 = .ok (.iload 5, 2) := by decide +kernel
theorem dX1_setSum_66 : decode cX1_setSum 66 = .ok (.invokevirtual 50, 3) := by decide +kernel
theorem dX1_setSum_69 : decode cX1_setSum 69 = .ok (.aload_n 0, 1) := by decide +kernel
theorem dX1_setSum_70 : decode cX1_setSum 70 = .ok (.aload_n 1, 1) := by decide +kernel
theorem dX1_setSum_71 : decode cX1_setSum 71 = .ok (.getfield 26, 3) := by decide +kernel
theorem dX1_setSum_74 : decode cX1_setSum 74 = .ok (.aload_n 0, 1) := by decide +kernel
theorem dX1_setSum_75 : decode cX1_setSum 75 = .ok (.getfield 31, 3) := by decide +kernel
theorem dX1_setSum_78 : decode cX1_setSum 78 = .ok (.if_icmp .eq 7, 3) := by decide +kernel
theorem dX1_setSum_81 : decode cX1_setSum 81 = .ok (.iconst 1, 1) := by decide +kernel
theorem dX1_setSum_82 : decode cX1_setSum 82 = .ok (.goto 4, 3) := by decide +kernel
theorem dX1_setSum_85 : decode cX1_setSum 85 = .ok (.iconst 0, 1) := by decide +kernel
theorem dX1_setSum_86 : decode cX1_setSum 86 = .ok (.putfield 31, 3) := by decide +kernel
theorem dX1_setSum_89 : decode cX1_setSum 89 = .ok (.goto 28, 3) := by decide +kernel
theorem dX1_setSum_92 : decode cX1_setSum 92 = .ok (.aload_n 0, 1) := by decide +kernel
theorem dX1_setSum_93 : decode cX1_setSum 93 = .ok (.aload_n 2, 1) := by decide +kernel
theorem dX1_setSum_94 : decode cX1_setSum 94 = .ok (.aload_n 1, 1) := by decide +kernel
theorem dX1_setSum_95 : decode cX1_setSum 95 = .ok (.iload 5, 2) := by decide +kernel
theorem dX1_setSum_97 : decode cX1_setSum 97 = .ok (.invokevirtual 50, 3) := by decide +kernel
theorem dX1_setSum_100 : decode cX1_setSum 100 = .ok (.aload_n 0, 1) := by decide +kernel
theorem dX1_setSum_101 : decode cX1_setSum 101 = .ok (.iload_n 3, 1) := by decide +kernel
theorem dX1_setSum_102 : decode cX1_setSum 102 = .ok (.aload_n 0, 1) := by decide +kernel
theorem dX1_setSum_103 : decode cX1_setSum 103 = .ok (.getfield 31, 3) := by decide +kernel
theorem dX1_setSum_106 : decode cX1_setSum 106 = .ok (.if_icmp .eq 7, 3) := by decide +kernel
theorem dX1_setSum_109 : decode cX1_setSum 109 = .ok (.iconst 1, 1) := by decide +kernel
theorem dX1_setSum_110 : decode cX1_setSum 110 = .ok (.goto 4, 3) := by decide +kernel
theorem dX1_setSum_113 : decode cX1_setSum 113 = .ok (.iconst 0, 1) := by decide +kernel
theorem dX1_setSum_114 : decode cX1_setSum 114 = .ok (.putfield 31, 3) := by decide +kernel
theorem dX1_setSum_117 : decode cX1_setSum 117 = .ok (.aload_n 0, 1) := by decide +kernel
theorem dX1_setSum_118 : decode cX1_setSum 118 = .ok (.invokevirtual 54, 3) := by decide +kernel
theorem dX1_setSum_121 : decode cX1_setSum 121 = .ok (.ifCond .eq 18, 3) := by decide +kernel
theorem dX1_setSum_124 : decode cX1_setSum 124 = .ok (.aload_n 0, 1) := by decide +kernel
theorem dX1_setSum_125 : decode cX1_setSum 125 = .ok (.iload 5, 2) := by decide +kernel
theorem dX1_setSum_127 : decode cX1_setSum 127 = .ok (.ifCond .eq 7, 3) := by decide +kernel
theorem dX1_setSum_130 : decode cX1_setSum 130 = .ok (.iload_n 3, 1) := by decide +kernel
theorem dX1_setSum_131 : decode cX1_setSum 131 = .ok (.goto 5, 3) := by decide +kernel
theorem dX1_setSum_134 : decode cX1_setSum 134 = .ok (.iload 4, 2) := by decide +kernel
theorem dX1_setSum_136 : decode cX1_setSum 136 = .ok (.putfield 31, 3) := by decide +kernel
theorem dX1_setSum_139 : decode cX1_setSum 139 = .ok (.aload_n 0, 1) := by decide +kernel
theorem dX1_setSum_140 : decode cX1_setSum 140 = .ok (.aload_n 1, 1) := by decide +kernel
theorem dX1_setSum_141 : decode cX1_setSum 141 = .ok (.getfield 35, 3) := by decide +kernel
theorem dX1_setSum_144 : decode cX1_setSum 144 = .ok (.aload_n 2, 1) := by decide +kernel
theorem dX1_setSum_145 : decode cX1_setSum 145 = .ok (.getfield 35, 3) := by decide +kernel
theorem dX1_setSum_148 : decode cX1_setSum 148 = .ok (.invokestatic 55, 3) := by decide +kernel
theorem dX1_setSum_151 : decode cX1_setSum 151 = .ok (.putfield 61, 3) := by decide +kernel
theorem dX1_setSum_154 : decode cX1_setSum 154 = .ok (.return_, 1) := by decide +kernel
theorem dX1_join_0 : decode cX1_join 0 = .ok (.aload_n 1, 1) := by decide +kernel
theorem dX1_join_1 : decode cX1_join 1 = .ok (.getfield 35, 3) := by decide +kernel
theorem dX1_join_4 : decode cX1_join 4 = .ok (.aload_n 2, 1) := by decide +kernel
theorem dX1_join_5 : decode cX1_join 5 = .ok (.getfield 35, 3) := by decide +kernel
theorem dX1_join_8 : decode cX1_join 8 = .ok (.isub, 1) := by decide +kernel
theorem dX1_join_9 : decode cX1_join 9 = .ok (.istore 4, 2) := by decide +kernel
theorem dX1_join_11 : decode cX1_join 11 = .ok (.iload 4, 2) := by decide +kernel
theorem dX1_join_13 : decode cX1_join 13 = .ok (.bipush 16, 2) := by decide +kernel
theorem dX1_join_15 : decode cX1_join 15 = .ok (.aload_n 1, 1) := by decide +kernel
theorem dX1_join_16 : decode cX1_join 16 = .ok (.getfield 32, 3) := by decide +kernel
theorem dX1_join_19 : decode cX1_join 19 = .ok (.invokestatic 22, 3) := by decide +kernel
theorem dX1_join_22 : decode cX1_join 22 = .ok (.isub, 1) := by decide +kernel
theorem dX1_join_23 : decode cX1_join 23 = .ok (.invokestatic 55, 3) := by decide +kernel
theorem dX1_join_26 : decode cX1_join 26 = .ok (.istore 5, 2) := by decide +kernel
theorem dX1_join_28 : decode cX1_join 28 = .ok (.iload 4, 2) := by decide +kernel
theorem dX1_join_30 : decode cX1_join 30 = .ok (.iload 5, 2) := by decide +kernel
theorem dX1_join_32 : decode cX1_join 32 = .ok (.isub, 1) := by decide +kernel
theorem dX1_join_33 : decode cX1_join 33 = .ok (.bipush 16, 2) := by decide +kernel
theorem dX1_join_35 : decode cX1_join 35 = .ok (.invokestatic 55, 3) := by decide +kernel
theorem dX1_join_38 : decode cX1_join 38 = .ok (.istore 6, 2) := by decide +kernel
theorem dX1_join_40 : decode cX1_join 40 = .ok (.aload_n 1, 1) := by decide +kernel
theorem dX1_join_41 : decode cX1_join 41 = .ok (.getfield 32, 3) := by decide +kernel
theorem dX1_join_44 : decode cX1_join 44 = .ok (.iload 5, 2) := by decide +kernel
theorem dX1_join_46 : decode cX1_join 46 = .ok (.invokestatic 64, 3) := by decide +kernel
theorem dX1_join_49 : decode cX1_join 49 = .ok (.lmul, 1) := by decide +kernel
theorem dX1_join_50 : decode cX1_join 50 = .ok (.lstore 7, 2) := by decide +kernel
theorem dX1_join_52 : decode cX1_join 52 = .ok (.aload_n 0, 1) := by decide +kernel
theorem dX1_join_53 : decode cX1_join 53 = .ok (.lload 7, 2) := by decide +kernel
theorem dX1_join_55 : decode cX1_join 55 = .ok (.bipush 16, 2) := by decide +kernel
theorem dX1_join_57 : decode cX1_join 57 = .ok (.iload 6, 2) := by decide +kernel
theorem dX1_join_59 : decode cX1_join 59 = .ok (.isub, 1) := by decide +kernel
theorem dX1_join_60 : decode cX1_join 60 = .ok (.invokestatic 64, 3) := by decide +kernel
theorem dX1_join_63 : decode cX1_join 63 = .ok (.ldiv, 1) := by decide +kernel
theorem dX1_join_64 : decode cX1_join 64 = .ok (.putfield 9, 3) := by decide +kernel
theorem dX1_join_67 : decode cX1_join 67 = .ok (.aload_n 0, 1) := by decide +kernel
theorem dX1_join_68 : decode cX1_join 68 = .ok (.lload 7, 2) := by decide +kernel
theorem dX1_join_70 : decode cX1_join 70 = .ok (.bipush 16, 2) := by decide +kernel
theorem dX1_join_72 : decode cX1_join 72 = .ok (.iload 6, 2) := by decide +kernel
theorem dX1_join_74 : decode cX1_join 74 = .ok (.isub, 1) := by decide +kernel
theorem dX1_join_75 : decode cX1_join 75 = .ok (.invokestatic 64, 3) := by decide +kernel
theorem dX1_join_78 : decode cX1_join 78 = .ok (.lrem, 1) := by decide +kernel
theorem dX1_join_79 : decode cX1_join 79 = .ok (.iload 6, 2) := by decide +kernel
theorem dX1_join_81 : decode cX1_join 81 = .ok (.invokestatic 64, 3) := by decide +kernel
theorem dX1_join_84 : decode cX1_join 84 = .ok (.lmul, 1) := by decide +kernel
theorem dX1_join_85 : decode cX1_join 85 = .ok (.putfield 15, 3) := by decide +kernel
theorem dX1_join_88 : decode cX1_join 88 = .ok (.aload_n 0, 1) := by decide +kernel
theorem dX1_join_89 : decode cX1_join 89 = .ok (.aload_n 1, 1) := by decide +kernel
theorem dX1_join_90 : decode cX1_join 90 = .ok (.getfield 35, 3) := by decide +kernel
theorem dX1_join_93 : decode cX1_join 93 = .ok (.iload 5, 2) := by decide +kernel
theorem dX1_join_95 : decode cX1_join 95 = .ok (.isub, 1) := by decide +kernel
theorem dX1_join_96 : decode cX1_join 96 = .ok (.iload 6, 2) := by decide +kernel
theorem dX1_join_98 : decode cX1_join 98 = .ok (.isub, 1) := by decide +kernel
theorem dX1_join_99 : decode cX1_join 99 = .ok (.putfield 39, 3) := by decide +kernel
theorem dX1_join_102 : decode cX1_join 102 = .ok (.iload 4, 2) := by decide +kernel
theorem dX1_join_104 : decode cX1_join 104 = .ok (.iload 5, 2) := by decide +kernel
theorem dX1_join_106 : decode cX1_join 106 = .ok (.isub, 1) := by decide +kernel
theorem dX1_join_107 : decode cX1_join 107 = .ok (.iload 6, 2) := by decide +kernel
theorem dX1_join_109 : decode cX1_join 109 = .ok (.isub, 1) := by decide +kernel
theorem dX1_join_110 : decode cX1_join 110 = .ok (.istore 9, 2) := by decide +kernel
theorem dX1_join_112 : decode cX1_join 112 = .ok (.iload 9, 2) := by decide +kernel
theorem dX1_join_114 : decode cX1_join 114 = .ok (.bipush 16, 2) := by decide +kernel
theorem dX1_join_116 : decode cX1_join 116 = .ok (.if_icmp .le 7, 3) := by decide +kernel
theorem dX1_join_119 : decode cX1_join 119 = .ok (.lconst 0, 1) := by decide +kernel
theorem dX1_join_120 : decode cX1_join 120 = .ok (.goto 13, 3) := by decide +kernel
theorem dX1_join_123 : decode cX1_join 123 = .ok (.aload_n 2, 1) := by decide +kernel
theorem dX1_join_124 : decode cX1_join 124 = .ok (.getfield 32, 3) := by decide +kernel
theorem dX1_join_127 : decode cX1_join 127 = .ok (.iload 9, 2) := by decide +kernel
theorem dX1_join_129 : decode cX1_join 129 = .ok (.invokestatic 64, 3) := by decide +kernel
theorem dX1_join_132 : decode cX1_join 132 = .ok (.ldiv, 1) := by decide +kernel
theorem dX1_join_133 : decode cX1_join 133 = .ok (.lstore 10, 2) := by decide +kernel
theorem dX1_join_135 : decode cX1_join 135 = .ok (.aload_n 0, 1) := by decide +kernel
theorem dX1_join_136 : decode cX1_join 136 = .ok (.iload 9, 2) := by decide +kernel
theorem dX1_join_138 : decode cX1_join 138 = .ok (.bipush 16, 2) := by decide +kernel
theorem dX1_join_140 : decode cX1_join 140 = .ok (.if_icmp .gt 18, 3) := by decide +kernel
theorem dX1_join_143 : decode cX1_join 143 = .ok (.aload_n 2, 1) := by decide +kernel
theorem dX1_join_144 : decode cX1_join 144 = .ok (.getfield 32, 3) := by decide +kernel
theorem dX1_join_147 : decode cX1_join 147 = .ok (.iload 9, 2) := by decide +kernel
theorem dX1_join_149 : decode cX1_join 149 = .ok (.invokestatic 64, 3) := by decide +kernel
theorem dX1_join_152 : decode cX1_join 152 = .ok (.lrem, 1) := by decide +kernel
theorem dX1_join_153 : decode cX1_join 153 = .ok (.lconst 0, 1) := by decide +kernel
theorem dX1_join_154 : decode cX1_join 154 = .ok (.lcmp, 1) := by decide +kernel
theorem dX1_join_155 : decode cX1_join 155 = .ok (.ifCond .eq 7, 3) := by decide +kernel
theorem dX1_join_158 : decode cX1_join 158 = .ok (.iconst 1, 1) := by decide +kernel
theorem dX1_join_159 : decode cX1_join 159 = .ok (.goto 4, 3) := by decide +kernel
theorem dX1_join_162 : decode cX1_join 162 = .ok (.iconst 0, 1) := by decide +kernel
theorem dX1_join_163 : decode cX1_join 163 = .ok (.putfield 18, 3) := by decide +kernel
theorem dX1_join_166 : decode cX1_join 166 = .ok (.aload_n 0, 1) := by decide +kernel
theorem dX1_join_167 : decode cX1_join 167 = .ok (.iconst 0, 1) := by decide +kernel
theorem dX1_join_168 : decode cX1_join 168 = .ok (.putfield 31, 3) := by decide +kernel
theorem dX1_join_171 : decode cX1_join 171 = .ok (.iload_n 3, 1) := by decide +kernel
theorem dX1_join_172 : decode cX1_join 172 = .ok (.ifCond .eq 12, 3) := by decide +kernel
theorem dX1_join_175 : decode cX1_join 175 = .ok (.aload_n 0, 1) := by decide +kernel
theorem dX1_join_176 : decode cX1_join 176 = .ok (.lload 10, 2) := by decide +kernel
theorem dX1_join_178 : decode cX1_join 178 = .ok (.invokevirtual 68, 3) := by decide +kernel
theorem dX1_join_181 : decode cX1_join 181 = .ok (.goto 63, 3) := by decide +kernel
theorem dX1_join_184 : decode cX1_join 184 = .ok (.aload_n 0, 1) := by decide +kernel
theorem dX1_join_185 : decode cX1_join 185 = .ok (.getfield 9, 3) := by decide +kernel
theorem dX1_join_188 : decode cX1_join 188 = .ok (.lconst 0, 1) := by decide +kernel
theorem dX1_join_189 : decode cX1_join 189 = .ok (.lcmp, 1) := by decide +kernel
theorem dX1_join_190 : decode cX1_join 190 = .ok (.ifCond .ne 32, 3) := by decide +kernel
theorem dX1_join_193 : decode cX1_join 193 = .ok (.aload_n 0, 1) := by decide +kernel
theorem dX1_join_194 : decode cX1_join 194 = .ok (.getfield 15, 3) := by decide +kernel
theorem dX1_join_197 : decode cX1_join 197 = .ok (.lload 10, 2) := by decide +kernel
theorem dX1_join_199 : decode cX1_join 199 = .ok (.lcmp, 1) := by decide +kernel
theorem dX1_join_200 : decode cX1_join 200 = .ok (.ifCond .ge 22, 3) := by decide +kernel
theorem dX1_join_203 : decode cX1_join 203 = .ok (.aload_n 0, 1) := by decide +kernel
theorem dX1_join_204 : decode cX1_join 204 = .ok (.lload 10, 2) := by decide +kernel
theorem dX1_join_206 : decode cX1_join 206 = .ok (.aload_n 0, 1) := by decide +kernel
theorem dX1_join_207 : decode cX1_join 207 = .ok (.getfield 15, 3) := by decide +kernel
theorem dX1_join_210 : decode cX1_join 210 = .ok (.lsub, 1) := by decide +kernel
theorem dX1_join_211 : decode cX1_join 211 = .ok (.putfield 15, 3) := by decide +kernel
theorem dX1_join_214 : decode cX1_join 214 = .ok (.aload_n 0, 1) := by decide +kernel
theorem dX1_join_215 : decode cX1_join 215 = .ok (.iconst 1, 1) := by decide +kernel
theorem dX1_join_216 : decode cX1_join 216 = .ok (.putfield 31, 3) := by decide +kernel
theorem dX1_join_219 : decode cX1_join 219 = .ok (.goto 25, 3) := by decide +kernel
theorem dX1_join_222 : decode cX1_join 222 = .ok (.aload_n 0, 1) := by decide +kernel
theorem dX1_join_223 : decode cX1_join 223 = .ok (.aload_n 0, 1) := by decide +kernel
theorem dX1_join_224 : decode cX1_join 224 = .ok (.getfield 18, 3) := by decide +kernel
theorem dX1_join_227 : decode cX1_join 227 = .ok (.ifCond .eq 11, 3) := by decide +kernel
theorem dX1_join_230 : decode cX1_join 230 = .ok (.lload 10, 2) := by decide +kernel
theorem dX1_join_232 : decode cX1_join 232 = .ok (.lneg, 1) := by decide +kernel
theorem dX1_join_233 : decode cX1_join 233 = .ok (.lconst 1, 1) := by decide +kernel
theorem dX1_join_234 : decode cX1_join 234 = .ok (.lsub, 1) := by decide +kernel
theorem dX1_join_235 : decode cX1_join 235 = .ok (.goto 6, 3) := by decide +kernel
theorem dX1_join_238 : decode cX1_join 238 = .ok (.lload 10, 2) := by decide +kernel
theorem dX1_join_240 : decode cX1_join 240 = .ok (.lneg, 1) := by decide +kernel
theorem dX1_join_241 : decode cX1_join 241 = .ok (.invokevirtual 68, 3) := by decide +kernel
theorem dX1_join_244 : decode cX1_join 244 = .ok (.return_, 1) := by decide +kernel
theorem dX1_addToLow_0 : decode cX1_addToLow 0 = .ok (.aload_n 0, 1) := by decide +kernel
theorem dX1_addToLow_1 : decode cX1_addToLow 1 = .ok (.dup, 1) := by decide +kernel
theorem dX1_addToLow_2 : decode cX1_addToLow 2 = .ok (.getfield 15, 3) := by decide +kernel
theorem dX1_addToLow_5 : decode cX1_addToLow 5 = .ok (.lload_n 1, 1) := by decide +kernel
theorem dX1_addToLow_6 : decode cX1_addToLow 6 = .ok (.ladd, 1) := by decide +kernel
theorem dX1_addToLow_7 : decode cX1_addToLow 7 = .ok (.putfield 15, 3) := by decide +kernel
theorem dX1_addToLow_10 : decode cX1_addToLow 10 = .ok (.aload_n 0, 1) := by decide +kernel
theorem dX1_addToLow_11 : decode cX1_addToLow 11 = .ok (.getfield 15, 3) := by decide +kernel
theorem dX1_addToLow_14 : decode cX1_addToLow 14 = .ok (.ldc2_w 72, 3) := by decide +kernel
theorem dX1_addToLow_17 : decode cX1_addToLow 17 = .ok (.lcmp, 1) := by decide +kernel
theorem dX1_addToLow_18 : decode cX1_addToLow 18 = .ok (.ifCond .lt 28, 3) := by decide +kernel
theorem dX1_addToLow_21 : decode cX1_addToLow 21 = .ok (.aload_n 0, 1) := by decide +kernel
theorem dX1_addToLow_22 : decode cX1_addToLow 22 = .ok (.dup, 1) := by decide +kernel
theorem dX1_addToLow_23 : decode cX1_addToLow 23 = .ok (.getfield 15, 3) := by decide +kernel
theorem dX1_addToLow_26 : decode cX1_addToLow 26 = .ok (.ldc2_w 72, 3) := by decide +kernel
theorem dX1_addToLow_29 : decode cX1_addToLow 29 = .ok (.lsub, 1) := by decide +kernel
theorem dX1_addToLow_30 : decode cX1_addToLow 30 = .ok (.putfield 15, 3) := by decide +kernel
theorem dX1_addToLow_33 : decode cX1_addToLow 33 = .ok (.aload_n 0, 1) := by decide +kernel
theorem dX1_addToLow_34 : decode cX1_addToLow 34 = .ok (.dup, 1) := by decide +kernel
theorem dX1_addToLow_35 : decode cX1_addToLow 35 = .ok (.getfield 9, 3) := by decide +kernel
theorem dX1_addToLow_38 : decode cX1_addToLow 38 = .ok (.lconst 1, 1) := by decide +kernel
theorem dX1_addToLow_39 : decode cX1_addToLow 39 = .ok (.ladd, 1) := by decide +kernel
theorem dX1_addToLow_40 : decode cX1_addToLow 40 = .ok (.putfield 9, 3) := by decide +kernel
theorem dX1_addToLow_43 : decode cX1_addToLow 43 = .ok (.goto 34, 3) := by decide +kernel
theorem dX1_addToLow_46 : decode cX1_addToLow 46 = .ok (.aload_n 0, 1) := by decide +kernel
theorem dX1_addToLow_47 : decode cX1_addToLow 47 = .ok (.getfield 15, 3) := by decide +kernel
theorem dX1_addToLow_50 : decode cX1_addToLow 50 = .ok (.lconst 0, 1) := by decide +kernel
theorem dX1_addToLow_51 : decode cX1_addToLow 51 = .ok (.lcmp, 1) := by decide +kernel
theorem dX1_addToLow_52 : decode cX1_addToLow 52 = .ok (.ifCond .ge 25, 3) := by decide +kernel
theorem dX1_addToLow_55 : decode cX1_addToLow 55 = .ok (.aload_n 0, 1) := by decide +kernel
theorem dX1_addToLow_56 : decode cX1_addToLow 56 = .ok (.dup, 1) := by decide +kernel
theorem dX1_addToLow_57 : decode cX1_addToLow 57 = .ok (.getfield 15, 3) := by decide +kernel
theorem dX1_addToLow_60 : decode cX1_addToLow 60 = .ok (.ldc2_w 72, 3) := by decide +kernel
theorem dX1_addToLow_63 : decode cX1_addToLow 63 = .ok (.ladd, 1) := by decide +kernel
theorem dX1_addToLow_64 : decode cX1_addToLow 64 = .ok (.putfield 15, 3) := by decide +kernel
theorem dX1_addToLow_67 : decode cX1_addToLow 67 = .ok (.aload_n 0, 1) := by decide +kernel
theorem dX1_addToLow_68 : decode cX1_addToLow 68 = .ok (.dup, 1) := by decide +kernel
theorem dX1_addToLow_69 : decode cX1_addToLow 69 = .ok (.getfield 9, 3) := by decide +kernel
theorem dX1_addToLow_72 : decode cX1_addToLow 72 = .ok (.lconst 1, 1) := by decide +kernel
theorem dX1_addToLow_73 : decode cX1_addToLow 73 = .ok (.lsub, 1) := by decide +kernel
theorem dX1_addToLow_74 : decode cX1_addToLow 74 = .ok (.putfield 9, 3) := by decide +kernel
theorem dX1_addToLow_77 : decode cX1_addToLow 77 = .ok (.return_, 1) := by decide +kernel
theorem dX1_setProduct_0 : decode cX1_setProduct 0 = .ok (.aload_n 1, 1) := by decide +kernel
theorem dX1_setProduct_1 : decode cX1_setProduct 1 = .ok (.getfield 32, 3) := by decide +kernel
theorem dX1_setProduct_4 : decode cX1_setProduct 4 = .ok (.ldc2_w 74, 3) := by decide +kernel
theorem dX1_setProduct_7 : decode cX1_setProduct 7 = .ok (.ldiv, 1) := by decide +kernel
theorem dX1_setProduct_8 : decode cX1_setProduct 8 = .ok (.lstore_n 3, 1) := by decide +kernel
theorem dX1_setProduct_9 : decode cX1_setProduct 9 = .ok (.aload_n 1, 1) := by decide +kernel
theorem dX1_setProduct_10 : decode cX1_setProduct 10 = .ok (.getfield 32, 3) := by decide +kernel
theorem dX1_setProduct_13 : decode cX1_setProduct 13 = .ok (.ldc2_w 74, 3) := by decide +kernel
theorem dX1_setProduct_16 : decode cX1_setProduct 16 = .ok (.lrem, 1) := by decide +kernel
theorem dX1_setProduct_17 : decode cX1_setProduct 17 = .ok (.lstore 5, 2) := by decide +kernel
theorem dX1_setProduct_19 : decode cX1_setProduct 19 = .ok (.aload_n 2, 1) := by decide +kernel
theorem dX1_setProduct_20 : decode cX1_setProduct 20 = .ok (.getfield 32, 3) := by decide +kernel
theorem dX1_setProduct_23 : decode cX1_setProduct 23 = .ok (.ldc2_w 74, 3) := by decide +kernel
theorem dX1_setProduct_26 : decode cX1_setProduct 26 = .ok (.ldiv, 1) := by decide +kernel
theorem dX1_setProduct_27 : decode cX1_setProduct 27 = .ok (.lstore 7, 2) := by decide +kernel
theorem dX1_setProduct_29 : decode cX1_setProduct 29 = .ok (.aload_n 2, 1) := by decide +kernel
theorem dX1_setProduct_30 : decode cX1_setProduct 30 = .ok (.getfield 32, 3) := by decide +kernel
theorem dX1_setProduct_33 : decode cX1_setProduct 33 = .ok (.ldc2_w 74, 3) := by decide +kernel
theorem dX1_setProduct_36 : decode cX1_setProduct 36 = .ok (.lrem, 1) := by decide +kernel
theorem dX1_setProduct_37 : decode cX1_setProduct 37 = .ok (.lstore 9, 2) := by decide +kernel
theorem dX1_setProduct_39 : decode cX1_setProduct 39 = .ok (.lload_n 3, 1) := by decide +kernel
theorem dX1_setProduct_40 : decode cX1_setProduct 40 = .ok (.lload 9, 2) := by decide +kernel
theorem dX1_setProduct_42 : decode cX1_setProduct 42 = .ok (.lmul, 1) := by decide +kernel
theorem dX1_setProduct_43 : decode cX1_setProduct 43 = .ok (.lload 5, 2) := by decide +kernel
theorem dX1_setProduct_45 : decode cX1_setProduct 45 = .ok (.lload 7, 2) := by decide +kernel
theorem dX1_setProduct_47 : decode cX1_setProduct 47 = .ok (.lmul, 1) := by decide +kernel
theorem dX1_setProduct_48 : decode cX1_setProduct 48 = .ok (.ladd, 1) := by decide +kernel
theorem dX1_setProduct_49 : decode cX1_setProduct 49 = .ok (.lstore 11, 2) := by decide +kernel
theorem dX1_setProduct_51 : decode cX1_setProduct 51 = .ok (.aload_n 0, 1) := by decide +kernel
theorem dX1_setProduct_52 : decode cX1_setProduct 52 = .ok (.aload_n 1, 1) := by decide +kernel
theorem dX1_setProduct_53 : decode cX1_setProduct 53 = .ok (.getfield 26, 3) := by decide +kernel
theorem dX1_setProduct_56 : decode cX1_setProduct 56 = .ok (.aload_n 2, 1) := by decide +kernel
theorem dX1_setProduct_57 : decode cX1_setProduct 57 = .ok (.getfield 26, 3) := by decide +kernel
theorem dX1_setProduct_60 : decode cX1_setProduct 60 = .ok (.if_icmp .eq 7, 3) := by decide +kernel
theorem dX1_setProduct_63 : decode cX1_setProduct 63 = .ok (.iconst 1, 1) := by decide +kernel
theorem dX1_setProduct_64 : decode cX1_setProduct 64 = .ok (.goto 4, 3) := by decide +kernel
theorem dX1_setProduct_67 : decode cX1_setProduct 67 = .ok (.iconst 0, 1) := by decide +kernel
theorem dX1_setProduct_68 : decode cX1_setProduct 68 = .ok (.putfield 31, 3) := by decide +kernel
theorem dX1_setProduct_71 : decode cX1_setProduct 71 = .ok (.aload_n 0, 1) := by decide +kernel
theorem dX1_setProduct_72 : decode cX1_setProduct 72 = .ok (.lload_n 3, 1) := by decide +kernel
theorem dX1_setProduct_73 : decode cX1_setProduct 73 = .ok (.lload 7, 2) := by decide +kernel
theorem dX1_setProduct_75 : decode cX1_setProduct 75 = .ok (.lmul, 1) := by decide +kernel
theorem dX1_setProduct_76 : decode cX1_setProduct 76 = .ok (.lload 11, 2) := by decide +kernel
theorem dX1_setProduct_78 : decode cX1_setProduct 78 = .ok (.ldc2_w 74, 3) := by decide +kernel
theorem dX1_setProduct_81 : decode cX1_setProduct 81 = .ok (.ldiv, 1) := by decide +kernel
theorem dX1_setProduct_82 : decode cX1_setProduct 82 = .ok (.ladd, 1) := by decide +kernel
theorem dX1_setProduct_83 : decode cX1_setProduct 83 = .ok (.putfield 9, 3) := by decide +kernel
theorem dX1_setProduct_86 : decode cX1_setProduct 86 = .ok (.aload_n 0, 1) := by decide +kernel
theorem dX1_setProduct_87 : decode cX1_setProduct 87 = .ok (.lload 11, 2) := by decide +kernel
theorem dX1_setProduct_89 : decode cX1_setProduct 89 = .ok (.ldc2_w 74, 3) := by decide +kernel
theorem dX1_setProduct_92 : decode cX1_setProduct 92 = .ok (.lrem, 1) := by decide +kernel
theorem dX1_setProduct_93 : decode cX1_setProduct 93 = .ok (.ldc2_w 74, 3) := by decide +kernel
theorem dX1_setProduct_96 : decode cX1_setProduct 96 = .ok (.lmul, 1) := by decide +kernel
theorem dX1_setProduct_97 : decode cX1_setProduct 97 = .ok (.putfield 15, 3) := by decide +kernel
theorem dX1_setProduct_100 : decode cX1_setProduct 100 = .ok (.aload_n 0, 1) := by decide +kernel
theorem dX1_setProduct_101 : decode cX1_setProduct 101 = .ok (.lload 5, 2) := by decide +kernel
theorem dX1_setProduct_103 : decode cX1_setProduct 103 = .ok (.lload 9, 2) := by decide +kernel
theorem dX1_setProduct_105 : decode cX1_setProduct 105 = .ok (.lmul, 1) := by decide +kernel
theorem dX1_setProduct_106 : decode cX1_setProduct 106 = .ok (.invokevirtual 68, 3) := by decide +kernel
theorem dX1_setProduct_109 : decode cX1_setProduct 109 = .ok (.aload_n 0, 1) := by decide +kernel
theorem dX1_setProduct_110 : decode cX1_setProduct 110 = .ok (.aload_n 1, 1) := by decide +kernel
theorem dX1_setProduct_111 : decode cX1_setProduct 111 = .ok (.getfield 35, 3) := by decide +kernel
theorem dX1_setProduct_114 : decode cX1_setProduct 114 = .ok (.aload_n 2, 1) := by decide +kernel
theorem dX1_setProduct_115 : decode cX1_setProduct 115 = .ok (.getfield 35, 3) := by decide +kernel
theorem dX1_setProduct_118 : decode cX1_setProduct 118 = .ok (.iadd, 1) := by decide +kernel
theorem dX1_setProduct_119 : decode cX1_setProduct 119 = .ok (.putfield 39, 3) := by decide +kernel
theorem dX1_setProduct_122 : decode cX1_setProduct 122 = .ok (.aload_n 0, 1) := by decide +kernel
theorem dX1_setProduct_123 : decode cX1_setProduct 123 = .ok (.iconst 0, 1) := by decide +kernel
theorem dX1_setProduct_124 : decode cX1_setProduct 124 = .ok (.putfield 18, 3) := by decide +kernel
theorem dX1_setProduct_127 : decode cX1_setProduct 127 = .ok (.aload_n 0, 1) := by decide +kernel
theorem dX1_setProduct_128 : decode cX1_setProduct 128 = .ok (.aload_n 0, 1) := by decide +kernel
theorem dX1_setProduct_129 : decode cX1_setProduct 129 = .ok (.getfield 39, 3) := by decide +kernel
theorem dX1_setProduct_132 : decode cX1_setProduct 132 = .ok (.putfield 61, 3) := by decide +kernel
theorem dX1_setProduct_135 : decode cX1_setProduct 135 = .ok (.return_, 1) := by decide +kernel
theorem dX1_setQuotient_0 : decode cX1_setQuotient 0 = .ok (.lconst 1, 1) := by decide +kernel
theorem dX1_setQuotient_1 : decode cX1_setQuotient 1 = .ok (.aload_n 2, 1) := by decide +kernel
theorem dX1_setQuotient_2 : decode cX1_setQuotient 2 = .ok (.getfield 32, 3) := by decide +kernel
theorem dX1_setQuotient_5 : decode cX1_setQuotient 5 = .ok (.invokestatic 76, 3) := by decide +kernel
theorem dX1_setQuotient_8 : decode cX1_setQuotient 8 = .ok (.lstore_n 3, 1) := by decide +kernel
theorem dX1_setQuotient_9 : decode cX1_setQuotient 9 = .ok (.aload_n 1, 1) := by decide +kernel
theorem dX1_setQuotient_10 : decode cX1_setQuotient 10 = .ok (.getfield 32, 3) := by decide +kernel
theorem dX1_setQuotient_13 : decode cX1_setQuotient 13 = .ok (.lstore 5, 2) := by decide +kernel
theorem dX1_setQuotient_15 : decode cX1_setQuotient 15 = .ok (.aload_n 0, 1) := by decide +kernel
theorem dX1_setQuotient_16 : decode cX1_setQuotient 16 = .ok (.aload_n 1, 1) := by decide +kernel
theorem dX1_setQuotient_17 : decode cX1_setQuotient 17 = .ok (.getfield 26, 3) := by decide +kernel
theorem dX1_setQuotient_20 : decode cX1_setQuotient 20 = .ok (.aload_n 2, 1) := by decide +kernel
theorem dX1_setQuotient_21 : decode cX1_setQuotient 21 = .ok (.getfield 26, 3) := by decide +kernel
theorem dX1_setQuotient_24 : decode cX1_setQuotient 24 = .ok (.if_icmp .eq 7, 3) := by decide +kernel
theorem dX1_setQuotient_27 : decode cX1_setQuotient 27 = .ok (.iconst 1, 1) := by decide +kernel
theorem dX1_setQuotient_28 : decode cX1_setQuotient 28 = .ok (.goto 4, 3) := by decide +kernel
theorem dX1_setQuotient_31 : decode cX1_setQuotient 31 = .ok (.iconst 0, 1) := by decide +kernel
theorem dX1_setQuotient_32 : decode cX1_setQuotient 32 = .ok (.putfield 31, 3) := by decide +kernel
theorem dX1_setQuotient_35 : decode cX1_setQuotient 35 = .ok (.aload_n 0, 1) := by decide +kernel
theorem dX1_setQuotient_36 : decode cX1_setQuotient 36 = .ok (.aload_n 1, 1) := by decide +kernel
theorem dX1_setQuotient_37 : decode cX1_setQuotient 37 = .ok (.getfield 35, 3) := by decide +kernel
theorem dX1_setQuotient_40 : decode cX1_setQuotient 40 = .ok (.aload_n 2, 1) := by decide +kernel
theorem dX1_setQuotient_41 : decode cX1_setQuotient 41 = .ok (.getfield 35, 3) := by decide +kernel
theorem dX1_setQuotient_44 : decode cX1_setQuotient 44 = .ok (.isub, 1) := by decide +kernel
theorem dX1_setQuotient_45 : decode cX1_setQuotient 45 = .ok (.putfield 39, 3) := by decide +kernel
theorem dX1_setQuotient_48 : decode cX1_setQuotient 48 = .ok (.aload_n 0, 1) := by decide +kernel
theorem dX1_setQuotient_49 : decode cX1_setQuotient 49 = .ok (.aload_n 0, 1) := by decide +kernel
theorem dX1_setQuotient_50 : decode cX1_setQuotient 50 = .ok (.getfield 39, 3) := by decide +kernel
theorem dX1_setQuotient_53 : decode cX1_setQuotient 53 = .ok (.putfield 61, 3) := by decide +kernel
theorem dX1_setQuotient_56 : decode cX1_setQuotient 56 = .ok (.iconst 0, 1) := by decide +kernel
theorem dX1_setQuotient_57 : decode cX1_setQuotient 57 = .ok (.istore 7, 2) := by decide +kernel
theorem dX1_setQuotient_59 : decode cX1_setQuotient 59 = .ok (.iload 7, 2) := by decide +kernel
theorem dX1_setQuotient_61 : decode cX1_setQuotient 61 = .ok (.bipush 16, 2) := by decide +kernel
theorem dX1_setQuotient_63 : decode cX1_setQuotient 63 = .ok (.if_icmp .ge 34, 3) := by decide +kernel
theorem dX1_setQuotient_66 : decode cX1_setQuotient 66 = .ok (.lload 5, 2) := by decide +kernel
theorem dX1_setQuotient_68 : decode cX1_setQuotient 68 = .ok (.lload_n 3, 1) := by decide +kernel
theorem dX1_setQuotient_69 : decode cX1_setQuotient 69 = .ok (.lcmp, 1) := by decide +kernel
theorem dX1_setQuotient_70 : decode cX1_setQuotient 70 = .ok (.ifCond .ge 27, 3) := by decide +kernel
theorem dX1_setQuotient_73 : decode cX1_setQuotient 73 = .ok (.lload 5, 2) := by decide +kernel
theorem dX1_setQuotient_75 : decode cX1_setQuotient 75 = .ok (.ldc2_w 80, 3) := by decide +kernel
theorem dX1_setQuotient_78 : decode cX1_setQuotient 78 = .ok (.lmul, 1) := by decide +kernel
theorem dX1_setQuotient_79 : decode cX1_setQuotient 79 = .ok (.lstore 5, 2) := by decide +kernel
theorem dX1_setQuotient_81 : decode cX1_setQuotient 81 = .ok (.aload_n 0, 1) := by decide +kernel
theorem dX1_setQuotient_82 : decode cX1_setQuotient 82 = .ok (.dup, 1) := by decide +kernel
theorem dX1_setQuotient_83 : decode cX1_setQuotient 83 = .ok (.getfield 39, 3) := by decide +kernel
theorem dX1_setQuotient_86 : decode cX1_setQuotient 86 = .ok (.iconst 1, 1) := by decide +kernel
theorem dX1_setQuotient_87 : decode cX1_setQuotient 87 = .ok (.isub, 1) := by decide +kernel
theorem dX1_setQuotient_88 : decode cX1_setQuotient 88 = .ok (.putfield 39, 3) := by decide +kernel
theorem dX1_setQuotient_91 : decode cX1_setQuotient 91 = .ok (.iinc 7 1, 3) := by decide +kernel
theorem dX1_setQuotient_94 : decode cX1_setQuotient 94 = .ok (.goto (-35), 3) := by decide +kernel
theorem dX1_setQuotient_97 : decode cX1_setQuotient 97 = .ok (.aload_n 0, 1) := by decide +kernel
theorem dX1_setQuotient_98 : decode cX1_setQuotient 98 = .ok (.lload 5, 2) := by decide +kernel
theorem dX1_setQuotient_100 : decode cX1_setQuotient 100 = .ok (.lload_n 3, 1) := by decide +kernel
theorem dX1_setQuotient_101 : decode cX1_setQuotient 101 = .ok (.ldiv, 1) := by decide +kernel
theorem dX1_setQuotient_102 : decode cX1_setQuotient 102 = .ok (.putfield 9, 3) := by decide +kernel
theorem dX1_setQuotient_105 : decode cX1_setQuotient 105 = .ok (.lload 5, 2) := by decide +kernel
theorem dX1_setQuotient_107 : decode cX1_setQuotient 107 = .ok (.lload_n 3, 1) := by decide +kernel
theorem dX1_setQuotient_108 : decode cX1_setQuotient 108 = .ok (.lrem, 1) := by decide +kernel
theorem dX1_setQuotient_109 : decode cX1_setQuotient 109 = .ok (.lstore 5, 2) := by decide +kernel
theorem dX1_setQuotient_111 : decode cX1_setQuotient 111 = .ok (.aload_n 0, 1) := by decide +kernel
theorem dX1_setQuotient_112 : decode cX1_setQuotient 112 = .ok (.lconst 0, 1) := by decide +kernel
theorem dX1_setQuotient_113 : decode cX1_setQuotient 113 = .ok (.putfield 15, 3) := by decide +kernel
theorem dX1_setQuotient_116 : decode cX1_setQuotient 116 = .ok (.iconst 0, 1) := by decide +kernel
theorem dX1_setQuotient_117 : decode cX1_setQuotient 117 = .ok (.istore 7, 2) := by decide +kernel
theorem dX1_setQuotient_119 : decode cX1_setQuotient 119 = .ok (.iload 7, 2) := by decide +kernel
theorem dX1_setQuotient_121 : decode cX1_setQuotient 121 = .ok (.bipush 16, 2) := by decide +kernel
theorem dX1_setQuotient_123 : decode cX1_setQuotient 123 = .ok (.if_icmp .ge 50, 3) := by decide +kernel
theorem dX1_setQuotient_126 : decode cX1_setQuotient 126 = .ok (.lload 5, 2) := by decide +kernel
theorem dX1_setQuotient_128 : decode cX1_setQuotient 128 = .ok (.ldc2_w 80, 3) := by decide +kernel
theorem dX1_setQuotient_131 : decode cX1_setQuotient 131 = .ok (.lmul, 1) := by decide +kernel
theorem dX1_setQuotient_132 : decode cX1_setQuotient 132 = .ok (.lstore 5, 2) := by decide +kernel
theorem dX1_setQuotient_134 : decode cX1_setQuotient 134 = .ok (.aload_n 0, 1) := by decide +kernel
theorem dX1_setQuotient_135 : decode cX1_setQuotient 135 = .ok (.aload_n 0, 1) := by decide +kernel
theorem dX1_setQuotient_136 : decode cX1_setQuotient 136 = .ok (.getfield 15, 3) := by decide +kernel
theorem dX1_setQuotient_139 : decode cX1_setQuotient 139 = .ok (.ldc2_w 80, 3) := by decide +kernel
theorem dX1_setQuotient_142 : decode cX1_setQuotient 142 = .ok (.lmul, 1) := by decide +kernel
theorem dX1_setQuotient_143 : decode cX1_setQuotient 143 = .ok (.lload 5, 2) := by decide +kernel
theorem dX1_setQuotient_145 : decode cX1_setQuotient 145 = .ok (.lload_n 3, 1) := by decide +kernel
theorem dX1_setQuotient_146 : decode cX1_setQuotient 146 = .ok (.ldiv, 1) := by decide +kernel
theorem dX1_setQuotient_147 : decode cX1_setQuotient 147 = .ok (.ladd, 1) := by decide +kernel
theorem dX1_setQuotient_148 : decode cX1_setQuotient 148 = .ok (.putfield 15, 3) := by decide +kernel
theorem dX1_setQuotient_151 : decode cX1_setQuotient 151 = .ok (.lload 5, 2) := by decide +kernel
theorem dX1_setQuotient_153 : decode cX1_setQuotient 153 = .ok (.lload_n 3, 1) := by decide +kernel
theorem dX1_setQuotient_154 : decode cX1_setQuotient 154 = .ok (.lrem, 1) := by decide +kernel
theorem dX1_setQuotient_155 : decode cX1_setQuotient 155 = .ok (.lstore 5, 2) := by decide +kernel
theorem dX1_setQuotient_157 : decode cX1_setQuotient 157 = .ok (.aload_n 0, 1) := by decide +kernel
theorem dX1_setQuotient_158 : decode cX1_setQuotient 158 = .ok (.dup, 1) := by decide +kernel
theorem dX1_setQuotient_159 : decode cX1_setQuotient 159 = .ok (.getfield 39, 3) := by decide +kernel
theorem dX1_setQuotient_162 : decode cX1_setQuotient 162 = .ok (.iconst 1, 1) := by decide +kernel
theorem dX1_setQuotient_163 : decode cX1_setQuotient 163 = .ok (.isub, 1) := by decide +kernel
theorem dX1_setQuotient_164 : decode cX1_setQuotient 164 = .ok (.putfield 39, 3) := by decide +kernel
theorem dX1_setQuotient_167 : decode cX1_setQuotient 167 = .ok (.iinc 7 1, 3) := by decide +kernel
theorem dX1_setQuotient_170 : decode cX1_setQuotient 170 = .ok (.goto (-51), 3) := by decide +kernel
theorem dX1_setQuotient_173 : decode cX1_setQuotient 173 = .ok (.aload_n 0, 1) := by decide +kernel
theorem dX1_setQuotient_174 : decode cX1_setQuotient 174 = .ok (.lload 5, 2) := by decide +kernel
theorem dX1_setQuotient_176 : decode cX1_setQuotient 176 = .ok (.lconst 0, 1) := by decide +kernel
theorem dX1_setQuotient_177 : decode cX1_setQuotient 177 = .ok (.lcmp, 1) := by decide +kernel
theorem dX1_setQuotient_178 : decode cX1_setQuotient 178 = .ok (.ifCond .eq 7, 3) := by decide +kernel
theorem dX1_setQuotient_181 : decode cX1_setQuotient 181 = .ok (.iconst 1, 1) := by decide +kernel
theorem dX1_setQuotient_182 : decode cX1_setQuotient 182 = .ok (.goto 4, 3) := by decide +kernel
theorem dX1_setQuotient_185 : decode cX1_setQuotient 185 = .ok (.iconst 0, 1) := by decide +kernel
theorem dX1_setQuotient_186 : decode cX1_setQuotient 186 = .ok (.putfield 18, 3) := by decide +kernel
theorem dX1_setQuotient_189 : decode cX1_setQuotient 189 = .ok (.return_, 1) := by decide +kernel
theorem dX1_dropZeros_0 : decode cX1_dropZeros 0 = .ok (.aload_n 0, 1) := by decide +kernel
theorem dX1_dropZeros_1 : decode cX1_dropZeros 1 = .ok (.getfield 15, 3) := by decide +kernel
theorem dX1_dropZeros_4 : decode cX1_dropZeros 4 = .ok (.lconst 0, 1) := by decide +kernel
theorem dX1_dropZeros_5 : decode cX1_dropZeros 5 = .ok (.lcmp, 1) := by decide +kernel
theorem dX1_dropZeros_6 : decode cX1_dropZeros 6 = .ok (.ifCond .ne 27, 3) := by decide +kernel
theorem dX1_dropZeros_9 : decode cX1_dropZeros 9 = .ok (.aload_n 0, 1) := by decide +kernel
theorem dX1_dropZeros_10 : decode cX1_dropZeros 10 = .ok (.aload_n 0, 1) := by decide +kernel
theorem dX1_dropZeros_11 : decode cX1_dropZeros 11 = .ok (.getfield 9, 3) := by decide +kernel
theorem dX1_dropZeros_14 : decode cX1_dropZeros 14 = .ok (.putfield 15, 3) := by decide +kernel
theorem dX1_dropZeros_17 : decode cX1_dropZeros 17 = .ok (.aload_n 0, 1) := by decide +kernel
theorem dX1_dropZeros_18 : decode cX1_dropZeros 18 = .ok (.lconst 0, 1) := by decide +kernel
theorem dX1_dropZeros_19 : decode cX1_dropZeros 19 = .ok (.putfield 9, 3) := by decide +kernel
theorem dX1_dropZeros_22 : decode cX1_dropZeros 22 = .ok (.aload_n 0, 1) := by decide +kernel
theorem dX1_dropZeros_23 : decode cX1_dropZeros 23 = .ok (.dup, 1) := by decide +kernel
theorem dX1_dropZeros_24 : decode cX1_dropZeros 24 = .ok (.getfield 39, 3) := by decide +kernel
theorem dX1_dropZeros_27 : decode cX1_dropZeros 27 = .ok (.bipush 16, 2) := by decide +kernel
theorem dX1_dropZeros_29 : decode cX1_dropZeros 29 = .ok (.iadd, 1) := by decide +kernel
theorem dX1_dropZeros_30 : decode cX1_dropZeros 30 = .ok (.putfield 39, 3) := by decide +kernel
theorem dX1_dropZeros_33 : decode cX1_dropZeros 33 = .ok (.iconst 0, 1) := by decide +kernel
theorem dX1_dropZeros_34 : decode cX1_dropZeros 34 = .ok (.istore_n 1, 1) := by decide +kernel
theorem dX1_dropZeros_35 : decode cX1_dropZeros 35 = .ok (.iload_n 1, 1) := by decide +kernel
theorem dX1_dropZeros_36 : decode cX1_dropZeros 36 = .ok (.bipush 16, 2) := by decide +kernel
theorem dX1_dropZeros_38 : decode cX1_dropZeros 38 = .ok (.if_icmp .ge 78, 3) := by decide +kernel
theorem dX1_dropZeros_41 : decode cX1_dropZeros 41 = .ok (.aload_n 0, 1) := by decide +kernel
theorem dX1_dropZeros_42 : decode cX1_dropZeros 42 = .ok (.getfield 15, 3) := by decide +kernel
theorem dX1_dropZeros_45 : decode cX1_dropZeros 45 = .ok (.lconst 0, 1) := by decide +kernel
theorem dX1_dropZeros_46 : decode cX1_dropZeros 46 = .ok (.lcmp, 1) := by decide +kernel
theorem dX1_dropZeros_47 : decode cX1_dropZeros 47 = .ok (.ifCond .eq 69, 3) := by decide +kernel
theorem dX1_dropZeros_50 : decode cX1_dropZeros 50 = .ok (.aload_n 0, 1) := by decide +kernel
theorem dX1_dropZeros_51 : decode cX1_dropZeros 51 = .ok (.getfield 15, 3) := by decide +kernel
theorem dX1_dropZeros_54 : decode cX1_dropZeros 54 = .ok (.ldc2_w 80, 3) := by decide +kernel
theorem dX1_dropZeros_57 : decode cX1_dropZeros 57 = .ok (.lrem, 1) := by decide +kernel
theorem dX1_dropZeros_58 : decode cX1_dropZeros 58 = .ok (.lconst 0, 1) := by decide +kernel
theorem dX1_dropZeros_59 : decode cX1_dropZeros 59 = .ok (.lcmp, 1) := by decide +kernel
theorem dX1_dropZeros_60 : decode cX1_dropZeros 60 = .ok (.ifCond .ne 56, 3) := by decide +kernel
theorem dX1_dropZeros_63 : decode cX1_dropZeros 63 = .ok (.aload_n 0, 1) := by decide +kernel
theorem dX1_dropZeros_64 : decode cX1_dropZeros 64 = .ok (.aload_n 0, 1) := by decide +kernel
theorem dX1_dropZeros_65 : decode cX1_dropZeros 65 = .ok (.getfield 15, 3) := by decide +kernel
theorem dX1_dropZeros_68 : decode cX1_dropZeros 68 = .ok (.ldc2_w 80, 3) := by decide +kernel
theorem dX1_dropZeros_71 : decode cX1_dropZeros 71 = .ok (.ldiv, 1) := by decide +kernel
theorem dX1_dropZeros_72 : decode cX1_dropZeros 72 = .ok (.aload_n 0, 1) := by decide +kernel
theorem dX1_dropZeros_73 : decode cX1_dropZeros 73 = .ok (.getfield 9, 3) := by decide +kernel
theorem dX1_dropZeros_76 : decode cX1_dropZeros 76 = .ok (.ldc2_w 80, 3) := by decide +kernel
theorem dX1_dropZeros_79 : decode cX1_dropZeros 79 = .ok (.lrem, 1) := by decide +kernel
theorem dX1_dropZeros_80 : decode cX1_dropZeros 80 = .ok (.ldc2_w 82, 3) := by decide +kernel
theorem dX1_dropZeros_83 : decode cX1_dropZeros 83 = .ok (.lmul, 1) := by decide +kernel
theorem dX1_dropZeros_84 : decode cX1_dropZeros 84 = .ok (.ladd, 1) := by decide +kernel
theorem dX1_dropZeros_85 : decode cX1_dropZeros 85 = .ok (.putfield 15, 3) := by decide +kernel
theorem dX1_dropZeros_88 : decode cX1_dropZeros 88 = .ok (.aload_n 0, 1) := by decide +kernel
theorem dX1_dropZeros_89 : decode cX1_dropZeros 89 = .ok (.dup, 1) := by decide +kernel
theorem dX1_dropZeros_90 : decode cX1_dropZeros 90 = .ok (.getfield 9, 3) := by decide +kernel
theorem dX1_dropZeros_93 : decode cX1_dropZeros 93 = .ok (.ldc2_w 80, 3) := by decide +kernel
theorem dX1_dropZeros_96 : decode cX1_dropZeros 96 = .ok (.ldiv, 1) := by decide +kernel
theorem dX1_dropZeros_97 : decode cX1_dropZeros 97 = .ok (.putfield 9, 3) := by decide +kernel
theorem dX1_dropZeros_100 : decode cX1_dropZeros 100 = .ok (.aload_n 0, 1) := by decide +kernel
theorem dX1_dropZeros_101 : decode cX1_dropZeros 101 = .ok (.dup, 1) := by decide +kernel
theorem dX1_dropZeros_102 : decode cX1_dropZeros 102 = .ok (.getfield 39, 3) := by decide +kernel
theorem dX1_dropZeros_105 : decode cX1_dropZeros 105 = .ok (.iconst 1, 1) := by decide +kernel
theorem dX1_dropZeros_106 : decode cX1_dropZeros 106 = .ok (.iadd, 1) := by decide +kernel
theorem dX1_dropZeros_107 : decode cX1_dropZeros 107 = .ok (.putfield 39, 3) := by decide +kernel
theorem dX1_dropZeros_110 : decode cX1_dropZeros 110 = .ok (.iinc 1 1, 3) := by decide +kernel
theorem dX1_dropZeros_113 : decode cX1_dropZeros 113 = .ok (.goto (-78), 3) := by decide +kernel
theorem dX1_dropZeros_116 : decode cX1_dropZeros 116 = .ok (.return_, 1) := by decide +kernel
theorem dX1_cut_0 : decode cX1_cut 0 = .ok (.iload_n 1, 1) := by decide +kernel
theorem dX1_cut_1 : decode cX1_cut 1 = .ok (.bipush 32, 2) := by decide +kernel
theorem dX1_cut_3 : decode cX1_cut 3 = .ok (.if_icmp .le 27, 3) := by decide +kernel
theorem dX1_cut_6 : decode cX1_cut 6 = .ok (.aload_n 0, 1) := by decide +kernel
theorem dX1_cut_7 : decode cX1_cut 7 = .ok (.lconst 0, 1) := by decide +kernel
theorem dX1_cut_8 : decode cX1_cut 8 = .ok (.putfield 84, 3) := by decide +kernel
theorem dX1_cut_11 : decode cX1_cut 11 = .ok (.aload_n 0, 1) := by decide +kernel
theorem dX1_cut_12 : decode cX1_cut 12 = .ok (.aload_n 0, 1) := by decide +kernel
theorem dX1_cut_13 : decode cX1_cut 13 = .ok (.invokevirtual 54, 3) := by decide +kernel
theorem dX1_cut_16 : decode cX1_cut 16 = .ok (.ifCond .eq 7, 3) := by decide +kernel
theorem dX1_cut_19 : decode cX1_cut 19 = .ok (.iconst 0, 1) := by decide +kernel
theorem dX1_cut_20 : decode cX1_cut 20 = .ok (.goto 4, 3) := by decide +kernel
theorem dX1_cut_23 : decode cX1_cut 23 = .ok (.iconst 1, 1) := by decide +kernel
theorem dX1_cut_24 : decode cX1_cut 24 = .ok (.putfield 87, 3) := by decide +kernel
theorem dX1_cut_27 : decode cX1_cut 27 = .ok (.goto 111, 3) := by decide +kernel
theorem dX1_cut_30 : decode cX1_cut 30 = .ok (.iload_n 1, 1) := by decide +kernel
theorem dX1_cut_31 : decode cX1_cut 31 = .ok (.bipush 16, 2) := by decide +kernel
theorem dX1_cut_33 : decode cX1_cut 33 = .ok (.if_icmp .le 59, 3) := by decide +kernel
theorem dX1_cut_36 : decode cX1_cut 36 = .ok (.iload_n 1, 1) := by decide +kernel
theorem dX1_cut_37 : decode cX1_cut 37 = .ok (.bipush 16, 2) := by decide +kernel
theorem dX1_cut_39 : decode cX1_cut 39 = .ok (.isub, 1) := by decide +kernel
theorem dX1_cut_40 : decode cX1_cut 40 = .ok (.invokestatic 64, 3) := by decide +kernel
theorem dX1_cut_43 : decode cX1_cut 43 = .ok (.lstore_n 2, 1) := by decide +kernel
theorem dX1_cut_44 : decode cX1_cut 44 = .ok (.aload_n 0, 1) := by decide +kernel
theorem dX1_cut_45 : decode cX1_cut 45 = .ok (.aload_n 0, 1) := by decide +kernel
theorem dX1_cut_46 : decode cX1_cut 46 = .ok (.getfield 9, 3) := by decide +kernel
theorem dX1_cut_49 : decode cX1_cut 49 = .ok (.lload_n 2, 1) := by decide +kernel
theorem dX1_cut_50 : decode cX1_cut 50 = .ok (.ldiv, 1) := by decide +kernel
theorem dX1_cut_51 : decode cX1_cut 51 = .ok (.putfield 84, 3) := by decide +kernel
theorem dX1_cut_54 : decode cX1_cut 54 = .ok (.aload_n 0, 1) := by decide +kernel
theorem dX1_cut_55 : decode cX1_cut 55 = .ok (.aload_n 0, 1) := by decide +kernel
theorem dX1_cut_56 : decode cX1_cut 56 = .ok (.getfield 9, 3) := by decide +kernel
theorem dX1_cut_59 : decode cX1_cut 59 = .ok (.lload_n 2, 1) := by decide +kernel
theorem dX1_cut_60 : decode cX1_cut 60 = .ok (.lrem, 1) := by decide +kernel
theorem dX1_cut_61 : decode cX1_cut 61 = .ok (.lload_n 2, 1) := by decide +kernel
theorem dX1_cut_62 : decode cX1_cut 62 = .ok (.aload_n 0, 1) := by decide +kernel
theorem dX1_cut_63 : decode cX1_cut 63 = .ok (.getfield 15, 3) := by decide +kernel
theorem dX1_cut_66 : decode cX1_cut 66 = .ok (.lconst 0, 1) := by decide +kernel
theorem dX1_cut_67 : decode cX1_cut 67 = .ok (.lcmp, 1) := by decide +kernel
theorem dX1_cut_68 : decode cX1_cut 68 = .ok (.ifCond .ne 10, 3) := by decide +kernel
theorem dX1_cut_71 : decode cX1_cut 71 = .ok (.aload_n 0, 1) := by decide +kernel
theorem dX1_cut_72 : decode cX1_cut 72 = .ok (.getfield 18, 3) := by decide +kernel
theorem dX1_cut_75 : decode cX1_cut 75 = .ok (.ifCond .eq 7, 3) := by decide +kernel
theorem dX1_cut_78 : decode cX1_cut 78 = .ok (.iconst 1, 1) := by decide +kernel
theorem dX1_cut_79 : decode cX1_cut 79 = .ok (.goto 4, 3) := by decide +kernel
theorem dX1_cut_82 : decode cX1_cut 82 = .ok (.iconst 0, 1) := by decide +kernel
theorem dX1_cut_83 : decode cX1_cut 83 = .ok (.invokestatic 90, 3) := by decide +kernel
theorem dX1_cut_86 : decode cX1_cut 86 = .ok (.putfield 87, 3) := by decide +kernel
theorem dX1_cut_89 : decode cX1_cut 89 = .ok (.goto 49, 3) := by decide +kernel
theorem dX1_cut_92 : decode cX1_cut 92 = .ok (.iload_n 1, 1) := by decide +kernel
theorem dX1_cut_93 : decode cX1_cut 93 = .ok (.invokestatic 64, 3) := by decide +kernel
theorem dX1_cut_96 : decode cX1_cut 96 = .ok (.lstore_n 2, 1) := by decide +kernel
theorem dX1_cut_97 : decode cX1_cut 97 = .ok (.aload_n 0, 1) := by decide +kernel
theorem dX1_cut_98 : decode cX1_cut 98 = .ok (.aload_n 0, 1) := by decide +kernel
theorem dX1_cut_99 : decode cX1_cut 99 = .ok (.getfield 9, 3) := by decide +kernel
theorem dX1_cut_102 : decode cX1_cut 102 = .ok (.bipush 16, 2) := by decide +kernel
theorem dX1_cut_104 : decode cX1_cut 104 = .ok (.iload_n 1, 1) := by decide +kernel
theorem dX1_cut_105 : decode cX1_cut 105 = .ok (.isub, 1) := by decide +kernel
theorem dX1_cut_106 : decode cX1_cut 106 = .ok (.invokestatic 64, 3) := by decide +kernel
theorem dX1_cut_109 : decode cX1_cut 109 = .ok (.lmul, 1) := by decide +kernel
theorem dX1_cut_110 : decode cX1_cut 110 = .ok (.aload_n 0, 1) := by decide +kernel
theorem dX1_cut_111 : decode cX1_cut 111 = .ok (.getfield 15, 3) := by decide +kernel
theorem dX1_cut_114 : decode cX1_cut 114 = .ok (.lload_n 2, 1) := by decide +kernel
theorem dX1_cut_115 : decode cX1_cut 115 = .ok (.ldiv, 1) := by decide +kernel
theorem dX1_cut_116 : decode cX1_cut 116 = .ok (.ladd, 1) := by decide +kernel
theorem dX1_cut_117 : decode cX1_cut 117 = .ok (.putfield 84, 3) := by decide +kernel
theorem dX1_cut_120 : decode cX1_cut 120 = .ok (.aload_n 0, 1) := by decide +kernel
theorem dX1_cut_121 : decode cX1_cut 121 = .ok (.aload_n 0, 1) := by decide +kernel
theorem dX1_cut_122 : decode cX1_cut 122 = .ok (.getfield 15, 3) := by decide +kernel
theorem dX1_cut_125 : decode cX1_cut 125 = .ok (.lload_n 2, 1) := by decide +kernel
theorem dX1_cut_126 : decode cX1_cut 126 = .ok (.lrem, 1) := by decide +kernel
theorem dX1_cut_127 : decode cX1_cut 127 = .ok (.lload_n 2, 1) := by decide +kernel
theorem dX1_cut_128 : decode cX1_cut 128 = .ok (.aload_n 0, 1) := by decide +kernel
theorem dX1_cut_129 : decode cX1_cut 129 = .ok (.getfield 18, 3) := by decide +kernel
theorem dX1_cut_132 : decode cX1_cut 132 = .ok (.invokestatic 90, 3) := by decide +kernel
theorem dX1_cut_135 : decode cX1_cut 135 = .ok (.putfield 87, 3) := by decide +kernel
theorem dX1_cut_138 : decode cX1_cut 138 = .ok (.return_, 1) := by decide +kernel
theorem dX1_restOf_0 : decode cX1_restOf 0 = .ok (.lload_n 2, 1) := by decide +kernel
theorem dX1_restOf_1 : decode cX1_restOf 1 = .ok (.ldc2_w 94, 3) := by decide +kernel
theorem dX1_restOf_4 : decode cX1_restOf 4 = .ok (.ldiv, 1) := by decide +kernel
theorem dX1_restOf_5 : decode cX1_restOf 5 = .ok (.lstore 5, 2) := by decide +kernel
theorem dX1_restOf_7 : decode cX1_restOf 7 = .ok (.lload_n 0, 1) := by decide +kernel
theorem dX1_restOf_8 : decode cX1_restOf 8 = .ok (.lload 5, 2) := by decide +kernel
theorem dX1_restOf_10 : decode cX1_restOf 10 = .ok (.lcmp, 1) := by decide +kernel
theorem dX1_restOf_11 : decode cX1_restOf 11 = .ok (.ifCond .gt 15, 3) := by decide +kernel
theorem dX1_restOf_14 : decode cX1_restOf 14 = .ok (.lload_n 0, 1) := by decide +kernel
theorem dX1_restOf_15 : decode cX1_restOf 15 = .ok (.lload 5, 2) := by decide +kernel
theorem dX1_restOf_17 : decode cX1_restOf 17 = .ok (.lcmp, 1) := by decide +kernel
theorem dX1_restOf_18 : decode cX1_restOf 18 = .ok (.ifCond .ne 10, 3) := by decide +kernel
theorem dX1_restOf_21 : decode cX1_restOf 21 = .ok (.iload 4, 2) := by decide +kernel
theorem dX1_restOf_23 : decode cX1_restOf 23 = .ok (.ifCond .eq 5, 3) := by decide +kernel
theorem dX1_restOf_26 : decode cX1_restOf 26 = .ok (.iconst 3, 1) := by decide +kernel
theorem dX1_restOf_27 : decode cX1_restOf 27 = .ok (.ireturn, 1) := by decide +kernel
theorem dX1_restOf_28 : decode cX1_restOf 28 = .ok (.lload_n 0, 1) := by decide +kernel
theorem dX1_restOf_29 : decode cX1_restOf 29 = .ok (.lload 5, 2) := by decide +kernel
theorem dX1_restOf_31 : decode cX1_restOf 31 = .ok (.lcmp, 1) := by decide +kernel
theorem dX1_restOf_32 : decode cX1_restOf 32 = .ok (.ifCond .ne 5, 3) := by decide +kernel
theorem dX1_restOf_35 : decode cX1_restOf 35 = .ok (.iconst 2, 1) := by decide +kernel
theorem dX1_restOf_36 : decode cX1_restOf 36 = .ok (.ireturn, 1) := by decide +kernel
theorem dX1_restOf_37 : decode cX1_restOf 37 = .ok (.lload_n 0, 1) := by decide +kernel
theorem dX1_restOf_38 : decode cX1_restOf 38 = .ok (.lconst 0, 1) := by decide +kernel
theorem dX1_restOf_39 : decode cX1_restOf 39 = .ok (.lcmp, 1) := by decide +kernel
theorem dX1_restOf_40 : decode cX1_restOf 40 = .ok (.ifCond .ne 8, 3) := by decide +kernel
theorem dX1_restOf_43 : decode cX1_restOf 43 = .ok (.iload 4, 2) := by decide +kernel
theorem dX1_restOf_45 : decode cX1_restOf 45 = .ok (.ifCond .eq 7, 3) := by decide +kernel
theorem dX1_restOf_48 : decode cX1_restOf 48 = .ok (.iconst 1, 1) := by decide +kernel
theorem dX1_restOf_49 : decode cX1_restOf 49 = .ok (.goto 4, 3) := by decide +kernel
theorem dX1_restOf_52 : decode cX1_restOf 52 = .ok (.iconst 0, 1) := by decide +kernel
theorem dX1_restOf_53 : decode cX1_restOf 53 = .ok (.ireturn, 1) := by decide +kernel
theorem dX2_wordOf_0 : decode cX2_wordOf 0 = .ok (.aload_n 0, 1) := by decide +kernel
theorem dX2_wordOf_1 : decode cX2_wordOf 1 = .ok (.getfield 9, 3) := by decide +kernel
theorem dX2_wordOf_4 : decode cX2_wordOf 4 = .ok (.ifCond .eq 9, 3) := by decide +kernel
theorem dX2_wordOf_7 : decode cX2_wordOf 7 = .ok (.ldc2_w 15, 3) := by decide +kernel
theorem dX2_wordOf_10 : decode cX2_wordOf 10 = .ok (.goto 4, 3) := by decide +kernel
theorem dX2_wordOf_13 : decode cX2_wordOf 13 = .ok (.lconst 0, 1) := by decide +kernel
theorem dX2_wordOf_14 : decode cX2_wordOf 14 = .ok (.lstore_n 2, 1) := by decide +kernel
theorem dX2_wordOf_15 : decode cX2_wordOf 15 = .ok (.aload_n 0, 1) := by decide +kernel
theorem dX2_wordOf_16 : decode cX2_wordOf 16 = .ok (.getfield 17, 3) := by decide +kernel
theorem dX2_wordOf_19 : decode cX2_wordOf 19 = .ok (.iconst 1, 1) := by decide +kernel
theorem dX2_wordOf_20 : decode cX2_wordOf 20 = .ok (.if_icmp .ne 9, 3) := by decide +kernel
theorem dX2_wordOf_23 : decode cX2_wordOf 23 = .ok (.lload_n 2, 1) := by decide +kernel
theorem dX2_wordOf_24 : decode cX2_wordOf 24 = .ok (.ldc2_w 23, 3) := by decide +kernel
theorem dX2_wordOf_27 : decode cX2_wordOf 27 = .ok (.lor, 1) := by decide +kernel
theorem dX2_wordOf_28 : decode cX2_wordOf 28 = .ok (.lreturn, 1) := by decide +kernel
theorem dX2_wordOf_29 : decode cX2_wordOf 29 = .ok (.aload_n 0, 1) := by decide +kernel
theorem dX2_wordOf_30 : decode cX2_wordOf 30 = .ok (.getfield 17, 3) := by decide +kernel
theorem dX2_wordOf_33 : decode cX2_wordOf 33 = .ok (.iconst 2, 1) := by decide +kernel
theorem dX2_wordOf_34 : decode cX2_wordOf 34 = .ok (.if_icmp .ne 7, 3) := by decide +kernel
theorem dX2_wordOf_37 : decode cX2_wordOf 37 = .ok (.ldc2_w 25, 3) := by decide +kernel
theorem dX2_wordOf_40 : decode cX2_wordOf 40 = .ok (.lreturn, 1) := by decide +kernel
theorem dX2_wordOf_41 : decode cX2_wordOf 41 = .ok (.aload_n 0, 1) := by decide +kernel
theorem dX2_wordOf_42 : decode cX2_wordOf 42 = .ok (.getfield 27, 3) := by decide +kernel
theorem dX2_wordOf_45 : decode cX2_wordOf 45 = .ok (.sipush (-398), 3) := by decide +kernel
theorem dX2_wordOf_48 : decode cX2_wordOf 48 = .ok (.isub, 1) := by decide +kernel
theorem dX2_wordOf_49 : decode cX2_wordOf 49 = .ok (.i2l, 1) := by decide +kernel
theorem dX2_wordOf_50 : decode cX2_wordOf 50 = .ok (.lstore 4, 2) := by decide +kernel
theorem dX2_wordOf_52 : decode cX2_wordOf 52 = .ok (.lload_n 2, 1) := by decide +kernel
theorem dX2_wordOf_53 : decode cX2_wordOf 53 = .ok (.iload_n 1, 1) := by decide +kernel
theorem dX2_wordOf_54 : decode cX2_wordOf 54 = .ok (.ifCond .eq 15, 3) := by decide +kernel
theorem dX2_wordOf_57 : decode cX2_wordOf 57 = .ok (.aload_n 0, 1) := by decide +kernel
theorem dX2_wordOf_58 : decode cX2_wordOf 58 = .ok (.getfield 30, 3) := by decide +kernel
theorem dX2_wordOf_61 : decode cX2_wordOf 61 = .ok (.lload 4, 2) := by decide +kernel
theorem dX2_wordOf_63 : decode cX2_wordOf 63 = .ok (.invokestatic 34, 3) := by decide +kernel
theorem dX2_wordOf_66 : decode cX2_wordOf 66 = .ok (.goto 12, 3) := by decide +kernel
theorem dX2_wordOf_69 : decode cX2_wordOf 69 = .ok (.aload_n 0, 1) := by decide +kernel
theorem dX2_wordOf_70 : decode cX2_wordOf 70 = .ok (.getfield 30, 3) := by decide +kernel
theorem dX2_wordOf_73 : decode cX2_wordOf 73 = .ok (.lload 4, 2) := by decide +kernel
theorem dX2_wordOf_75 : decode cX2_wordOf 75 = .ok (.invokestatic 38, 3) := by decide +kernel
theorem dX2_wordOf_78 : decode cX2_wordOf 78 = .ok (.lor, 1) := by decide +kernel
theorem dX2_wordOf_79 : decode cX2_wordOf 79 = .ok (.lreturn, 1) := by decide +kernel
theorem dX2_binaryWord_0 : decode cX2_binaryWord 0 = .ok (.lload_n 0, 1) := by decide +kernel
theorem dX2_binaryWord_1 : decode cX2_binaryWord 1 = .ok (.ldc2_w 41, 3) := by decide +kernel
theorem dX2_binaryWord_4 : decode cX2_binaryWord 4 = .ok (.lcmp, 1) := by decide +kernel
theorem dX2_binaryWord_5 : decode cX2_binaryWord 5 = .ok (.ifCond .ge 10, 3) := by decide +kernel
theorem dX2_binaryWord_8 : decode cX2_binaryWord 8 = .ok (.lload_n 2, 1) := by decide +kernel
theorem dX2_binaryWord_9 : decode cX2_binaryWord 9 = .ok (.bipush 53, 2) := by decide +kernel
theorem dX2_binaryWord_11 : decode cX2_binaryWord 11 = .ok (.lshl, 1) := by decide +kernel
theorem dX2_binaryWord_12 : decode cX2_binaryWord 12 = .ok (.lload_n 0, 1) := by decide +kernel
theorem dX2_binaryWord_13 : decode cX2_binaryWord 13 = .ok (.lor, 1) := by decide +kernel
theorem dX2_binaryWord_14 : decode cX2_binaryWord 14 = .ok (.lreturn, 1) := by decide +kernel
theorem dX2_binaryWord_15 : decode cX2_binaryWord 15 = .ok (.ldc2_w 43, 3) := by decide +kernel
theorem dX2_binaryWord_18 : decode cX2_binaryWord 18 = .ok (.lload_n 2, 1) := by decide +kernel
theorem dX2_binaryWord_19 : decode cX2_binaryWord 19 = .ok (.bipush 51, 2) := by decide +kernel
theorem dX2_binaryWord_21 : decode cX2_binaryWord 21 = .ok (.lshl, 1) := by decide +kernel
theorem dX2_binaryWord_22 : decode cX2_binaryWord 22 = .ok (.lor, 1) := by decide +kernel
theorem dX2_binaryWord_23 : decode cX2_binaryWord 23 = .ok (.lload_n 0, 1) := by decide +kernel
theorem dX2_binaryWord_24 : decode cX2_binaryWord 24 = .ok (.ldc2_w 41, 3) := by decide +kernel
theorem dX2_binaryWord_27 : decode cX2_binaryWord 27 = .ok (.lsub, 1) := by decide +kernel
theorem dX2_binaryWord_28 : decode cX2_binaryWord 28 = .ok (.lor, 1) := by decide +kernel
theorem dX2_binaryWord_29 : decode cX2_binaryWord 29 = .ok (.lreturn, 1) := by decide +kernel
theorem dX2_digitWord_0 : decode cX2_digitWord 0 = .ok (.lload_n 0, 1) := by decide +kernel
theorem dX2_digitWord_1 : decode cX2_digitWord 1 = .ok (.ldc2_w 45, 3) := by decide +kernel
theorem dX2_digitWord_4 : decode cX2_digitWord 4 = .ok (.ldiv, 1) := by decide +kernel
theorem dX2_digitWord_5 : decode cX2_digitWord 5 = .ok (.lstore 4, 2) := by decide +kernel
theorem dX2_digitWord_7 : decode cX2_digitWord 7 = .ok (.lload_n 2, 1) := by decide +kernel
theorem dX2_digitWord_8 : decode cX2_digitWord 8 = .ok (.ldc2_w 47, 3) := by decide +kernel
theorem dX2_digitWord_11 : decode cX2_digitWord 11 = .ok (.ldiv, 1) := by decide +kernel
theorem dX2_digitWord_12 : decode cX2_digitWord 12 = .ok (.lstore 6, 2) := by decide +kernel
theorem dX2_digitWord_14 : decode cX2_digitWord 14 = .ok (.lload 4, 2) := by decide +kernel
theorem dX2_digitWord_16 : decode cX2_digitWord 16 = .ok (.ldc2_w 49, 3) := by decide +kernel
theorem dX2_digitWord_19 : decode cX2_digitWord 19 = .ok (.lcmp, 1) := by decide +kernel
theorem dX2_digitWord_20 : decode cX2_digitWord 20 = .ok (.ifCond .ge 17, 3) := by decide +kernel
theorem dX2_digitWord_23 : decode cX2_digitWord 23 = .ok (.lload 6, 2) := by decide +kernel
theorem dX2_digitWord_25 : decode cX2_digitWord 25 = .ok (.bipush 61, 2) := by decide +kernel
theorem dX2_digitWord_27 : decode cX2_digitWord 27 = .ok (.lshl, 1) := by decide +kernel
theorem dX2_digitWord_28 : decode cX2_digitWord 28 = .ok (.lload 4, 2) := by decide +kernel
theorem dX2_digitWord_30 : decode cX2_digitWord 30 = .ok (.bipush 58, 2) := by decide +kernel
theorem dX2_digitWord_32 : decode cX2_digitWord 32 = .ok (.lshl, 1) := by decide +kernel
theorem dX2_digitWord_33 : decode cX2_digitWord 33 = .ok (.lor, 1) := by decide +kernel
theorem dX2_digitWord_34 : decode cX2_digitWord 34 = .ok (.goto 22, 3) := by decide +kernel
theorem dX2_digitWord_37 : decode cX2_digitWord 37 = .ok (.ldc2_w 43, 3) := by decide +kernel
theorem dX2_digitWord_40 : decode cX2_digitWord 40 = .ok (.lload 6, 2) := by decide +kernel
theorem dX2_digitWord_42 : decode cX2_digitWord 42 = .ok (.bipush 59, 2) := by decide +kernel
theorem dX2_digitWord_44 : decode cX2_digitWord 44 = .ok (.lshl, 1) := by decide +kernel
theorem dX2_digitWord_45 : decode cX2_digitWord 45 = .ok (.lor, 1) := by decide +kernel
theorem dX2_digitWord_46 : decode cX2_digitWord 46 = .ok (.lload 4, 2) := by decide +kernel
theorem dX2_digitWord_48 : decode cX2_digitWord 48 = .ok (.ldc2_w 49, 3) := by decide +kernel
theorem dX2_digitWord_51 : decode cX2_digitWord 51 = .ok (.lsub, 1) := by decide +kernel
theorem dX2_digitWord_52 : decode cX2_digitWord 52 = .ok (.bipush 58, 2) := by decide +kernel
theorem dX2_digitWord_54 : decode cX2_digitWord 54 = .ok (.lshl, 1) := by decide +kernel
theorem dX2_digitWord_55 : decode cX2_digitWord 55 = .ok (.lor, 1) := by decide +kernel
theorem dX2_digitWord_56 : decode cX2_digitWord 56 = .ok (.lstore 8, 2) := by decide +kernel
theorem dX2_digitWord_58 : decode cX2_digitWord 58 = .ok (.lload 8, 2) := by decide +kernel
theorem dX2_digitWord_60 : decode cX2_digitWord 60 = .ok (.lload_n 2, 1) := by decide +kernel
theorem dX2_digitWord_61 : decode cX2_digitWord 61 = .ok (.ldc2_w 51, 3) := by decide +kernel
theorem dX2_digitWord_64 : decode cX2_digitWord 64 = .ok (.land, 1) := by decide +kernel
theorem dX2_digitWord_65 : decode cX2_digitWord 65 = .ok (.bipush 50, 2) := by decide +kernel
theorem dX2_digitWord_67 : decode cX2_digitWord 67 = .ok (.lshl, 1) := by decide +kernel
theorem dX2_digitWord_68 : decode cX2_digitWord 68 = .ok (.lor, 1) := by decide +kernel
theorem dX2_digitWord_69 : decode cX2_digitWord 69 = .ok (.lstore 8, 2) := by decide +kernel
theorem dX2_digitWord_71 : decode cX2_digitWord 71 = .ok (.iconst 0, 1) := by decide +kernel
theorem dX2_digitWord_72 : decode cX2_digitWord 72 = .ok (.istore 10, 2) := by decide +kernel
theorem dX2_digitWord_74 : decode cX2_digitWord 74 = .ok (.iload 10, 2) := by decide +kernel
theorem dX2_digitWord_76 : decode cX2_digitWord 76 = .ok (.iconst 5, 1) := by decide +kernel
theorem dX2_digitWord_77 : decode cX2_digitWord 77 = .ok (.if_icmp .ge 58, 3) := by decide +kernel
theorem dX2_digitWord_80 : decode cX2_digitWord 80 = .ok (.lload_n 0, 1) := by decide +kernel
theorem dX2_digitWord_81 : decode cX2_digitWord 81 = .ok (.iconst 3, 1) := by decide +kernel
theorem dX2_digitWord_82 : decode cX2_digitWord 82 = .ok (.iload 10, 2) := by decide +kernel
theorem dX2_digitWord_84 : decode cX2_digitWord 84 = .ok (.imul, 1) := by decide +kernel
theorem dX2_digitWord_85 : decode cX2_digitWord 85 = .ok (.invokestatic 53, 3) := by decide +kernel
theorem dX2_digitWord_88 : decode cX2_digitWord 88 = .ok (.ldiv, 1) := by decide +kernel
theorem dX2_digitWord_89 : decode cX2_digitWord 89 = .ok (.ldc2_w 57, 3) := by decide +kernel
theorem dX2_digitWord_92 : decode cX2_digitWord 92 = .ok (.lrem, 1) := by decide +kernel
theorem dX2_digitWord_93 : decode cX2_digitWord 93 = .ok (.l2i, 1) := by decide +kernel
theorem dX2_digitWord_94 : decode cX2_digitWord 94 = .ok (.istore 11, 2) := by decide +kernel
theorem dX2_digitWord_96 : decode cX2_digitWord 96 = .ok (.lload 8, 2) := by decide +kernel
theorem dX2_digitWord_98 : decode cX2_digitWord 98 = .ok (.iload 11, 2) := by decide +kernel
theorem dX2_digitWord_100 : decode cX2_digitWord 100 = .ok (.bipush 100, 2) := by decide +kernel
theorem dX2_digitWord_102 : decode cX2_digitWord 102 = .ok (.idiv, 1) := by decide +kernel
theorem dX2_digitWord_103 : decode cX2_digitWord 103 = .ok (.iload 11, 2) := by decide +kernel
theorem dX2_digitWord_105 : decode cX2_digitWord 105 = .ok (.bipush 10, 2) := by decide +kernel
theorem dX2_digitWord_107 : decode cX2_digitWord 107 = .ok (.idiv, 1) := by decide +kernel
theorem dX2_digitWord_108 : decode cX2_digitWord 108 = .ok (.bipush 10, 2) := by decide +kernel
theorem dX2_digitWord_110 : decode cX2_digitWord 110 = .ok (.irem, 1) := by decide +kernel
theorem dX2_digitWord_111 : decode cX2_digitWord 111 = .ok (.iload 11, 2) := by decide +kernel
theorem dX2_digitWord_113 : decode cX2_digitWord 113 = .ok (.bipush 10, 2) := by decide +kernel
theorem dX2_digitWord_115 : decode cX2_digitWord 115 = .ok (.irem, 1) := by decide +kernel
theorem dX2_digitWord_116 : decode cX2_digitWord 116 = .ok (.invokestatic 59, 3) := by decide +kernel
theorem dX2_digitWord_119 : decode cX2_digitWord 119 = .ok (.i2l, 1) := by decide +kernel
theorem dX2_digitWord_120 : decode cX2_digitWord 120 = .ok (.bipush 10, 2) := by decide +kernel
theorem dX2_digitWord_122 : decode cX2_digitWord 122 = .ok (.iload 10, 2) := by decide +kernel
theorem dX2_digitWord_124 : decode cX2_digitWord 124 = .ok (.imul, 1) := by decide +kernel
theorem dX2_digitWord_125 : decode cX2_digitWord 125 = .ok (.lshl, 1) := by decide +kernel
theorem dX2_digitWord_126 : decode cX2_digitWord 126 = .ok (.lor, 1) := by decide +kernel
theorem dX2_digitWord_127 : decode cX2_digitWord 127 = .ok (.lstore 8, 2) := by decide +kernel
theorem dX2_digitWord_129 : decode cX2_digitWord 129 = .ok (.iinc 10 1, 3) := by decide +kernel
theorem dX2_digitWord_132 : decode cX2_digitWord 132 = .ok (.goto (-58), 3) := by decide +kernel
theorem dX2_digitWord_135 : decode cX2_digitWord 135 = .ok (.lload 8, 2) := by decide +kernel
theorem dX2_digitWord_137 : decode cX2_digitWord 137 = .ok (.lreturn, 1) := by decide +kernel
theorem dX2_groupOf_0 : decode cX2_groupOf 0 = .ok (.iload_n 0, 1) := by decide +kernel
theorem dX2_groupOf_1 : decode cX2_groupOf 1 = .ok (.iconst 3, 1) := by decide +kernel
theorem dX2_groupOf_2 : decode cX2_groupOf 2 = .ok (.ishr, 1) := by decide +kernel
theorem dX2_groupOf_3 : decode cX2_groupOf 3 = .ok (.iconst 2, 1) := by decide +kernel
theorem dX2_groupOf_4 : decode cX2_groupOf 4 = .ok (.ishl, 1) := by decide +kernel
theorem dX2_groupOf_5 : decode cX2_groupOf 5 = .ok (.iload_n 1, 1) := by decide +kernel
theorem dX2_groupOf_6 : decode cX2_groupOf 6 = .ok (.iconst 3, 1) := by decide +kernel
theorem dX2_groupOf_7 : decode cX2_groupOf 7 = .ok (.ishr, 1) := by decide +kernel
theorem dX2_groupOf_8 : decode cX2_groupOf 8 = .ok (.iconst 1, 1) := by decide +kernel
theorem dX2_groupOf_9 : decode cX2_groupOf 9 = .ok (.ishl, 1) := by decide +kernel
theorem dX2_groupOf_10 : decode cX2_groupOf 10 = .ok (.ior, 1) := by decide +kernel
theorem dX2_groupOf_11 : decode cX2_groupOf 11 = .ok (.iload_n 2, 1) := by decide +kernel
theorem dX2_groupOf_12 : decode cX2_groupOf 12 = .ok (.iconst 3, 1) := by decide +kernel
theorem dX2_groupOf_13 : decode cX2_groupOf 13 = .ok (.ishr, 1) := by decide +kernel
theorem dX2_groupOf_14 : decode cX2_groupOf 14 = .ok (.ior, 1) := by decide +kernel
theorem dX2_groupOf_15 : decode cX2_groupOf 15 = .ok (.istore_n 3, 1) := by decide +kernel
theorem dX2_groupOf_16 : decode cX2_groupOf 16 = .ok (.iload_n 0, 1) := by decide +kernel
theorem dX2_groupOf_17 : decode cX2_groupOf 17 = .ok (.iconst 1, 1) := by decide +kernel
theorem dX2_groupOf_18 : decode cX2_groupOf 18 = .ok (.iand, 1) := by decide +kernel
theorem dX2_groupOf_19 : decode cX2_groupOf 19 = .ok (.bipush 7, 2) := by decide +kernel
theorem dX2_groupOf_21 : decode cX2_groupOf 21 = .ok (.ishl, 1) := by decide +kernel
theorem dX2_groupOf_22 : decode cX2_groupOf 22 = .ok (.istore 4, 2) := by decide +kernel
theorem dX2_groupOf_24 : decode cX2_groupOf 24 = .ok (.iload_n 1, 1) := by decide +kernel
theorem dX2_groupOf_25 : decode cX2_groupOf 25 = .ok (.iconst 1, 1) := by decide +kernel
theorem dX2_groupOf_26 : decode cX2_groupOf 26 = .ok (.iand, 1) := by decide +kernel
theorem dX2_groupOf_27 : decode cX2_groupOf 27 = .ok (.iconst 4, 1) := by decide +kernel
theorem dX2_groupOf_28 : decode cX2_groupOf 28 = .ok (.ishl, 1) := by decide +kernel
theorem dX2_groupOf_29 : decode cX2_groupOf 29 = .ok (.istore 5, 2) := by decide +kernel
theorem dX2_groupOf_31 : decode cX2_groupOf 31 = .ok (.iload_n 2, 1) := by decide +kernel
theorem dX2_groupOf_32 : decode cX2_groupOf 32 = .ok (.iconst 1, 1) := by decide +kernel
theorem dX2_groupOf_33 : decode cX2_groupOf 33 = .ok (.iand, 1) := by decide +kernel
theorem dX2_groupOf_34 : decode cX2_groupOf 34 = .ok (.istore 6, 2) := by decide +kernel
theorem dX2_groupOf_36 : decode cX2_groupOf 36 = .ok (.iload_n 3, 1) := by decide +kernel
theorem dX2_groupOf_37 : decode cX2_groupOf 37 = .ok (.tableswitch 167 0 6 #[43, 54, 69, 89, 106, 126, 148], 43) := by decide +kernel
theorem dX2_groupOf_80 : decode cX2_groupOf 80 = .ok (.iload_n 0, 1) := by decide +kernel
theorem dX2_groupOf_81 : decode cX2_groupOf 81 = .ok (.bipush 7, 2) := by decide +kernel
theorem dX2_groupOf_83 : decode cX2_groupOf 83 = .ok (.ishl, 1) := by decide +kernel
theorem dX2_groupOf_84 : decode cX2_groupOf 84 = .ok (.iload_n 1, 1) := by decide +kernel
theorem dX2_groupOf_85 : decode cX2_groupOf 85 = .ok (.iconst 4, 1) := by decide +kernel
theorem dX2_groupOf_86 : decode cX2_groupOf 86 = .ok (.ishl, 1) := by decide +kernel
theorem dX2_groupOf_87 : decode cX2_groupOf 87 = .ok (.ior, 1) := by decide +kernel
theorem dX2_groupOf_88 : decode cX2_groupOf 88 = .ok (.iload_n 2, 1) := by decide +kernel
theorem dX2_groupOf_89 : decode cX2_groupOf 89 = .ok (.ior, 1) := by decide +kernel
theorem dX2_groupOf_90 : decode cX2_groupOf 90 = .ok (.ireturn, 1) := by decide +kernel
theorem dX2_groupOf_91 : decode cX2_groupOf 91 = .ok (.iload_n 0, 1) := by decide +kernel
theorem dX2_groupOf_92 : decode cX2_groupOf 92 = .ok (.bipush 7, 2) := by decide +kernel
theorem dX2_groupOf_94 : decode cX2_groupOf 94 = .ok (.ishl, 1) := by decide +kernel
theorem dX2_groupOf_95 : decode cX2_groupOf 95 = .ok (.iload_n 1, 1) := by decide +kernel
theorem dX2_groupOf_96 : decode cX2_groupOf 96 = .ok (.iconst 4, 1) := by decide +kernel
theorem dX2_groupOf_97 : decode cX2_groupOf 97 = .ok (.ishl, 1) := by decide +kernel
theorem dX2_groupOf_98 : decode cX2_groupOf 98 = .ok (.ior, 1) := by decide +kernel
theorem dX2_groupOf_99 : decode cX2_groupOf 99 = .ok (.bipush 8, 2) := by decide +kernel
theorem dX2_groupOf_101 : decode cX2_groupOf 101 = .ok (.ior, 1) := by decide +kernel
theorem dX2_groupOf_102 : decode cX2_groupOf 102 = .ok (.iload 6, 2) := by decide +kernel
theorem dX2_groupOf_104 : decode cX2_groupOf 104 = .ok (.ior, 1) := by decide +kernel
theorem dX2_groupOf_105 : decode cX2_groupOf 105 = .ok (.ireturn, 1) := by decide +kernel
theorem dX2_groupOf_106 : decode cX2_groupOf 106 = .ok (.iload_n 0, 1) := by decide +kernel
theorem dX2_groupOf_107 : decode cX2_groupOf 107 = .ok (.bipush 7, 2) := by decide +kernel
theorem dX2_groupOf_109 : decode cX2_groupOf 109 = .ok (.ishl, 1) := by decide +kernel
theorem dX2_groupOf_110 : decode cX2_groupOf 110 = .ok (.iload_n 2, 1) := by decide +kernel
theorem dX2_groupOf_111 : decode cX2_groupOf 111 = .ok (.iconst 1, 1) := by decide +kernel
theorem dX2_groupOf_112 : decode cX2_groupOf 112 = .ok (.ishr, 1) := by decide +kernel
theorem dX2_groupOf_113 : decode cX2_groupOf 113 = .ok (.iconst 5, 1) := by decide +kernel
theorem dX2_groupOf_114 : decode cX2_groupOf 114 = .ok (.ishl, 1) := by decide +kernel
theorem dX2_groupOf_115 : decode cX2_groupOf 115 = .ok (.ior, 1) := by decide +kernel
theorem dX2_groupOf_116 : decode cX2_groupOf 116 = .ok (.iload 5, 2) := by decide +kernel
theorem dX2_groupOf_118 : decode cX2_groupOf 118 = .ok (.ior, 1) := by decide +kernel
theorem dX2_groupOf_119 : decode cX2_groupOf 119 = .ok (.bipush 10, 2) := by decide +kernel
theorem dX2_groupOf_121 : decode cX2_groupOf 121 = .ok (.ior, 1) := by decide +kernel
theorem dX2_groupOf_122 : decode cX2_groupOf 122 = .ok (.iload 6, 2) := by decide +kernel
theorem dX2_groupOf_124 : decode cX2_groupOf 124 = .ok (.ior, 1) := by decide +kernel
theorem dX2_groupOf_125 : decode cX2_groupOf 125 = .ok (.ireturn, 1) := by decide +kernel
theorem dX2_groupOf_126 : decode cX2_groupOf 126 = .ok (.iload_n 0, 1) := by decide +kernel
theorem dX2_groupOf_127 : decode cX2_groupOf 127 = .ok (.bipush 7, 2) := by decide +kernel
theorem dX2_groupOf_129 : decode cX2_groupOf 129 = .ok (.ishl, 1) := by decide +kernel
theorem dX2_groupOf_130 : decode cX2_groupOf 130 = .ok (.bipush 64, 2) := by decide +kernel
theorem dX2_groupOf_132 : decode cX2_groupOf 132 = .ok (.ior, 1) := by decide +kernel
theorem dX2_groupOf_133 : decode cX2_groupOf 133 = .ok (.iload 5, 2) := by decide +kernel
theorem dX2_groupOf_135 : decode cX2_groupOf 135 = .ok (.ior, 1) := by decide +kernel
theorem dX2_groupOf_136 : decode cX2_groupOf 136 = .ok (.bipush 14, 2) := by decide +kernel
theorem dX2_groupOf_138 : decode cX2_groupOf 138 = .ok (.ior, 1) := by decide +kernel
theorem dX2_groupOf_139 : decode cX2_groupOf 139 = .ok (.iload 6, 2) := by decide +kernel
theorem dX2_groupOf_141 : decode cX2_groupOf 141 = .ok (.ior, 1) := by decide +kernel
theorem dX2_groupOf_142 : decode cX2_groupOf 142 = .ok (.ireturn, 1) := by decide +kernel
theorem dX2_groupOf_143 : decode cX2_groupOf 143 = .ok (.iload_n 2, 1) := by decide +kernel
theorem dX2_groupOf_144 : decode cX2_groupOf 144 = .ok (.iconst 1, 1) := by decide +kernel
theorem dX2_groupOf_145 : decode cX2_groupOf 145 = .ok (.ishr, 1) := by decide +kernel
theorem dX2_groupOf_146 : decode cX2_groupOf 146 = .ok (.bipush 8, 2) := by decide +kernel
theorem dX2_groupOf_148 : decode cX2_groupOf 148 = .ok (.ishl, 1) := by decide +kernel
theorem dX2_groupOf_149 : decode cX2_groupOf 149 = .ok (.iload 4, 2) := by decide +kernel
theorem dX2_groupOf_151 : decode cX2_groupOf 151 = .ok (.ior, 1) := by decide +kernel
theorem dX2_groupOf_152 : decode cX2_groupOf 152 = .ok (.iload_n 1, 1) := by decide +kernel
theorem dX2_groupOf_153 : decode cX2_groupOf 153 = .ok (.iconst 4, 1) := by decide +kernel
theorem dX2_groupOf_154 : decode cX2_groupOf 154 = .ok (.ishl, 1) := by decide +kernel
theorem dX2_groupOf_155 : decode cX2_groupOf 155 = .ok (.ior, 1) := by decide +kernel
theorem dX2_groupOf_156 : decode cX2_groupOf 156 = .ok (.bipush 12, 2) := by decide +kernel
theorem dX2_groupOf_158 : decode cX2_groupOf 158 = .ok (.ior, 1) := by decide +kernel
theorem dX2_groupOf_159 : decode cX2_groupOf 159 = .ok (.iload 6, 2) := by decide +kernel
theorem dX2_groupOf_161 : decode cX2_groupOf 161 = .ok (.ior, 1) := by decide +kernel
theorem dX2_groupOf_162 : decode cX2_groupOf 162 = .ok (.ireturn, 1) := by decide +kernel
theorem dX2_groupOf_163 : decode cX2_groupOf 163 = .ok (.iload_n 1, 1) := by decide +kernel
theorem dX2_groupOf_164 : decode cX2_groupOf 164 = .ok (.iconst 1, 1) := by decide +kernel
theorem dX2_groupOf_165 : decode cX2_groupOf 165 = .ok (.ishr, 1) := by decide +kernel
theorem dX2_groupOf_166 : decode cX2_groupOf 166 = .ok (.bipush 8, 2) := by decide +kernel
theorem dX2_groupOf_168 : decode cX2_groupOf 168 = .ok (.ishl, 1) := by decide +kernel
theorem dX2_groupOf_169 : decode cX2_groupOf 169 = .ok (.iload 4, 2) := by decide +kernel
theorem dX2_groupOf_171 : decode cX2_groupOf 171 = .ok (.ior, 1) := by decide +kernel
theorem dX2_groupOf_172 : decode cX2_groupOf 172 = .ok (.bipush 32, 2) := by decide +kernel
theorem dX2_groupOf_174 : decode cX2_groupOf 174 = .ok (.ior, 1) := by decide +kernel
theorem dX2_groupOf_175 : decode cX2_groupOf 175 = .ok (.iload 5, 2) := by decide +kernel
theorem dX2_groupOf_177 : decode cX2_groupOf 177 = .ok (.ior, 1) := by decide +kernel
theorem dX2_groupOf_178 : decode cX2_groupOf 178 = .ok (.bipush 14, 2) := by decide +kernel
theorem dX2_groupOf_180 : decode cX2_groupOf 180 = .ok (.ior, 1) := by decide +kernel
theorem dX2_groupOf_181 : decode cX2_groupOf 181 = .ok (.iload 6, 2) := by decide +kernel
theorem dX2_groupOf_183 : decode cX2_groupOf 183 = .ok (.ior, 1) := by decide +kernel
theorem dX2_groupOf_184 : decode cX2_groupOf 184 = .ok (.ireturn, 1) := by decide +kernel
theorem dX2_groupOf_185 : decode cX2_groupOf 185 = .ok (.iload_n 2, 1) := by decide +kernel
theorem dX2_groupOf_186 : decode cX2_groupOf 186 = .ok (.iconst 1, 1) := by decide +kernel
theorem dX2_groupOf_187 : decode cX2_groupOf 187 = .ok (.ishr, 1) := by decide +kernel
theorem dX2_groupOf_188 : decode cX2_groupOf 188 = .ok (.bipush 8, 2) := by decide +kernel
theorem dX2_groupOf_190 : decode cX2_groupOf 190 = .ok (.ishl, 1) := by decide +kernel
theorem dX2_groupOf_191 : decode cX2_groupOf 191 = .ok (.iload 4, 2) := by decide +kernel
theorem dX2_groupOf_193 : decode cX2_groupOf 193 = .ok (.ior, 1) := by decide +kernel
theorem dX2_groupOf_194 : decode cX2_groupOf 194 = .ok (.iload 5, 2) := by decide +kernel
theorem dX2_groupOf_196 : decode cX2_groupOf 196 = .ok (.ior, 1) := by decide +kernel
theorem dX2_groupOf_197 : decode cX2_groupOf 197 = .ok (.bipush 14, 2) := by decide +kernel
theorem dX2_groupOf_199 : decode cX2_groupOf 199 = .ok (.ior, 1) := by decide +kernel
theorem dX2_groupOf_200 : decode cX2_groupOf 200 = .ok (.iload 6, 2) := by decide +kernel
theorem dX2_groupOf_202 : decode cX2_groupOf 202 = .ok (.ior, 1) := by decide +kernel
theorem dX2_groupOf_203 : decode cX2_groupOf 203 = .ok (.ireturn, 1) := by decide +kernel
theorem dX2_groupOf_204 : decode cX2_groupOf 204 = .ok (.iload 4, 2) := by decide +kernel
theorem dX2_groupOf_206 : decode cX2_groupOf 206 = .ok (.bipush 96, 2) := by decide +kernel
theorem dX2_groupOf_208 : decode cX2_groupOf 208 = .ok (.ior, 1) := by decide +kernel
theorem dX2_groupOf_209 : decode cX2_groupOf 209 = .ok (.iload 5, 2) := by decide +kernel
theorem dX2_groupOf_211 : decode cX2_groupOf 211 = .ok (.ior, 1) := by decide +kernel
theorem dX2_groupOf_212 : decode cX2_groupOf 212 = .ok (.bipush 14, 2) := by decide +kernel
theorem dX2_groupOf_214 : decode cX2_groupOf 214 = .ok (.ior, 1) := by decide +kernel
theorem dX2_groupOf_215 : decode cX2_groupOf 215 = .ok (.iload 6, 2) := by decide +kernel
theorem dX2_groupOf_217 : decode cX2_groupOf 217 = .ok (.ior, 1) := by decide +kernel
theorem dX2_groupOf_218 : decode cX2_groupOf 218 = .ok (.ireturn, 1) := by decide +kernel
theorem dX2_read_0 : decode cX2_read 0 = .ok (.lload_n 2, 1) := by decide +kernel
theorem dX2_read_1 : decode cX2_read 1 = .ok (.lconst 0, 1) := by decide +kernel
theorem dX2_read_2 : decode cX2_read 2 = .ok (.lcmp, 1) := by decide +kernel
theorem dX2_read_3 : decode cX2_read 3 = .ok (.ifCond .ge 7, 3) := by decide +kernel
theorem dX2_read_6 : decode cX2_read 6 = .ok (.iconst 1, 1) := by decide +kernel
theorem dX2_read_7 : decode cX2_read 7 = .ok (.goto 4, 3) := by decide +kernel
theorem dX2_read_10 : decode cX2_read 10 = .ok (.iconst 0, 1) := by decide +kernel
theorem dX2_read_11 : decode cX2_read 11 = .ok (.istore 4, 2) := by decide +kernel
theorem dX2_read_13 : decode cX2_read 13 = .ok (.lload_n 2, 1) := by decide +kernel
theorem dX2_read_14 : decode cX2_read 14 = .ok (.bipush 58, 2) := by decide +kernel
theorem dX2_read_16 : decode cX2_read 16 = .ok (.lushr, 1) := by decide +kernel
theorem dX2_read_17 : decode cX2_read 17 = .ok (.ldc2_w 63, 3) := by decide +kernel
theorem dX2_read_20 : decode cX2_read 20 = .ok (.land, 1) := by decide +kernel
theorem dX2_read_21 : decode cX2_read 21 = .ok (.lstore 5, 2) := by decide +kernel
theorem dX2_read_23 : decode cX2_read 23 = .ok (.lload 5, 2) := by decide +kernel
theorem dX2_read_25 : decode cX2_read 25 = .ok (.ldc2_w 65, 3) := by decide +kernel
theorem dX2_read_28 : decode cX2_read 28 = .ok (.lcmp, 1) := by decide +kernel
theorem dX2_read_29 : decode cX2_read 29 = .ok (.ifCond .ne 12, 3) := by decide +kernel
theorem dX2_read_32 : decode cX2_read 32 = .ok (.aload_n 0, 1) := by decide +kernel
theorem dX2_read_33 : decode cX2_read 33 = .ok (.iload 4, 2) := by decide +kernel
theorem dX2_read_35 : decode cX2_read 35 = .ok (.invokevirtual 67, 3) := by decide +kernel
theorem dX2_read_38 : decode cX2_read 38 = .ok (.goto 40, 3) := by decide +kernel
theorem dX2_read_41 : decode cX2_read 41 = .ok (.lload 5, 2) := by decide +kernel
theorem dX2_read_43 : decode cX2_read 43 = .ok (.ldc2_w 63, 3) := by decide +kernel
theorem dX2_read_46 : decode cX2_read 46 = .ok (.lcmp, 1) := by decide +kernel
theorem dX2_read_47 : decode cX2_read 47 = .ok (.ifCond .ne 10, 3) := by decide +kernel
theorem dX2_read_50 : decode cX2_read 50 = .ok (.aload_n 0, 1) := by decide +kernel
theorem dX2_read_51 : decode cX2_read 51 = .ok (.invokevirtual 71, 3) := by decide +kernel
theorem dX2_read_54 : decode cX2_read 54 = .ok (.goto 24, 3) := by decide +kernel
theorem dX2_read_57 : decode cX2_read 57 = .ok (.iload_n 1, 1) := by decide +kernel
theorem dX2_read_58 : decode cX2_read 58 = .ok (.ifCond .eq 13, 3) := by decide +kernel
theorem dX2_read_61 : decode cX2_read 61 = .ok (.aload_n 0, 1) := by decide +kernel
theorem dX2_read_62 : decode cX2_read 62 = .ok (.iload 4, 2) := by decide +kernel
theorem dX2_read_64 : decode cX2_read 64 = .ok (.lload_n 2, 1) := by decide +kernel
theorem dX2_read_65 : decode cX2_read 65 = .ok (.invokestatic 74, 3) := by decide +kernel
theorem dX2_read_68 : decode cX2_read 68 = .ok (.goto 10, 3) := by decide +kernel
theorem dX2_read_71 : decode cX2_read 71 = .ok (.aload_n 0, 1) := by decide +kernel
theorem dX2_read_72 : decode cX2_read 72 = .ok (.iload 4, 2) := by decide +kernel
theorem dX2_read_74 : decode cX2_read 74 = .ok (.lload_n 2, 1) := by decide +kernel
theorem dX2_read_75 : decode cX2_read 75 = .ok (.invokestatic 78, 3) := by decide +kernel
theorem dX2_read_78 : decode cX2_read 78 = .ok (.return_, 1) := by decide +kernel
theorem dX2_readBinary_0 : decode cX2_readBinary 0 = .ok (.lload_n 2, 1) := by decide +kernel
theorem dX2_readBinary_1 : decode cX2_readBinary 1 = .ok (.ldc2_w 43, 3) := by decide +kernel
theorem dX2_readBinary_4 : decode cX2_readBinary 4 = .ok (.land, 1) := by decide +kernel
theorem dX2_readBinary_5 : decode cX2_readBinary 5 = .ok (.ldc2_w 43, 3) := by decide +kernel
theorem dX2_readBinary_8 : decode cX2_readBinary 8 = .ok (.lcmp, 1) := by decide +kernel
theorem dX2_readBinary_9 : decode cX2_readBinary 9 = .ok (.ifCond .ne 7, 3) := by decide +kernel
theorem dX2_readBinary_12 : decode cX2_readBinary 12 = .ok (.iconst 1, 1) := by decide +kernel
theorem dX2_readBinary_13 : decode cX2_readBinary 13 = .ok (.goto 4, 3) := by decide +kernel
theorem dX2_readBinary_16 : decode cX2_readBinary 16 = .ok (.iconst 0, 1) := by decide +kernel
theorem dX2_readBinary_17 : decode cX2_readBinary 17 = .ok (.istore 4, 2) := by decide +kernel
theorem dX2_readBinary_19 : decode cX2_readBinary 19 = .ok (.lload_n 2, 1) := by decide +kernel
theorem dX2_readBinary_20 : decode cX2_readBinary 20 = .ok (.iload 4, 2) := by decide +kernel
theorem dX2_readBinary_22 : decode cX2_readBinary 22 = .ok (.ifCond .eq 8, 3) := by decide +kernel
theorem dX2_readBinary_25 : decode cX2_readBinary 25 = .ok (.bipush 51, 2) := by decide +kernel
theorem dX2_readBinary_27 : decode cX2_readBinary 27 = .ok (.goto 5, 3) := by decide +kernel
theorem dX2_readBinary_30 : decode cX2_readBinary 30 = .ok (.bipush 53, 2) := by decide +kernel
theorem dX2_readBinary_32 : decode cX2_readBinary 32 = .ok (.lushr, 1) := by decide +kernel
theorem dX2_readBinary_33 : decode cX2_readBinary 33 = .ok (.ldc2_w 81, 3) := by decide +kernel
theorem dX2_readBinary_36 : decode cX2_readBinary 36 = .ok (.land, 1) := by decide +kernel
theorem dX2_readBinary_37 : decode cX2_readBinary 37 = .ok (.l2i, 1) := by decide +kernel
theorem dX2_readBinary_38 : decode cX2_readBinary 38 = .ok (.istore 5, 2) := by decide +kernel
theorem dX2_readBinary_40 : decode cX2_readBinary 40 = .ok (.iload 4, 2) := by decide +kernel
theorem dX2_readBinary_42 : decode cX2_readBinary 42 = .ok (.ifCond .eq 15, 3) := by decide +kernel
theorem dX2_readBinary_45 : decode cX2_readBinary 45 = .ok (.ldc2_w 41, 3) := by decide +kernel
theorem dX2_readBinary_48 : decode cX2_readBinary 48 = .ok (.lload_n 2, 1) := by decide +kernel
theorem dX2_readBinary_49 : decode cX2_readBinary 49 = .ok (.ldc2_w 83, 3) := by decide +kernel
theorem dX2_readBinary_52 : decode cX2_readBinary 52 = .ok (.land, 1) := by decide +kernel
theorem dX2_readBinary_53 : decode cX2_readBinary 53 = .ok (.lor, 1) := by decide +kernel
theorem dX2_readBinary_54 : decode cX2_readBinary 54 = .ok (.goto 8, 3) := by decide +kernel
theorem dX2_readBinary_57 : decode cX2_readBinary 57 = .ok (.lload_n 2, 1) := by decide +kernel
theorem dX2_readBinary_58 : decode cX2_readBinary 58 = .ok (.ldc2_w 85, 3) := by decide +kernel
theorem dX2_readBinary_61 : decode cX2_readBinary 61 = .ok (.land, 1) := by decide +kernel
theorem dX2_readBinary_62 : decode cX2_readBinary 62 = .ok (.lstore 6, 2) := by decide +kernel
theorem dX2_readBinary_64 : decode cX2_readBinary 64 = .ok (.aload_n 0, 1) := by decide +kernel
theorem dX2_readBinary_65 : decode cX2_readBinary 65 = .ok (.iload_n 1, 1) := by decide +kernel
theorem dX2_readBinary_66 : decode cX2_readBinary 66 = .ok (.lload 6, 2) := by decide +kernel
theorem dX2_readBinary_68 : decode cX2_readBinary 68 = .ok (.ldc2_w 87, 3) := by decide +kernel
theorem dX2_readBinary_71 : decode cX2_readBinary 71 = .ok (.lcmp, 1) := by decide +kernel
theorem dX2_readBinary_72 : decode cX2_readBinary 72 = .ok (.ifCond .ge 8, 3) := by decide +kernel
theorem dX2_readBinary_75 : decode cX2_readBinary 75 = .ok (.lload 6, 2) := by decide +kernel
theorem dX2_readBinary_77 : decode cX2_readBinary 77 = .ok (.goto 4, 3) := by decide +kernel
theorem dX2_readBinary_80 : decode cX2_readBinary 80 = .ok (.lconst 0, 1) := by decide +kernel
theorem dX2_readBinary_81 : decode cX2_readBinary 81 = .ok (.iload 5, 2) := by decide +kernel
theorem dX2_readBinary_83 : decode cX2_readBinary 83 = .ok (.sipush (-398), 3) := by decide +kernel
theorem dX2_readBinary_86 : decode cX2_readBinary 86 = .ok (.iadd, 1) := by decide +kernel
theorem dX2_readBinary_87 : decode cX2_readBinary 87 = .ok (.invokevirtual 89, 3) := by decide +kernel
theorem dX2_readBinary_90 : decode cX2_readBinary 90 = .ok (.return_, 1) := by decide +kernel
theorem dX2_readDigits_0 : decode cX2_readDigits 0 = .ok (.lload_n 2, 1) := by decide +kernel
theorem dX2_readDigits_1 : decode cX2_readDigits 1 = .ok (.ldc2_w 43, 3) := by decide +kernel
theorem dX2_readDigits_4 : decode cX2_readDigits 4 = .ok (.land, 1) := by decide +kernel
theorem dX2_readDigits_5 : decode cX2_readDigits 5 = .ok (.ldc2_w 43, 3) := by decide +kernel
theorem dX2_readDigits_8 : decode cX2_readDigits 8 = .ok (.lcmp, 1) := by decide +kernel
theorem dX2_readDigits_9 : decode cX2_readDigits 9 = .ok (.ifCond .ne 7, 3) := by decide +kernel
theorem dX2_readDigits_12 : decode cX2_readDigits 12 = .ok (.iconst 1, 1) := by decide +kernel
theorem dX2_readDigits_13 : decode cX2_readDigits 13 = .ok (.goto 4, 3) := by decide +kernel
theorem dX2_readDigits_16 : decode cX2_readDigits 16 = .ok (.iconst 0, 1) := by decide +kernel
theorem dX2_readDigits_17 : decode cX2_readDigits 17 = .ok (.istore 4, 2) := by decide +kernel
theorem dX2_readDigits_19 : decode cX2_readDigits 19 = .ok (.lload_n 2, 1) := by decide +kernel
theorem dX2_readDigits_20 : decode cX2_readDigits 20 = .ok (.iload 4, 2) := by decide +kernel
theorem dX2_readDigits_22 : decode cX2_readDigits 22 = .ok (.ifCond .eq 8, 3) := by decide +kernel
theorem dX2_readDigits_25 : decode cX2_readDigits 25 = .ok (.bipush 59, 2) := by decide +kernel
theorem dX2_readDigits_27 : decode cX2_readDigits 27 = .ok (.goto 5, 3) := by decide +kernel
theorem dX2_readDigits_30 : decode cX2_readDigits 30 = .ok (.bipush 61, 2) := by decide +kernel
theorem dX2_readDigits_32 : decode cX2_readDigits 32 = .ok (.lushr, 1) := by decide +kernel
theorem dX2_readDigits_33 : decode cX2_readDigits 33 = .ok (.ldc2_w 93, 3) := by decide +kernel
theorem dX2_readDigits_36 : decode cX2_readDigits 36 = .ok (.land, 1) := by decide +kernel
theorem dX2_readDigits_37 : decode cX2_readDigits 37 = .ok (.l2i, 1) := by decide +kernel
theorem dX2_readDigits_38 : decode cX2_readDigits 38 = .ok (.istore 5, 2) := by decide +kernel
theorem dX2_readDigits_40 : decode cX2_readDigits 40 = .ok (.iload 4, 2) := by decide +kernel
theorem dX2_readDigits_42 : decode cX2_readDigits 42 = .ok (.ifCond .eq 16, 3) := by decide +kernel
theorem dX2_readDigits_45 : decode cX2_readDigits 45 = .ok (.ldc2_w 49, 3) := by decide +kernel
theorem dX2_readDigits_48 : decode cX2_readDigits 48 = .ok (.lload_n 2, 1) := by decide +kernel
theorem dX2_readDigits_49 : decode cX2_readDigits 49 = .ok (.bipush 58, 2) := by decide +kernel
theorem dX2_readDigits_51 : decode cX2_readDigits 51 = .ok (.lushr, 1) := by decide +kernel
theorem dX2_readDigits_52 : decode cX2_readDigits 52 = .ok (.lconst 1, 1) := by decide +kernel
theorem dX2_readDigits_53 : decode cX2_readDigits 53 = .ok (.land, 1) := by decide +kernel
theorem dX2_readDigits_54 : decode cX2_readDigits 54 = .ok (.lor, 1) := by decide +kernel
theorem dX2_readDigits_55 : decode cX2_readDigits 55 = .ok (.goto 11, 3) := by decide +kernel
theorem dX2_readDigits_58 : decode cX2_readDigits 58 = .ok (.lload_n 2, 1) := by decide +kernel
theorem dX2_readDigits_59 : decode cX2_readDigits 59 = .ok (.bipush 58, 2) := by decide +kernel
theorem dX2_readDigits_61 : decode cX2_readDigits 61 = .ok (.lushr, 1) := by decide +kernel
theorem dX2_readDigits_62 : decode cX2_readDigits 62 = .ok (.ldc2_w 95, 3) := by decide +kernel
theorem dX2_readDigits_65 : decode cX2_readDigits 65 = .ok (.land, 1) := by decide +kernel
theorem dX2_readDigits_66 : decode cX2_readDigits 66 = .ok (.lstore 6, 2) := by decide +kernel
theorem dX2_readDigits_68 : decode cX2_readDigits 68 = .ok (.iconst 4, 1) := by decide +kernel
theorem dX2_readDigits_69 : decode cX2_readDigits 69 = .ok (.istore 8, 2) := by decide +kernel
theorem dX2_readDigits_71 : decode cX2_readDigits 71 = .ok (.iload 8, 2) := by decide +kernel
theorem dX2_readDigits_73 : decode cX2_readDigits 73 = .ok (.ifCond .lt 34, 3) := by decide +kernel
theorem dX2_readDigits_76 : decode cX2_readDigits 76 = .ok (.lload 6, 2) := by decide +kernel
theorem dX2_readDigits_78 : decode cX2_readDigits 78 = .ok (.ldc2_w 57, 3) := by decide +kernel
theorem dX2_readDigits_81 : decode cX2_readDigits 81 = .ok (.lmul, 1) := by decide +kernel
theorem dX2_readDigits_82 : decode cX2_readDigits 82 = .ok (.lload_n 2, 1) := by decide +kernel
theorem dX2_readDigits_83 : decode cX2_readDigits 83 = .ok (.bipush 10, 2) := by decide +kernel
theorem dX2_readDigits_85 : decode cX2_readDigits 85 = .ok (.iload 8, 2) := by decide +kernel
theorem dX2_readDigits_87 : decode cX2_readDigits 87 = .ok (.imul, 1) := by decide +kernel
theorem dX2_readDigits_88 : decode cX2_readDigits 88 = .ok (.lushr, 1) := by decide +kernel
theorem dX2_readDigits_89 : decode cX2_readDigits 89 = .ok (.ldc2_w 81, 3) := by decide +kernel
theorem dX2_readDigits_92 : decode cX2_readDigits 92 = .ok (.land, 1) := by decide +kernel
theorem dX2_readDigits_93 : decode cX2_readDigits 93 = .ok (.l2i, 1) := by decide +kernel
theorem dX2_readDigits_94 : decode cX2_readDigits 94 = .ok (.invokestatic 97, 3) := by decide +kernel
theorem dX2_readDigits_97 : decode cX2_readDigits 97 = .ok (.i2l, 1) := by decide +kernel
theorem dX2_readDigits_98 : decode cX2_readDigits 98 = .ok (.ladd, 1) := by decide +kernel
theorem dX2_readDigits_99 : decode cX2_readDigits 99 = .ok (.lstore 6, 2) := by decide +kernel
theorem dX2_readDigits_101 : decode cX2_readDigits 101 = .ok (.iinc 8 (-1), 3) := by decide +kernel
theorem dX2_readDigits_104 : decode cX2_readDigits 104 = .ok (.goto (-33), 3) := by decide +kernel
theorem dX2_readDigits_107 : decode cX2_readDigits 107 = .ok (.iload 5, 2) := by decide +kernel
theorem dX2_readDigits_109 : decode cX2_readDigits 109 = .ok (.sipush 256, 3) := by decide +kernel
theorem dX2_readDigits_112 : decode cX2_readDigits 112 = .ok (.imul, 1) := by decide +kernel
theorem dX2_readDigits_113 : decode cX2_readDigits 113 = .ok (.lload_n 2, 1) := by decide +kernel
theorem dX2_readDigits_114 : decode cX2_readDigits 114 = .ok (.bipush 50, 2) := by decide +kernel
theorem dX2_readDigits_116 : decode cX2_readDigits 116 = .ok (.lushr, 1) := by decide +kernel
theorem dX2_readDigits_117 : decode cX2_readDigits 117 = .ok (.ldc2_w 51, 3) := by decide +kernel
theorem dX2_readDigits_120 : decode cX2_readDigits 120 = .ok (.land, 1) := by decide +kernel
theorem dX2_readDigits_121 : decode cX2_readDigits 121 = .ok (.l2i, 1) := by decide +kernel
theorem dX2_readDigits_122 : decode cX2_readDigits 122 = .ok (.iadd, 1) := by decide +kernel
theorem dX2_readDigits_123 : decode cX2_readDigits 123 = .ok (.istore 8, 2) := by decide +kernel
theorem dX2_readDigits_125 : decode cX2_readDigits 125 = .ok (.aload_n 0, 1) := by decide +kernel
theorem dX2_readDigits_126 : decode cX2_readDigits 126 = .ok (.iload_n 1, 1) := by decide +kernel
theorem dX2_readDigits_127 : decode cX2_readDigits 127 = .ok (.lload 6, 2) := by decide +kernel
theorem dX2_readDigits_129 : decode cX2_readDigits 129 = .ok (.iload 8, 2) := by decide +kernel
theorem dX2_readDigits_131 : decode cX2_readDigits 131 = .ok (.sipush (-398), 3) := by decide +kernel
theorem dX2_readDigits_134 : decode cX2_readDigits 134 = .ok (.iadd, 1) := by decide +kernel
theorem dX2_readDigits_135 : decode cX2_readDigits 135 = .ok (.invokevirtual 89, 3) := by decide +kernel
theorem dX2_readDigits_138 : decode cX2_readDigits 138 = .ok (.return_, 1) := by decide +kernel
theorem dX2_digitsOfGroup_0 : decode cX2_digitsOfGroup 0 = .ok (.iload_n 0, 1) := by decide +kernel
theorem dX2_digitsOfGroup_1 : decode cX2_digitsOfGroup 1 = .ok (.bipush 7, 2) := by decide +kernel
theorem dX2_digitsOfGroup_3 : decode cX2_digitsOfGroup 3 = .ok (.ishr, 1) := by decide +kernel
theorem dX2_digitsOfGroup_4 : decode cX2_digitsOfGroup 4 = .ok (.bipush 7, 2) := by decide +kernel
theorem dX2_digitsOfGroup_6 : decode cX2_digitsOfGroup 6 = .ok (.iand, 1) := by decide +kernel
theorem dX2_digitsOfGroup_7 : decode cX2_digitsOfGroup 7 = .ok (.istore_n 1, 1) := by decide +kernel
theorem dX2_digitsOfGroup_8 : decode cX2_digitsOfGroup 8 = .ok (.iload_n 0, 1) := by decide +kernel
theorem dX2_digitsOfGroup_9 : decode cX2_digitsOfGroup 9 = .ok (.iconst 4, 1) := by decide +kernel
theorem dX2_digitsOfGroup_10 : decode cX2_digitsOfGroup 10 = .ok (.ishr, 1) := by decide +kernel
theorem dX2_digitsOfGroup_11 : decode cX2_digitsOfGroup 11 = .ok (.bipush 7, 2) := by decide +kernel
theorem dX2_digitsOfGroup_13 : decode cX2_digitsOfGroup 13 = .ok (.iand, 1) := by decide +kernel
theorem dX2_digitsOfGroup_14 : decode cX2_digitsOfGroup 14 = .ok (.istore_n 2, 1) := by decide +kernel
theorem dX2_digitsOfGroup_15 : decode cX2_digitsOfGroup 15 = .ok (.iload_n 0, 1) := by decide +kernel
theorem dX2_digitsOfGroup_16 : decode cX2_digitsOfGroup 16 = .ok (.iconst 1, 1) := by decide +kernel
theorem dX2_digitsOfGroup_17 : decode cX2_digitsOfGroup 17 = .ok (.iand, 1) := by decide +kernel
theorem dX2_digitsOfGroup_18 : decode cX2_digitsOfGroup 18 = .ok (.istore_n 3, 1) := by decide +kernel
theorem dX2_digitsOfGroup_19 : decode cX2_digitsOfGroup 19 = .ok (.iload_n 0, 1) := by decide +kernel
theorem dX2_digitsOfGroup_20 : decode cX2_digitsOfGroup 20 = .ok (.bipush 8, 2) := by decide +kernel
theorem dX2_digitsOfGroup_22 : decode cX2_digitsOfGroup 22 = .ok (.iand, 1) := by decide +kernel
theorem dX2_digitsOfGroup_23 : decode cX2_digitsOfGroup 23 = .ok (.ifCond .ne 13, 3) := by decide +kernel
theorem dX2_digitsOfGroup_26 : decode cX2_digitsOfGroup 26 = .ok (.iload_n 1, 1) := by decide +kernel
theorem dX2_digitsOfGroup_27 : decode cX2_digitsOfGroup 27 = .ok (.iload_n 2, 1) := by decide +kernel
theorem dX2_digitsOfGroup_28 : decode cX2_digitsOfGroup 28 = .ok (.iload_n 0, 1) := by decide +kernel
theorem dX2_digitsOfGroup_29 : decode cX2_digitsOfGroup 29 = .ok (.bipush 7, 2) := by decide +kernel
theorem dX2_digitsOfGroup_31 : decode cX2_digitsOfGroup 31 = .ok (.iand, 1) := by decide +kernel
theorem dX2_digitsOfGroup_32 : decode cX2_digitsOfGroup 32 = .ok (.invokestatic 101, 3) := by decide +kernel
theorem dX2_digitsOfGroup_35 : decode cX2_digitsOfGroup 35 = .ok (.ireturn, 1) := by decide +kernel
theorem dX2_digitsOfGroup_36 : decode cX2_digitsOfGroup 36 = .ok (.iload_n 0, 1) := by decide +kernel
theorem dX2_digitsOfGroup_37 : decode cX2_digitsOfGroup 37 = .ok (.iconst 1, 1) := by decide +kernel
theorem dX2_digitsOfGroup_38 : decode cX2_digitsOfGroup 38 = .ok (.ishr, 1) := by decide +kernel
theorem dX2_digitsOfGroup_39 : decode cX2_digitsOfGroup 39 = .ok (.iconst 3, 1) := by decide +kernel
theorem dX2_digitsOfGroup_40 : decode cX2_digitsOfGroup 40 = .ok (.iand, 1) := by decide +kernel
theorem dX2_digitsOfGroup_41 : decode cX2_digitsOfGroup 41 = .ok (.tableswitch 71 0 2 #[27, 37, 54], 27) := by decide +kernel
theorem dX2_digitsOfGroup_68 : decode cX2_digitsOfGroup 68 = .ok (.iload_n 1, 1) := by decide +kernel
theorem dX2_digitsOfGroup_69 : decode cX2_digitsOfGroup 69 = .ok (.iload_n 2, 1) := by decide +kernel
theorem dX2_digitsOfGroup_70 : decode cX2_digitsOfGroup 70 = .ok (.bipush 8, 2) := by decide +kernel
theorem dX2_digitsOfGroup_72 : decode cX2_digitsOfGroup 72 = .ok (.iload_n 3, 1) := by decide +kernel
theorem dX2_digitsOfGroup_73 : decode cX2_digitsOfGroup 73 = .ok (.ior, 1) := by decide +kernel
theorem dX2_digitsOfGroup_74 : decode cX2_digitsOfGroup 74 = .ok (.invokestatic 101, 3) := by decide +kernel
theorem dX2_digitsOfGroup_77 : decode cX2_digitsOfGroup 77 = .ok (.ireturn, 1) := by decide +kernel
theorem dX2_digitsOfGroup_78 : decode cX2_digitsOfGroup 78 = .ok (.iload_n 1, 1) := by decide +kernel
theorem dX2_digitsOfGroup_79 : decode cX2_digitsOfGroup 79 = .ok (.bipush 8, 2) := by decide +kernel
theorem dX2_digitsOfGroup_81 : decode cX2_digitsOfGroup 81 = .ok (.iload_n 2, 1) := by decide +kernel
theorem dX2_digitsOfGroup_82 : decode cX2_digitsOfGroup 82 = .ok (.iconst 1, 1) := by decide +kernel
theorem dX2_digitsOfGroup_83 : decode cX2_digitsOfGroup 83 = .ok (.iand, 1) := by decide +kernel
theorem dX2_digitsOfGroup_84 : decode cX2_digitsOfGroup 84 = .ok (.ior, 1) := by decide +kernel
theorem dX2_digitsOfGroup_85 : decode cX2_digitsOfGroup 85 = .ok (.iload_n 2, 1) := by decide +kernel
theorem dX2_digitsOfGroup_86 : decode cX2_digitsOfGroup 86 = .ok (.bipush 6, 2) := by decide +kernel
theorem dX2_digitsOfGroup_88 : decode cX2_digitsOfGroup 88 = .ok (.iand, 1) := by decide +kernel
theorem dX2_digitsOfGroup_89 : decode cX2_digitsOfGroup 89 = .ok (.iload_n 3, 1) := by decide +kernel
theorem dX2_digitsOfGroup_90 : decode cX2_digitsOfGroup 90 = .ok (.ior, 1) := by decide +kernel
theorem dX2_digitsOfGroup_91 : decode cX2_digitsOfGroup 91 = .ok (.invokestatic 101, 3) := by decide +kernel
theorem dX2_digitsOfGroup_94 : decode cX2_digitsOfGroup 94 = .ok (.ireturn, 1) := by decide +kernel
theorem dX2_digitsOfGroup_95 : decode cX2_digitsOfGroup 95 = .ok (.bipush 8, 2) := by decide +kernel
theorem dX2_digitsOfGroup_97 : decode cX2_digitsOfGroup 97 = .ok (.iload_n 1, 1) := by decide +kernel
theorem dX2_digitsOfGroup_98 : decode cX2_digitsOfGroup 98 = .ok (.iconst 1, 1) := by decide +kernel
theorem dX2_digitsOfGroup_99 : decode cX2_digitsOfGroup 99 = .ok (.iand, 1) := by decide +kernel
theorem dX2_digitsOfGroup_100 : decode cX2_digitsOfGroup 100 = .ok (.ior, 1) := by decide +kernel
theorem dX2_digitsOfGroup_101 : decode cX2_digitsOfGroup 101 = .ok (.iload_n 2, 1) := by decide +kernel
theorem dX2_digitsOfGroup_102 : decode cX2_digitsOfGroup 102 = .ok (.iload_n 1, 1) := by decide +kernel
theorem dX2_digitsOfGroup_103 : decode cX2_digitsOfGroup 103 = .ok (.bipush 6, 2) := by decide +kernel
theorem dX2_digitsOfGroup_105 : decode cX2_digitsOfGroup 105 = .ok (.iand, 1) := by decide +kernel
theorem dX2_digitsOfGroup_106 : decode cX2_digitsOfGroup 106 = .ok (.iload_n 3, 1) := by decide +kernel
theorem dX2_digitsOfGroup_107 : decode cX2_digitsOfGroup 107 = .ok (.ior, 1) := by decide +kernel
theorem dX2_digitsOfGroup_108 : decode cX2_digitsOfGroup 108 = .ok (.invokestatic 101, 3) := by decide +kernel
theorem dX2_digitsOfGroup_111 : decode cX2_digitsOfGroup 111 = .ok (.ireturn, 1) := by decide +kernel
theorem dX2_digitsOfGroup_112 : decode cX2_digitsOfGroup 112 = .ok (.iload_n 1, 1) := by decide +kernel
theorem dX2_digitsOfGroup_113 : decode cX2_digitsOfGroup 113 = .ok (.iload_n 2, 1) := by decide +kernel
theorem dX2_digitsOfGroup_114 : decode cX2_digitsOfGroup 114 = .ok (.iload_n 3, 1) := by decide +kernel
theorem dX2_digitsOfGroup_115 : decode cX2_digitsOfGroup 115 = .ok (.invokestatic 104, 3) := by decide +kernel
theorem dX2_digitsOfGroup_118 : decode cX2_digitsOfGroup 118 = .ok (.ireturn, 1) := by decide +kernel
theorem dX2_digitsOfGreatGroup_0 : decode cX2_digitsOfGreatGroup 0 = .ok (.iload_n 1, 1) := by decide +kernel
theorem dX2_digitsOfGreatGroup_1 : decode cX2_digitsOfGreatGroup 1 = .ok (.iconst 1, 1) := by decide +kernel
theorem dX2_digitsOfGreatGroup_2 : decode cX2_digitsOfGreatGroup 2 = .ok (.ishr, 1) := by decide +kernel
theorem dX2_digitsOfGreatGroup_3 : decode cX2_digitsOfGreatGroup 3 = .ok (.tableswitch 84 0 2 #[25, 47, 69], 25) := by decide +kernel
theorem dX2_digitsOfGreatGroup_28 : decode cX2_digitsOfGreatGroup 28 = .ok (.bipush 8, 2) := by decide +kernel
theorem dX2_digitsOfGreatGroup_30 : decode cX2_digitsOfGreatGroup 30 = .ok (.iload_n 0, 1) := by decide +kernel
theorem dX2_digitsOfGreatGroup_31 : decode cX2_digitsOfGreatGroup 31 = .ok (.iconst 1, 1) := by decide +kernel
theorem dX2_digitsOfGreatGroup_32 : decode cX2_digitsOfGreatGroup 32 = .ok (.iand, 1) := by decide +kernel
theorem dX2_digitsOfGreatGroup_33 : decode cX2_digitsOfGreatGroup 33 = .ok (.ior, 1) := by decide +kernel
theorem dX2_digitsOfGreatGroup_34 : decode cX2_digitsOfGreatGroup 34 = .ok (.bipush 8, 2) := by decide +kernel
theorem dX2_digitsOfGreatGroup_36 : decode cX2_digitsOfGreatGroup 36 = .ok (.iload_n 1, 1) := by decide +kernel
theorem dX2_digitsOfGreatGroup_37 : decode cX2_digitsOfGreatGroup 37 = .ok (.iconst 1, 1) := by decide +kernel
theorem dX2_digitsOfGreatGroup_38 : decode cX2_digitsOfGreatGroup 38 = .ok (.iand, 1) := by decide +kernel
theorem dX2_digitsOfGreatGroup_39 : decode cX2_digitsOfGreatGroup 39 = .ok (.ior, 1) := by decide +kernel
theorem dX2_digitsOfGreatGroup_40 : decode cX2_digitsOfGreatGroup 40 = .ok (.iload_n 0, 1) := by decide +kernel
theorem dX2_digitsOfGreatGroup_41 : decode cX2_digitsOfGreatGroup 41 = .ok (.bipush 6, 2) := by decide +kernel
theorem dX2_digitsOfGreatGroup_43 : decode cX2_digitsOfGreatGroup 43 = .ok (.iand, 1) := by decide +kernel
theorem dX2_digitsOfGreatGroup_44 : decode cX2_digitsOfGreatGroup 44 = .ok (.iload_n 2, 1) := by decide +kernel
theorem dX2_digitsOfGreatGroup_45 : decode cX2_digitsOfGreatGroup 45 = .ok (.ior, 1) := by decide +kernel
theorem dX2_digitsOfGreatGroup_46 : decode cX2_digitsOfGreatGroup 46 = .ok (.invokestatic 101, 3) := by decide +kernel
theorem dX2_digitsOfGreatGroup_49 : decode cX2_digitsOfGreatGroup 49 = .ok (.ireturn, 1) := by decide +kernel
theorem dX2_digitsOfGreatGroup_50 : decode cX2_digitsOfGreatGroup 50 = .ok (.bipush 8, 2) := by decide +kernel
theorem dX2_digitsOfGreatGroup_52 : decode cX2_digitsOfGreatGroup 52 = .ok (.iload_n 0, 1) := by decide +kernel
theorem dX2_digitsOfGreatGroup_53 : decode cX2_digitsOfGreatGroup 53 = .ok (.iconst 1, 1) := by decide +kernel
theorem dX2_digitsOfGreatGroup_54 : decode cX2_digitsOfGreatGroup 54 = .ok (.iand, 1) := by decide +kernel
theorem dX2_digitsOfGreatGroup_55 : decode cX2_digitsOfGreatGroup 55 = .ok (.ior, 1) := by decide +kernel
theorem dX2_digitsOfGreatGroup_56 : decode cX2_digitsOfGreatGroup 56 = .ok (.iload_n 0, 1) := by decide +kernel
theorem dX2_digitsOfGreatGroup_57 : decode cX2_digitsOfGreatGroup 57 = .ok (.bipush 6, 2) := by decide +kernel
theorem dX2_digitsOfGreatGroup_59 : decode cX2_digitsOfGreatGroup 59 = .ok (.iand, 1) := by decide +kernel
theorem dX2_digitsOfGreatGroup_60 : decode cX2_digitsOfGreatGroup 60 = .ok (.iload_n 1, 1) := by decide +kernel
theorem dX2_digitsOfGreatGroup_61 : decode cX2_digitsOfGreatGroup 61 = .ok (.iconst 1, 1) := by decide +kernel
theorem dX2_digitsOfGreatGroup_62 : decode cX2_digitsOfGreatGroup 62 = .ok (.iand, 1) := by decide +kernel
theorem dX2_digitsOfGreatGroup_63 : decode cX2_digitsOfGreatGroup 63 = .ok (.ior, 1) := by decide +kernel
theorem dX2_digitsOfGreatGroup_64 : decode cX2_digitsOfGreatGroup 64 = .ok (.bipush 8, 2) := by decide +kernel
theorem dX2_digitsOfGreatGroup_66 : decode cX2_digitsOfGreatGroup 66 = .ok (.iload_n 2, 1) := by decide +kernel
theorem dX2_digitsOfGreatGroup_67 : decode cX2_digitsOfGreatGroup 67 = .ok (.ior, 1) := by decide +kernel
theorem dX2_digitsOfGreatGroup_68 : decode cX2_digitsOfGreatGroup 68 = .ok (.invokestatic 101, 3) := by decide +kernel
theorem dX2_digitsOfGreatGroup_71 : decode cX2_digitsOfGreatGroup 71 = .ok (.ireturn, 1) := by decide +kernel
theorem dX2_digitsOfGreatGroup_72 : decode cX2_digitsOfGreatGroup 72 = .ok (.iload_n 0, 1) := by decide +kernel
theorem dX2_digitsOfGreatGroup_73 : decode cX2_digitsOfGreatGroup 73 = .ok (.bipush 8, 2) := by decide +kernel
theorem dX2_digitsOfGreatGroup_75 : decode cX2_digitsOfGreatGroup 75 = .ok (.iload_n 1, 1) := by decide +kernel
theorem dX2_digitsOfGreatGroup_76 : decode cX2_digitsOfGreatGroup 76 = .ok (.iconst 1, 1) := by decide +kernel
theorem dX2_digitsOfGreatGroup_77 : decode cX2_digitsOfGreatGroup 77 = .ok (.iand, 1) := by decide +kernel
theorem dX2_digitsOfGreatGroup_78 : decode cX2_digitsOfGreatGroup 78 = .ok (.ior, 1) := by decide +kernel
theorem dX2_digitsOfGreatGroup_79 : decode cX2_digitsOfGreatGroup 79 = .ok (.bipush 8, 2) := by decide +kernel
theorem dX2_digitsOfGreatGroup_81 : decode cX2_digitsOfGreatGroup 81 = .ok (.iload_n 2, 1) := by decide +kernel
theorem dX2_digitsOfGreatGroup_82 : decode cX2_digitsOfGreatGroup 82 = .ok (.ior, 1) := by decide +kernel
theorem dX2_digitsOfGreatGroup_83 : decode cX2_digitsOfGreatGroup 83 = .ok (.invokestatic 101, 3) := by decide +kernel
theorem dX2_digitsOfGreatGroup_86 : decode cX2_digitsOfGreatGroup 86 = .ok (.ireturn, 1) := by decide +kernel
theorem dX2_digitsOfGreatGroup_87 : decode cX2_digitsOfGreatGroup 87 = .ok (.bipush 8, 2) := by decide +kernel
theorem dX2_digitsOfGreatGroup_89 : decode cX2_digitsOfGreatGroup 89 = .ok (.iload_n 0, 1) := by decide +kernel
theorem dX2_digitsOfGreatGroup_90 : decode cX2_digitsOfGreatGroup 90 = .ok (.iconst 1, 1) := by decide +kernel
theorem dX2_digitsOfGreatGroup_91 : decode cX2_digitsOfGreatGroup 91 = .ok (.iand, 1) := by decide +kernel
theorem dX2_digitsOfGreatGroup_92 : decode cX2_digitsOfGreatGroup 92 = .ok (.ior, 1) := by decide +kernel
theorem dX2_digitsOfGreatGroup_93 : decode cX2_digitsOfGreatGroup 93 = .ok (.bipush 8, 2) := by decide +kernel
theorem dX2_digitsOfGreatGroup_95 : decode cX2_digitsOfGreatGroup 95 = .ok (.iload_n 1, 1) := by decide +kernel
theorem dX2_digitsOfGreatGroup_96 : decode cX2_digitsOfGreatGroup 96 = .ok (.iconst 1, 1) := by decide +kernel
theorem dX2_digitsOfGreatGroup_97 : decode cX2_digitsOfGreatGroup 97 = .ok (.iand, 1) := by decide +kernel
theorem dX2_digitsOfGreatGroup_98 : decode cX2_digitsOfGreatGroup 98 = .ok (.ior, 1) := by decide +kernel
theorem dX2_digitsOfGreatGroup_99 : decode cX2_digitsOfGreatGroup 99 = .ok (.bipush 8, 2) := by decide +kernel
theorem dX2_digitsOfGreatGroup_101 : decode cX2_digitsOfGreatGroup 101 = .ok (.iload_n 2, 1) := by decide +kernel
theorem dX2_digitsOfGreatGroup_102 : decode cX2_digitsOfGreatGroup 102 = .ok (.ior, 1) := by decide +kernel
theorem dX2_digitsOfGreatGroup_103 : decode cX2_digitsOfGreatGroup 103 = .ok (.invokestatic 101, 3) := by decide +kernel
theorem dX2_digitsOfGreatGroup_106 : decode cX2_digitsOfGreatGroup 106 = .ok (.ireturn, 1) := by decide +kernel
theorem dX2_three_0 : decode cX2_three 0 = .ok (.iload_n 0, 1) := by decide +kernel
theorem dX2_three_1 : decode cX2_three 1 = .ok (.bipush 100, 2) := by decide +kernel
theorem dX2_three_3 : decode cX2_three 3 = .ok (.imul, 1) := by decide +kernel
theorem dX2_three_4 : decode cX2_three 4 = .ok (.iload_n 1, 1) := by decide +kernel
theorem dX2_three_5 : decode cX2_three 5 = .ok (.bipush 10, 2) := by decide +kernel
theorem dX2_three_7 : decode cX2_three 7 = .ok (.imul, 1) := by decide +kernel
theorem dX2_three_8 : decode cX2_three 8 = .ok (.iadd, 1) := by decide +kernel
theorem dX2_three_9 : decode cX2_three 9 = .ok (.iload_n 2, 1) := by decide +kernel
theorem dX2_three_10 : decode cX2_three 10 = .ok (.iadd, 1) := by decide +kernel
theorem dX2_three_11 : decode cX2_three 11 = .ok (.ireturn, 1) := by decide +kernel
theorem dX3_init_0 : decode cX3_init 0 = .ok (.aload_n 0, 1) := by decide +kernel
theorem dX3_init_1 : decode cX3_init 1 = .ok (.invokespecial 1, 3) := by decide +kernel
theorem dX3_init_4 : decode cX3_init 4 = .ok (.aload_n 0, 1) := by decide +kernel
theorem dX3_init_5 : decode cX3_init 5 = .ok (.bipush 8, 2) := by decide +kernel
theorem dX3_init_7 : decode cX3_init 7 = .ok (.anewarray 9, 3) := by decide +kernel
theorem dX3_init_10 : decode cX3_init 10 = .ok (.putfield 11, 3) := by decide +kernel
theorem dX3_init_13 : decode cX3_init 13 = .ok (.iconst 0, 1) := by decide +kernel
theorem dX3_init_14 : decode cX3_init 14 = .ok (.istore_n 1, 1) := by decide +kernel
theorem dX3_init_15 : decode cX3_init 15 = .ok (.iload_n 1, 1) := by decide +kernel
theorem dX3_init_16 : decode cX3_init 16 = .ok (.bipush 8, 2) := by decide +kernel
theorem dX3_init_18 : decode cX3_init 18 = .ok (.if_icmp .ge 22, 3) := by decide +kernel
theorem dX3_init_21 : decode cX3_init 21 = .ok (.aload_n 0, 1) := by decide +kernel
theorem dX3_init_22 : decode cX3_init 22 = .ok (.getfield 11, 3) := by decide +kernel
theorem dX3_init_25 : decode cX3_init 25 = .ok (.iload_n 1, 1) := by decide +kernel
theorem dX3_init_26 : decode cX3_init 26 = .ok (.new 9, 3) := by decide +kernel
theorem dX3_init_29 : decode cX3_init 29 = .ok (.dup, 1) := by decide +kernel
theorem dX3_init_30 : decode cX3_init 30 = .ok (.invokespecial 15, 3) := by decide +kernel
theorem dX3_init_33 : decode cX3_init 33 = .ok (.aastore, 1) := by decide +kernel
theorem dX3_init_34 : decode cX3_init 34 = .ok (.iinc 1 1, 3) := by decide +kernel
theorem dX3_init_37 : decode cX3_init 37 = .ok (.goto (-22), 3) := by decide +kernel
theorem dX3_init_40 : decode cX3_init 40 = .ok (.aload_n 0, 1) := by decide +kernel
theorem dX3_init_41 : decode cX3_init 41 = .ok (.new 9, 3) := by decide +kernel
theorem dX3_init_44 : decode cX3_init 44 = .ok (.dup, 1) := by decide +kernel
theorem dX3_init_45 : decode cX3_init 45 = .ok (.invokespecial 15, 3) := by decide +kernel
theorem dX3_init_48 : decode cX3_init 48 = .ok (.putfield 16, 3) := by decide +kernel
theorem dX3_init_51 : decode cX3_init 51 = .ok (.aload_n 0, 1) := by decide +kernel
theorem dX3_init_52 : decode cX3_init 52 = .ok (.new 20, 3) := by decide +kernel
theorem dX3_init_55 : decode cX3_init 55 = .ok (.dup, 1) := by decide +kernel
theorem dX3_init_56 : decode cX3_init 56 = .ok (.invokespecial 22, 3) := by decide +kernel
theorem dX3_init_59 : decode cX3_init 59 = .ok (.putfield 23, 3) := by decide +kernel
theorem dX3_init_62 : decode cX3_init 62 = .ok (.aload_n 0, 1) := by decide +kernel
theorem dX3_init_63 : decode cX3_init 63 = .ok (.iconst 0, 1) := by decide +kernel
theorem dX3_init_64 : decode cX3_init 64 = .ok (.putfield 27, 3) := by decide +kernel
theorem dX3_init_67 : decode cX3_init 67 = .ok (.aload_n 0, 1) := by decide +kernel
theorem dX3_init_68 : decode cX3_init 68 = .ok (.iconst 0, 1) := by decide +kernel
theorem dX3_init_69 : decode cX3_init 69 = .ok (.putfield 31, 3) := by decide +kernel
theorem dX3_init_72 : decode cX3_init 72 = .ok (.aload_n 0, 1) := by decide +kernel
theorem dX3_init_73 : decode cX3_init 73 = .ok (.iconst 0, 1) := by decide +kernel
theorem dX3_init_74 : decode cX3_init 74 = .ok (.putfield 34, 3) := by decide +kernel
theorem dX3_init_77 : decode cX3_init 77 = .ok (.aload_n 0, 1) := by decide +kernel
theorem dX3_init_78 : decode cX3_init 78 = .ok (.iconst 0, 1) := by decide +kernel
theorem dX3_init_79 : decode cX3_init 79 = .ok (.putfield 37, 3) := by decide +kernel
theorem dX3_init_82 : decode cX3_init 82 = .ok (.return_, 1) := by decide +kernel
theorem dX3_put_0 : decode cX3_put 0 = .ok (.iload_n 1, 1) := by decide +kernel
theorem dX3_put_1 : decode cX3_put 1 = .ok (.invokestatic 40, 3) := by decide +kernel
theorem dX3_put_4 : decode cX3_put 4 = .ok (.lload_n 3, 1) := by decide +kernel
theorem dX3_put_5 : decode cX3_put 5 = .ok (.lconst 0, 1) := by decide +kernel
theorem dX3_put_6 : decode cX3_put 6 = .ok (.lcmp, 1) := by decide +kernel
theorem dX3_put_7 : decode cX3_put 7 = .ok (.ifCond .lt 11, 3) := by decide +kernel
theorem dX3_put_10 : decode cX3_put 10 = .ok (.lload_n 3, 1) := by decide +kernel
theorem dX3_put_11 : decode cX3_put 11 = .ok (.ldc2_w 44, 3) := by decide +kernel
theorem dX3_put_14 : decode cX3_put 14 = .ok (.lcmp, 1) := by decide +kernel
theorem dX3_put_15 : decode cX3_put 15 = .ok (.ifCond .lt 13, 3) := by decide +kernel
theorem dX3_put_18 : decode cX3_put 18 = .ok (.new 46, 3) := by decide +kernel
theorem dX3_put_21 : decode cX3_put 21 = .ok (.dup, 1) := by decide +kernel
theorem dX3_put_22 : decode cX3_put 22 = .ok (.ldc 48, 2) := by decide +kernel
theorem dX3_put_24 : decode cX3_put 24 = .ok (.invokespecial 50, 3) := by decide +kernel
theorem dX3_put_27 : decode cX3_put 27 = .ok (.athrow, 1) := by decide +kernel
theorem dX3_put_28 : decode cX3_put 28 = .ok (.iload 5, 2) := by decide +kernel
theorem dX3_put_30 : decode cX3_put 30 = .ok (.sipush (-398), 3) := by decide +kernel
theorem dX3_put_33 : decode cX3_put 33 = .ok (.if_icmp .lt 11, 3) := by decide +kernel
theorem dX3_put_36 : decode cX3_put 36 = .ok (.iload 5, 2) := by decide +kernel
theorem dX3_put_38 : decode cX3_put 38 = .ok (.sipush 369, 3) := by decide +kernel
theorem dX3_put_41 : decode cX3_put 41 = .ok (.if_icmp .le 13, 3) := by decide +kernel
theorem dX3_put_44 : decode cX3_put 44 = .ok (.new 46, 3) := by decide +kernel
theorem dX3_put_47 : decode cX3_put 47 = .ok (.dup, 1) := by decide +kernel
theorem dX3_put_48 : decode cX3_put 48 = .ok (.ldc 53, 2) := by decide +kernel
theorem dX3_put_50 : decode cX3_put 50 = .ok (.invokespecial 50, 3) := by decide +kernel
theorem dX3_put_53 : decode cX3_put 53 = .ok (.athrow, 1) := by decide +kernel
theorem dX3_put_54 : decode cX3_put 54 = .ok (.aload_n 0, 1) := by decide +kernel
theorem dX3_put_55 : decode cX3_put 55 = .ok (.getfield 11, 3) := by decide +kernel
theorem dX3_put_58 : decode cX3_put 58 = .ok (.iload_n 1, 1) := by decide +kernel
theorem dX3_put_59 : decode cX3_put 59 = .ok (.aaload, 1) := by decide +kernel
theorem dX3_put_60 : decode cX3_put 60 = .ok (.iload_n 2, 1) := by decide +kernel
theorem dX3_put_61 : decode cX3_put 61 = .ok (.lload_n 3, 1) := by decide +kernel
theorem dX3_put_62 : decode cX3_put 62 = .ok (.iload 5, 2) := by decide +kernel
theorem dX3_put_64 : decode cX3_put 64 = .ok (.invokevirtual 55, 3) := by decide +kernel
theorem dX3_put_67 : decode cX3_put 67 = .ok (.return_, 1) := by decide +kernel
theorem dX3_apply_0 : decode cX3_apply 0 = .ok (.iload_n 2, 1) := by decide +kernel
theorem dX3_apply_1 : decode cX3_apply 1 = .ok (.invokestatic 40, 3) := by decide +kernel
theorem dX3_apply_4 : decode cX3_apply 4 = .ok (.iload_n 3, 1) := by decide +kernel
theorem dX3_apply_5 : decode cX3_apply 5 = .ok (.invokestatic 40, 3) := by decide +kernel
theorem dX3_apply_8 : decode cX3_apply 8 = .ok (.iload 4, 2) := by decide +kernel
theorem dX3_apply_10 : decode cX3_apply 10 = .ok (.invokestatic 40, 3) := by decide +kernel
theorem dX3_apply_13 : decode cX3_apply 13 = .ok (.iload_n 1, 1) := by decide +kernel
theorem dX3_apply_14 : decode cX3_apply 14 = .ok (.ifCond .lt 9, 3) := by decide +kernel
theorem dX3_apply_17 : decode cX3_apply 17 = .ok (.iload_n 1, 1) := by decide +kernel
theorem dX3_apply_18 : decode cX3_apply 18 = .ok (.bipush 6, 2) := by decide +kernel
theorem dX3_apply_20 : decode cX3_apply 20 = .ok (.if_icmp .le 13, 3) := by decide +kernel
theorem dX3_apply_23 : decode cX3_apply 23 = .ok (.new 46, 3) := by decide +kernel
theorem dX3_apply_26 : decode cX3_apply 26 = .ok (.dup, 1) := by decide +kernel
theorem dX3_apply_27 : decode cX3_apply 27 = .ok (.ldc 59, 2) := by decide +kernel
theorem dX3_apply_29 : decode cX3_apply 29 = .ok (.invokespecial 50, 3) := by decide +kernel
theorem dX3_apply_32 : decode cX3_apply 32 = .ok (.athrow, 1) := by decide +kernel
theorem dX3_apply_33 : decode cX3_apply 33 = .ok (.aload_n 0, 1) := by decide +kernel
theorem dX3_apply_34 : decode cX3_apply 34 = .ok (.iload_n 1, 1) := by decide +kernel
theorem dX3_apply_35 : decode cX3_apply 35 = .ok (.iload_n 2, 1) := by decide +kernel
theorem dX3_apply_36 : decode cX3_apply 36 = .ok (.iload_n 3, 1) := by decide +kernel
theorem dX3_apply_37 : decode cX3_apply 37 = .ok (.iload 4, 2) := by decide +kernel
theorem dX3_apply_39 : decode cX3_apply 39 = .ok (.invokevirtual 61, 3) := by decide +kernel
theorem dX3_apply_42 : decode cX3_apply 42 = .ok (.ifCond .ne 13, 3) := by decide +kernel
theorem dX3_apply_45 : decode cX3_apply 45 = .ok (.new 65, 3) := by decide +kernel
theorem dX3_apply_48 : decode cX3_apply 48 = .ok (.dup, 1) := by decide +kernel
theorem dX3_apply_49 : decode cX3_apply 49 = .ok (.ldc 67, 2) := by decide +kernel
theorem dX3_apply_51 : decode cX3_apply 51 = .ok (.invokespecial 69, 3) := by decide +kernel
theorem dX3_apply_54 : decode cX3_apply 54 = .ok (.athrow, 1) := by decide +kernel
theorem dX3_apply_55 : decode cX3_apply 55 = .ok (.return_, 1) := by decide +kernel
theorem dX3_compare_0 : decode cX3_compare 0 = .ok (.iload_n 1, 1) := by decide +kernel
theorem dX3_compare_1 : decode cX3_compare 1 = .ok (.invokestatic 40, 3) := by decide +kernel
theorem dX3_compare_4 : decode cX3_compare 4 = .ok (.iload_n 2, 1) := by decide +kernel
theorem dX3_compare_5 : decode cX3_compare 5 = .ok (.invokestatic 40, 3) := by decide +kernel
theorem dX3_compare_8 : decode cX3_compare 8 = .ok (.aload_n 0, 1) := by decide +kernel
theorem dX3_compare_9 : decode cX3_compare 9 = .ok (.getfield 11, 3) := by decide +kernel
theorem dX3_compare_12 : decode cX3_compare 12 = .ok (.iload_n 1, 1) := by decide +kernel
theorem dX3_compare_13 : decode cX3_compare 13 = .ok (.aaload, 1) := by decide +kernel
theorem dX3_compare_14 : decode cX3_compare 14 = .ok (.getfield 70, 3) := by decide +kernel
theorem dX3_compare_17 : decode cX3_compare 17 = .ok (.iconst 2, 1) := by decide +kernel
theorem dX3_compare_18 : decode cX3_compare 18 = .ok (.if_icmp .eq 16, 3) := by decide +kernel
theorem dX3_compare_21 : decode cX3_compare 21 = .ok (.aload_n 0, 1) := by decide +kernel
theorem dX3_compare_22 : decode cX3_compare 22 = .ok (.getfield 11, 3) := by decide +kernel
theorem dX3_compare_25 : decode cX3_compare 25 = .ok (.iload_n 2, 1) := by decide +kernel
theorem dX3_compare_26 : decode cX3_compare 26 = .ok (.aaload, 1) := by decide +kernel
theorem dX3_compare_27 : decode cX3_compare 27 = .ok (.getfield 70, 3) := by decide +kernel
theorem dX3_compare_30 : decode cX3_compare 30 = .ok (.iconst 2, 1) := by decide +kernel
theorem dX3_compare_31 : decode cX3_compare 31 = .ok (.if_icmp .ne 5, 3) := by decide +kernel
theorem dX3_compare_34 : decode cX3_compare 34 = .ok (.iconst 2, 1) := by decide +kernel
theorem dX3_compare_35 : decode cX3_compare 35 = .ok (.ireturn, 1) := by decide +kernel
theorem dX3_compare_36 : decode cX3_compare 36 = .ok (.aload_n 0, 1) := by decide +kernel
theorem dX3_compare_37 : decode cX3_compare 37 = .ok (.getfield 11, 3) := by decide +kernel
theorem dX3_compare_40 : decode cX3_compare 40 = .ok (.iload_n 1, 1) := by decide +kernel
theorem dX3_compare_41 : decode cX3_compare 41 = .ok (.aaload, 1) := by decide +kernel
theorem dX3_compare_42 : decode cX3_compare 42 = .ok (.aload_n 0, 1) := by decide +kernel
theorem dX3_compare_43 : decode cX3_compare 43 = .ok (.getfield 11, 3) := by decide +kernel
theorem dX3_compare_46 : decode cX3_compare 46 = .ok (.iload_n 2, 1) := by decide +kernel
theorem dX3_compare_47 : decode cX3_compare 47 = .ok (.aaload, 1) := by decide +kernel
theorem dX3_compare_48 : decode cX3_compare 48 = .ok (.invokestatic 73, 3) := by decide +kernel
theorem dX3_compare_51 : decode cX3_compare 51 = .ok (.ireturn, 1) := by decide +kernel
theorem dX3_kind_0 : decode cX3_kind 0 = .ok (.iload_n 1, 1) := by decide +kernel
theorem dX3_kind_1 : decode cX3_kind 1 = .ok (.invokestatic 40, 3) := by decide +kernel
theorem dX3_kind_4 : decode cX3_kind 4 = .ok (.aload_n 0, 1) := by decide +kernel
theorem dX3_kind_5 : decode cX3_kind 5 = .ok (.getfield 11, 3) := by decide +kernel
theorem dX3_kind_8 : decode cX3_kind 8 = .ok (.iload_n 1, 1) := by decide +kernel
theorem dX3_kind_9 : decode cX3_kind 9 = .ok (.aaload, 1) := by decide +kernel
theorem dX3_kind_10 : decode cX3_kind 10 = .ok (.getfield 70, 3) := by decide +kernel
theorem dX3_kind_13 : decode cX3_kind 13 = .ok (.aload_n 0, 1) := by decide +kernel
theorem dX3_kind_14 : decode cX3_kind 14 = .ok (.getfield 11, 3) := by decide +kernel
theorem dX3_kind_17 : decode cX3_kind 17 = .ok (.iload_n 1, 1) := by decide +kernel
theorem dX3_kind_18 : decode cX3_kind 18 = .ok (.aaload, 1) := by decide +kernel
theorem dX3_kind_19 : decode cX3_kind 19 = .ok (.getfield 77, 3) := by decide +kernel
theorem dX3_kind_22 : decode cX3_kind 22 = .ok (.ifCond .eq 7, 3) := by decide +kernel
theorem dX3_kind_25 : decode cX3_kind 25 = .ok (.iconst 4, 1) := by decide +kernel
theorem dX3_kind_26 : decode cX3_kind 26 = .ok (.goto 4, 3) := by decide +kernel
theorem dX3_kind_29 : decode cX3_kind 29 = .ok (.iconst 0, 1) := by decide +kernel
theorem dX3_kind_30 : decode cX3_kind 30 = .ok (.iadd, 1) := by decide +kernel
theorem dX3_kind_31 : decode cX3_kind 31 = .ok (.ireturn, 1) := by decide +kernel
theorem dX3_coefficient_0 : decode cX3_coefficient 0 = .ok (.iload_n 1, 1) := by decide +kernel
theorem dX3_coefficient_1 : decode cX3_coefficient 1 = .ok (.invokestatic 40, 3) := by decide +kernel
theorem dX3_coefficient_4 : decode cX3_coefficient 4 = .ok (.aload_n 0, 1) := by decide +kernel
theorem dX3_coefficient_5 : decode cX3_coefficient 5 = .ok (.getfield 11, 3) := by decide +kernel
theorem dX3_coefficient_8 : decode cX3_coefficient 8 = .ok (.iload_n 1, 1) := by decide +kernel
theorem dX3_coefficient_9 : decode cX3_coefficient 9 = .ok (.aaload, 1) := by decide +kernel
theorem dX3_coefficient_10 : decode cX3_coefficient 10 = .ok (.getfield 81, 3) := by decide +kernel
theorem dX3_coefficient_13 : decode cX3_coefficient 13 = .ok (.lreturn, 1) := by decide +kernel
theorem dX3_exponent_0 : decode cX3_exponent 0 = .ok (.iload_n 1, 1) := by decide +kernel
theorem dX3_exponent_1 : decode cX3_exponent 1 = .ok (.invokestatic 40, 3) := by decide +kernel
theorem dX3_exponent_4 : decode cX3_exponent 4 = .ok (.aload_n 0, 1) := by decide +kernel
theorem dX3_exponent_5 : decode cX3_exponent 5 = .ok (.getfield 11, 3) := by decide +kernel
theorem dX3_exponent_8 : decode cX3_exponent 8 = .ok (.iload_n 1, 1) := by decide +kernel
theorem dX3_exponent_9 : decode cX3_exponent 9 = .ok (.aaload, 1) := by decide +kernel
theorem dX3_exponent_10 : decode cX3_exponent 10 = .ok (.getfield 85, 3) := by decide +kernel
theorem dX3_exponent_13 : decode cX3_exponent 13 = .ok (.ireturn, 1) := by decide +kernel
theorem dX3_pack_0 : decode cX3_pack 0 = .ok (.iload_n 1, 1) := by decide +kernel
theorem dX3_pack_1 : decode cX3_pack 1 = .ok (.invokestatic 40, 3) := by decide +kernel
theorem dX3_pack_4 : decode cX3_pack 4 = .ok (.iload_n 2, 1) := by decide +kernel
theorem dX3_pack_5 : decode cX3_pack 5 = .ok (.invokestatic 88, 3) := by decide +kernel
theorem dX3_pack_8 : decode cX3_pack 8 = .ok (.aload_n 0, 1) := by decide +kernel
theorem dX3_pack_9 : decode cX3_pack 9 = .ok (.getfield 11, 3) := by decide +kernel
theorem dX3_pack_12 : decode cX3_pack 12 = .ok (.iload_n 1, 1) := by decide +kernel
theorem dX3_pack_13 : decode cX3_pack 13 = .ok (.aaload, 1) := by decide +kernel
theorem dX3_pack_14 : decode cX3_pack 14 = .ok (.iload_n 2, 1) := by decide +kernel
theorem dX3_pack_15 : decode cX3_pack 15 = .ok (.iconst 1, 1) := by decide +kernel
theorem dX3_pack_16 : decode cX3_pack 16 = .ok (.if_icmp .ne 7, 3) := by decide +kernel
theorem dX3_pack_19 : decode cX3_pack 19 = .ok (.iconst 1, 1) := by decide +kernel
theorem dX3_pack_20 : decode cX3_pack 20 = .ok (.goto 4, 3) := by decide +kernel
theorem dX3_pack_23 : decode cX3_pack 23 = .ok (.iconst 0, 1) := by decide +kernel
theorem dX3_pack_24 : decode cX3_pack 24 = .ok (.invokestatic 91, 3) := by decide +kernel
theorem dX3_pack_27 : decode cX3_pack 27 = .ok (.lreturn, 1) := by decide +kernel
theorem dX3_unpack_0 : decode cX3_unpack 0 = .ok (.iload_n 1, 1) := by decide +kernel
theorem dX3_unpack_1 : decode cX3_unpack 1 = .ok (.invokestatic 40, 3) := by decide +kernel
theorem dX3_unpack_4 : decode cX3_unpack 4 = .ok (.iload_n 2, 1) := by decide +kernel
theorem dX3_unpack_5 : decode cX3_unpack 5 = .ok (.invokestatic 88, 3) := by decide +kernel
theorem dX3_unpack_8 : decode cX3_unpack 8 = .ok (.aload_n 0, 1) := by decide +kernel
theorem dX3_unpack_9 : decode cX3_unpack 9 = .ok (.getfield 11, 3) := by decide +kernel
theorem dX3_unpack_12 : decode cX3_unpack 12 = .ok (.iload_n 1, 1) := by decide +kernel
theorem dX3_unpack_13 : decode cX3_unpack 13 = .ok (.aaload, 1) := by decide +kernel
theorem dX3_unpack_14 : decode cX3_unpack 14 = .ok (.iload_n 2, 1) := by decide +kernel
theorem dX3_unpack_15 : decode cX3_unpack 15 = .ok (.iconst 1, 1) := by decide +kernel
theorem dX3_unpack_16 : decode cX3_unpack 16 = .ok (.if_icmp .ne 7, 3) := by decide +kernel
theorem dX3_unpack_19 : decode cX3_unpack 19 = .ok (.iconst 1, 1) := by decide +kernel
theorem dX3_unpack_20 : decode cX3_unpack 20 = .ok (.goto 4, 3) := by decide +kernel
theorem dX3_unpack_23 : decode cX3_unpack 23 = .ok (.iconst 0, 1) := by decide +kernel
theorem dX3_unpack_24 : decode cX3_unpack 24 = .ok (.lload_n 3, 1) := by decide +kernel
theorem dX3_unpack_25 : decode cX3_unpack 25 = .ok (.invokestatic 97, 3) := by decide +kernel
theorem dX3_unpack_28 : decode cX3_unpack 28 = .ok (.return_, 1) := by decide +kernel
theorem dX3_mode_0 : decode cX3_mode 0 = .ok (.iload_n 1, 1) := by decide +kernel
theorem dX3_mode_1 : decode cX3_mode 1 = .ok (.ifCond .lt 8, 3) := by decide +kernel
theorem dX3_mode_4 : decode cX3_mode 4 = .ok (.iload_n 1, 1) := by decide +kernel
theorem dX3_mode_5 : decode cX3_mode 5 = .ok (.iconst 4, 1) := by decide +kernel
theorem dX3_mode_6 : decode cX3_mode 6 = .ok (.if_icmp .le 13, 3) := by decide +kernel
theorem dX3_mode_9 : decode cX3_mode 9 = .ok (.new 46, 3) := by decide +kernel
theorem dX3_mode_12 : decode cX3_mode 12 = .ok (.dup, 1) := by decide +kernel
theorem dX3_mode_13 : decode cX3_mode 13 = .ok (.ldc 101, 2) := by decide +kernel
theorem dX3_mode_15 : decode cX3_mode 15 = .ok (.invokespecial 50, 3) := by decide +kernel
theorem dX3_mode_18 : decode cX3_mode 18 = .ok (.athrow, 1) := by decide +kernel
theorem dX3_mode_19 : decode cX3_mode 19 = .ok (.aload_n 0, 1) := by decide +kernel
theorem dX3_mode_20 : decode cX3_mode 20 = .ok (.iload_n 1, 1) := by decide +kernel
theorem dX3_mode_21 : decode cX3_mode 21 = .ok (.putfield 27, 3) := by decide +kernel
theorem dX3_mode_24 : decode cX3_mode 24 = .ok (.return_, 1) := by decide +kernel
theorem dX3_trap_0 : decode cX3_trap 0 = .ok (.iload_n 1, 1) := by decide +kernel
theorem dX3_trap_1 : decode cX3_trap 1 = .ok (.ifCond .lt 9, 3) := by decide +kernel
theorem dX3_trap_4 : decode cX3_trap 4 = .ok (.iload_n 1, 1) := by decide +kernel
theorem dX3_trap_5 : decode cX3_trap 5 = .ok (.bipush 31, 2) := by decide +kernel
theorem dX3_trap_7 : decode cX3_trap 7 = .ok (.if_icmp .le 13, 3) := by decide +kernel
theorem dX3_trap_10 : decode cX3_trap 10 = .ok (.new 46, 3) := by decide +kernel
theorem dX3_trap_13 : decode cX3_trap 13 = .ok (.dup, 1) := by decide +kernel
theorem dX3_trap_14 : decode cX3_trap 14 = .ok (.ldc 103, 2) := by decide +kernel
theorem dX3_trap_16 : decode cX3_trap 16 = .ok (.invokespecial 50, 3) := by decide +kernel
theorem dX3_trap_19 : decode cX3_trap 19 = .ok (.athrow, 1) := by decide +kernel
theorem dX3_trap_20 : decode cX3_trap 20 = .ok (.aload_n 0, 1) := by decide +kernel
theorem dX3_trap_21 : decode cX3_trap 21 = .ok (.iload_n 1, 1) := by decide +kernel
theorem dX3_trap_22 : decode cX3_trap 22 = .ok (.putfield 31, 3) := by decide +kernel
theorem dX3_trap_25 : decode cX3_trap 25 = .ok (.return_, 1) := by decide +kernel
theorem dX3_flags_0 : decode cX3_flags 0 = .ok (.aload_n 0, 1) := by decide +kernel
theorem dX3_flags_1 : decode cX3_flags 1 = .ok (.getfield 34, 3) := by decide +kernel
theorem dX3_flags_4 : decode cX3_flags 4 = .ok (.ireturn, 1) := by decide +kernel
theorem dX3_lower_0 : decode cX3_lower 0 = .ok (.aload_n 0, 1) := by decide +kernel
theorem dX3_lower_1 : decode cX3_lower 1 = .ok (.iconst 0, 1) := by decide +kernel
theorem dX3_lower_2 : decode cX3_lower 2 = .ok (.putfield 34, 3) := by decide +kernel
theorem dX3_lower_5 : decode cX3_lower 5 = .ok (.return_, 1) := by decide +kernel
theorem dX3_sum_0 : decode cX3_sum 0 = .ok (.iload_n 1, 1) := by decide +kernel
theorem dX3_sum_1 : decode cX3_sum 1 = .ok (.invokestatic 40, 3) := by decide +kernel
theorem dX3_sum_4 : decode cX3_sum 4 = .ok (.iload_n 2, 1) := by decide +kernel
theorem dX3_sum_5 : decode cX3_sum 5 = .ok (.invokestatic 40, 3) := by decide +kernel
theorem dX3_sum_8 : decode cX3_sum 8 = .ok (.iload_n 3, 1) := by decide +kernel
theorem dX3_sum_9 : decode cX3_sum 9 = .ok (.invokestatic 40, 3) := by decide +kernel
theorem dX3_sum_12 : decode cX3_sum 12 = .ok (.iconst 0, 1) := by decide +kernel
theorem dX3_sum_13 : decode cX3_sum 13 = .ok (.istore 4, 2) := by decide +kernel
theorem dX3_sum_15 : decode cX3_sum 15 = .ok (.iload_n 2, 1) := by decide +kernel
theorem dX3_sum_16 : decode cX3_sum 16 = .ok (.istore 5, 2) := by decide +kernel
theorem dX3_sum_18 : decode cX3_sum 18 = .ok (.iload 5, 2) := by decide +kernel
theorem dX3_sum_20 : decode cX3_sum 20 = .ok (.iload_n 3, 1) := by decide +kernel
theorem dX3_sum_21 : decode cX3_sum 21 = .ok (.if_icmp .gt 24, 3) := by decide +kernel
theorem dX3_sum_24 : decode cX3_sum 24 = .ok (.aload_n 0, 1) := by decide +kernel
theorem dX3_sum_25 : decode cX3_sum 25 = .ok (.iconst 0, 1) := by decide +kernel
theorem dX3_sum_26 : decode cX3_sum 26 = .ok (.iload_n 1, 1) := by decide +kernel
theorem dX3_sum_27 : decode cX3_sum 27 = .ok (.iload_n 1, 1) := by decide +kernel
theorem dX3_sum_28 : decode cX3_sum 28 = .ok (.iload 5, 2) := by decide +kernel
theorem dX3_sum_30 : decode cX3_sum 30 = .ok (.invokevirtual 61, 3) := by decide +kernel
theorem dX3_sum_33 : decode cX3_sum 33 = .ok (.ifCond .ne 6, 3) := by decide +kernel
theorem dX3_sum_36 : decode cX3_sum 36 = .ok (.iinc 4 1, 3) := by decide +kernel
theorem dX3_sum_39 : decode cX3_sum 39 = .ok (.iinc 5 1, 3) := by decide +kernel
theorem dX3_sum_42 : decode cX3_sum 42 = .ok (.goto (-24), 3) := by decide +kernel
theorem dX3_sum_45 : decode cX3_sum 45 = .ok (.iload 4, 2) := by decide +kernel
theorem dX3_sum_47 : decode cX3_sum 47 = .ok (.ireturn, 1) := by decide +kernel
theorem dX3_needRegister_0 : decode cX3_needRegister 0 = .ok (.iload_n 0, 1) := by decide +kernel
theorem dX3_needRegister_1 : decode cX3_needRegister 1 = .ok (.ifCond .lt 9, 3) := by decide +kernel
theorem dX3_needRegister_4 : decode cX3_needRegister 4 = .ok (.iload_n 0, 1) := by decide +kernel
theorem dX3_needRegister_5 : decode cX3_needRegister 5 = .ok (.bipush 8, 2) := by decide +kernel
theorem dX3_needRegister_7 : decode cX3_needRegister 7 = .ok (.if_icmp .lt 13, 3) := by decide +kernel
theorem dX3_needRegister_10 : decode cX3_needRegister 10 = .ok (.new 105, 3) := by decide +kernel
theorem dX3_needRegister_13 : decode cX3_needRegister 13 = .ok (.dup, 1) := by decide +kernel
theorem dX3_needRegister_14 : decode cX3_needRegister 14 = .ok (.ldc 107, 2) := by decide +kernel
theorem dX3_needRegister_16 : decode cX3_needRegister 16 = .ok (.invokespecial 109, 3) := by decide +kernel
theorem dX3_needRegister_19 : decode cX3_needRegister 19 = .ok (.athrow, 1) := by decide +kernel
theorem dX3_needRegister_20 : decode cX3_needRegister 20 = .ok (.return_, 1) := by decide +kernel
theorem dX3_needWay_0 : decode cX3_needWay 0 = .ok (.iload_n 0, 1) := by decide +kernel
theorem dX3_needWay_1 : decode cX3_needWay 1 = .ok (.ifCond .eq 18, 3) := by decide +kernel
theorem dX3_needWay_4 : decode cX3_needWay 4 = .ok (.iload_n 0, 1) := by decide +kernel
theorem dX3_needWay_5 : decode cX3_needWay 5 = .ok (.iconst 1, 1) := by decide +kernel
theorem dX3_needWay_6 : decode cX3_needWay 6 = .ok (.if_icmp .eq 13, 3) := by decide +kernel
theorem dX3_needWay_9 : decode cX3_needWay 9 = .ok (.new 46, 3) := by decide +kernel
theorem dX3_needWay_12 : decode cX3_needWay 12 = .ok (.dup, 1) := by decide +kernel
theorem dX3_needWay_13 : decode cX3_needWay 13 = .ok (.ldc 110, 2) := by decide +kernel
theorem dX3_needWay_15 : decode cX3_needWay 15 = .ok (.invokespecial 50, 3) := by decide +kernel
theorem dX3_needWay_18 : decode cX3_needWay 18 = .ok (.athrow, 1) := by decide +kernel
theorem dX3_needWay_19 : decode cX3_needWay 19 = .ok (.return_, 1) := by decide +kernel
theorem dX3_operate_0 : decode cX3_operate 0 = .ok (.aload_n 0, 1) := by decide +kernel
theorem dX3_operate_1 : decode cX3_operate 1 = .ok (.iconst 0, 1) := by decide +kernel
theorem dX3_operate_2 : decode cX3_operate 2 = .ok (.putfield 37, 3) := by decide +kernel
theorem dX3_operate_5 : decode cX3_operate 5 = .ok (.aload_n 0, 1) := by decide +kernel
theorem dX3_operate_6 : decode cX3_operate 6 = .ok (.iload_n 1, 1) := by decide +kernel
theorem dX3_operate_7 : decode cX3_operate 7 = .ok (.aload_n 0, 1) := by decide +kernel
theorem dX3_operate_8 : decode cX3_operate 8 = .ok (.getfield 11, 3) := by decide +kernel
theorem dX3_operate_11 : decode cX3_operate 11 = .ok (.iload_n 3, 1) := by decide +kernel
theorem dX3_operate_12 : decode cX3_operate 12 = .ok (.aaload, 1) := by decide +kernel
theorem dX3_operate_13 : decode cX3_operate 13 = .ok (.aload_n 0, 1) := by decide +kernel
theorem dX3_operate_14 : decode cX3_operate 14 = .ok (.getfield 11, 3) := by decide +kernel
theorem dX3_operate_17 : decode cX3_operate 17 = .ok (.iload 4, 2) := by decide +kernel
theorem dX3_operate_19 : decode cX3_operate 19 = .ok (.aaload, 1) := by decide +kernel
theorem dX3_operate_20 : decode cX3_operate 20 = .ok (.invokevirtual 112, 3) := by decide +kernel
theorem dX3_operate_23 : decode cX3_operate 23 = .ok (.aload_n 0, 1) := by decide +kernel
theorem dX3_operate_24 : decode cX3_operate 24 = .ok (.dup, 1) := by decide +kernel
theorem dX3_operate_25 : decode cX3_operate 25 = .ok (.getfield 34, 3) := by decide +kernel
theorem dX3_operate_28 : decode cX3_operate 28 = .ok (.aload_n 0, 1) := by decide +kernel
theorem dX3_operate_29 : decode cX3_operate 29 = .ok (.getfield 37, 3) := by decide +kernel
theorem dX3_operate_32 : decode cX3_operate 32 = .ok (.ior, 1) := by decide +kernel
theorem dX3_operate_33 : decode cX3_operate 33 = .ok (.putfield 34, 3) := by decide +kernel
theorem dX3_operate_36 : decode cX3_operate 36 = .ok (.aload_n 0, 1) := by decide +kernel
theorem dX3_operate_37 : decode cX3_operate 37 = .ok (.getfield 37, 3) := by decide +kernel
theorem dX3_operate_40 : decode cX3_operate 40 = .ok (.aload_n 0, 1) := by decide +kernel
theorem dX3_operate_41 : decode cX3_operate 41 = .ok (.getfield 31, 3) := by decide +kernel
theorem dX3_operate_44 : decode cX3_operate 44 = .ok (.iand, 1) := by decide +kernel
theorem dX3_operate_45 : decode cX3_operate 45 = .ok (.ifCond .eq 5, 3) := by decide +kernel
theorem dX3_operate_48 : decode cX3_operate 48 = .ok (.iconst 0, 1) := by decide +kernel
theorem dX3_operate_49 : decode cX3_operate 49 = .ok (.ireturn, 1) := by decide +kernel
theorem dX3_operate_50 : decode cX3_operate 50 = .ok (.aload_n 0, 1) := by decide +kernel
theorem dX3_operate_51 : decode cX3_operate 51 = .ok (.getfield 11, 3) := by decide +kernel
theorem dX3_operate_54 : decode cX3_operate 54 = .ok (.iload_n 2, 1) := by decide +kernel
theorem dX3_operate_55 : decode cX3_operate 55 = .ok (.aaload, 1) := by decide +kernel
theorem dX3_operate_56 : decode cX3_operate 56 = .ok (.aload_n 0, 1) := by decide +kernel
theorem dX3_operate_57 : decode cX3_operate 57 = .ok (.getfield 16, 3) := by decide +kernel
theorem dX3_operate_60 : decode cX3_operate 60 = .ok (.invokevirtual 116, 3) := by decide +kernel
theorem dX3_operate_63 : decode cX3_operate 63 = .ok (.iconst 1, 1) := by decide +kernel
theorem dX3_operate_64 : decode cX3_operate 64 = .ok (.ireturn, 1) := by decide +kernel
theorem dX3_setResult_0 : decode cX3_setResult 0 = .ok (.iload_n 1, 1) := by decide +kernel
theorem dX3_setResult_1 : decode cX3_setResult 1 = .ok (.bipush 6, 2) := by decide +kernel
theorem dX3_setResult_3 : decode cX3_setResult 3 = .ok (.if_icmp .ne 11, 3) := by decide +kernel
theorem dX3_setResult_6 : decode cX3_setResult 6 = .ok (.aload_n 0, 1) := by decide +kernel
theorem dX3_setResult_7 : decode cX3_setResult 7 = .ok (.aload_n 2, 1) := by decide +kernel
theorem dX3_setResult_8 : decode cX3_setResult 8 = .ok (.invokevirtual 120, 3) := by decide +kernel
theorem dX3_setResult_11 : decode cX3_setResult 11 = .ok (.goto 90, 3) := by decide +kernel
theorem dX3_setResult_14 : decode cX3_setResult 14 = .ok (.aload_n 2, 1) := by decide +kernel
theorem dX3_setResult_15 : decode cX3_setResult 15 = .ok (.getfield 70, 3) := by decide +kernel
theorem dX3_setResult_18 : decode cX3_setResult 18 = .ok (.iconst 2, 1) := by decide +kernel
theorem dX3_setResult_19 : decode cX3_setResult 19 = .ok (.if_icmp .eq 11, 3) := by decide +kernel
theorem dX3_setResult_22 : decode cX3_setResult 22 = .ok (.aload_n 3, 1) := by decide +kernel
theorem dX3_setResult_23 : decode cX3_setResult 23 = .ok (.getfield 70, 3) := by decide +kernel
theorem dX3_setResult_26 : decode cX3_setResult 26 = .ok (.iconst 2, 1) := by decide +kernel
theorem dX3_setResult_27 : decode cX3_setResult 27 = .ok (.if_icmp .ne 13, 3) := by decide +kernel
theorem dX3_setResult_30 : decode cX3_setResult 30 = .ok (.aload_n 0, 1) := by decide +kernel
theorem dX3_setResult_31 : decode cX3_setResult 31 = .ok (.getfield 16, 3) := by decide +kernel
theorem dX3_setResult_34 : decode cX3_setResult 34 = .ok (.invokevirtual 123, 3) := by decide +kernel
theorem dX3_setResult_37 : decode cX3_setResult 37 = .ok (.goto 64, 3) := by decide +kernel
theorem dX3_setResult_40 : decode cX3_setResult 40 = .ok (.iload_n 1, 1) := by decide +kernel
theorem dX3_setResult_41 : decode cX3_setResult 41 = .ok (.iconst 5, 1) := by decide +kernel
theorem dX3_setResult_42 : decode cX3_setResult 42 = .ok (.if_icmp .ne 26, 3) := by decide +kernel
theorem dX3_setResult_45 : decode cX3_setResult 45 = .ok (.aload_n 0, 1) := by decide +kernel
theorem dX3_setResult_46 : decode cX3_setResult 46 = .ok (.getfield 16, 3) := by decide +kernel
theorem dX3_setResult_49 : decode cX3_setResult 49 = .ok (.aload_n 3, 1) := by decide +kernel
theorem dX3_setResult_50 : decode cX3_setResult 50 = .ok (.aload_n 2, 1) := by decide +kernel
theorem dX3_setResult_51 : decode cX3_setResult 51 = .ok (.invokestatic 73, 3) := by decide +kernel
theorem dX3_setResult_54 : decode cX3_setResult 54 = .ok (.ifCond .ge 7, 3) := by decide +kernel
theorem dX3_setResult_57 : decode cX3_setResult 57 = .ok (.aload_n 3, 1) := by decide +kernel
theorem dX3_setResult_58 : decode cX3_setResult 58 = .ok (.goto 4, 3) := by decide +kernel
theorem dX3_setResult_61 : decode cX3_setResult 61 = .ok (.aload_n 2, 1) := by decide +kernel
theorem dX3_setResult_62 : decode cX3_setResult 62 = .ok (.invokevirtual 116, 3) := by decide +kernel
theorem dX3_setResult_65 : decode cX3_setResult 65 = .ok (.goto 36, 3) := by decide +kernel
theorem dX3_setResult_68 : decode cX3_setResult 68 = .ok (.aload_n 2, 1) := by decide +kernel
theorem dX3_setResult_69 : decode cX3_setResult 69 = .ok (.getfield 70, 3) := by decide +kernel
theorem dX3_setResult_72 : decode cX3_setResult 72 = .ok (.iconst 1, 1) := by decide +kernel
theorem dX3_setResult_73 : decode cX3_setResult 73 = .ok (.if_icmp .eq 11, 3) := by decide +kernel
theorem dX3_setResult_76 : decode cX3_setResult 76 = .ok (.aload_n 3, 1) := by decide +kernel
theorem dX3_setResult_77 : decode cX3_setResult 77 = .ok (.getfield 70, 3) := by decide +kernel
theorem dX3_setResult_80 : decode cX3_setResult 80 = .ok (.iconst 1, 1) := by decide +kernel
theorem dX3_setResult_81 : decode cX3_setResult 81 = .ok (.if_icmp .ne 13, 3) := by decide +kernel
theorem dX3_setResult_84 : decode cX3_setResult 84 = .ok (.aload_n 0, 1) := by decide +kernel
theorem dX3_setResult_85 : decode cX3_setResult 85 = .ok (.iload_n 1, 1) := by decide +kernel
theorem dX3_setResult_86 : decode cX3_setResult 86 = .ok (.aload_n 2, 1) := by decide +kernel
theorem dX3_setResult_87 : decode cX3_setResult 87 = .ok (.aload_n 3, 1) := by decide +kernel
theorem dX3_setResult_88 : decode cX3_setResult 88 = .ok (.invokevirtual 126, 3) := by decide +kernel
theorem dX3_setResult_91 : decode cX3_setResult 91 = .ok (.goto 10, 3) := by decide +kernel
theorem dX3_setResult_94 : decode cX3_setResult 94 = .ok (.aload_n 0, 1) := by decide +kernel
theorem dX3_setResult_95 : decode cX3_setResult 95 = .ok (.iload_n 1, 1) := by decide +kernel
theorem dX3_setResult_96 : decode cX3_setResult 96 = .ok (.aload_n 2, 1) := by decide +kernel
theorem dX3_setResult_97 : decode cX3_setResult 97 = .ok (.aload_n 3, 1) := by decide +kernel
theorem dX3_setResult_98 : decode cX3_setResult 98 = .ok (.invokevirtual 129, 3) := by decide +kernel
theorem dX3_setResult_101 : decode cX3_setResult 101 = .ok (.return_, 1) := by decide +kernel
theorem dX3_setFromInfinity_0 : decode cX3_setFromInfinity 0 = .ok (.aload_n 2, 1) := by decide +kernel
theorem dX3_setFromInfinity_1 : decode cX3_setFromInfinity 1 = .ok (.getfield 77, 3) := by decide +kernel
theorem dX3_setFromInfinity_4 : decode cX3_setFromInfinity 4 = .ok (.aload_n 3, 1) := by decide +kernel
theorem dX3_setFromInfinity_5 : decode cX3_setFromInfinity 5 = .ok (.getfield 77, 3) := by decide +kernel
theorem dX3_setFromInfinity_8 : decode cX3_setFromInfinity 8 = .ok (.if_icmp .eq 7, 3) := by decide +kernel
theorem dX3_setFromInfinity_11 : decode cX3_setFromInfinity 11 = .ok (.iconst 1, 1) := by decide +kernel
theorem dX3_setFromInfinity_12 : decode cX3_setFromInfinity 12 = .ok (.goto 4, 3) := by decide +kernel
theorem dX3_setFromInfinity_15 : decode cX3_setFromInfinity 15 = .ok (.iconst 0, 1) := by decide +kernel
theorem dX3_setFromInfinity_16 : decode cX3_setFromInfinity 16 = .ok (.istore 4, 2) := by decide +kernel
theorem dX3_setFromInfinity_18 : decode cX3_setFromInfinity 18 = .ok (.aload_n 2, 1) := by decide +kernel
theorem dX3_setFromInfinity_19 : decode cX3_setFromInfinity 19 = .ok (.getfield 70, 3) := by decide +kernel
theorem dX3_setFromInfinity_22 : decode cX3_setFromInfinity 22 = .ok (.aload_n 3, 1) := by decide +kernel
theorem dX3_setFromInfinity_23 : decode cX3_setFromInfinity 23 = .ok (.getfield 70, 3) := by decide +kernel
theorem dX3_setFromInfinity_26 : decode cX3_setFromInfinity 26 = .ok (.if_icmp .ne 7, 3) := by decide +kernel
theorem dX3_setFromInfinity_29 : decode cX3_setFromInfinity 29 = .ok (.iconst 1, 1) := by decide +kernel
theorem dX3_setFromInfinity_30 : decode cX3_setFromInfinity 30 = .ok (.goto 4, 3) := by decide +kernel
theorem dX3_setFromInfinity_33 : decode cX3_setFromInfinity 33 = .ok (.iconst 0, 1) := by decide +kernel
theorem dX3_setFromInfinity_34 : decode cX3_setFromInfinity 34 = .ok (.istore 5, 2) := by decide +kernel
theorem dX3_setFromInfinity_36 : decode cX3_setFromInfinity 36 = .ok (.iload_n 1, 1) := by decide +kernel
theorem dX3_setFromInfinity_37 : decode cX3_setFromInfinity 37 = .ok (.tableswitch 150 0 4 #[35, 48, 69, 102, 150], 35) := by decide +kernel
theorem dX3_setFromInfinity_72 : decode cX3_setFromInfinity 72 = .ok (.aload_n 0, 1) := by decide +kernel
theorem dX3_setFromInfinity_73 : decode cX3_setFromInfinity 73 = .ok (.aload_n 2, 1) := by decide +kernel
theorem dX3_setFromInfinity_74 : decode cX3_setFromInfinity 74 = .ok (.aload_n 3, 1) := by decide +kernel
theorem dX3_setFromInfinity_75 : decode cX3_setFromInfinity 75 = .ok (.aload_n 3, 1) := by decide +kernel
theorem dX3_setFromInfinity_76 : decode cX3_setFromInfinity 76 = .ok (.getfield 77, 3) := by decide +kernel
theorem dX3_setFromInfinity_79 : decode cX3_setFromInfinity 79 = .ok (.invokevirtual 132, 3) := by decide +kernel
theorem dX3_setFromInfinity_82 : decode cX3_setFromInfinity 82 = .ok (.goto 125, 3) := by decide +kernel
theorem dX3_setFromInfinity_85 : decode cX3_setFromInfinity 85 = .ok (.aload_n 0, 1) := by decide +kernel
theorem dX3_setFromInfinity_86 : decode cX3_setFromInfinity 86 = .ok (.aload_n 2, 1) := by decide +kernel
theorem dX3_setFromInfinity_87 : decode cX3_setFromInfinity 87 = .ok (.aload_n 3, 1) := by decide +kernel
theorem dX3_setFromInfinity_88 : decode cX3_setFromInfinity 88 = .ok (.aload_n 3, 1) := by decide +kernel
theorem dX3_setFromInfinity_89 : decode cX3_setFromInfinity 89 = .ok (.getfield 77, 3) := by decide +kernel
theorem dX3_setFromInfinity_92 : decode cX3_setFromInfinity 92 = .ok (.ifCond .ne 7, 3) := by decide +kernel
theorem dX3_setFromInfinity_95 : decode cX3_setFromInfinity 95 = .ok (.iconst 1, 1) := by decide +kernel
theorem dX3_setFromInfinity_96 : decode cX3_setFromInfinity 96 = .ok (.goto 4, 3) := by decide +kernel
theorem dX3_setFromInfinity_99 : decode cX3_setFromInfinity 99 = .ok (.iconst 0, 1) := by decide +kernel
theorem dX3_setFromInfinity_100 : decode cX3_setFromInfinity 100 = .ok (.invokevirtual 132, 3) := by decide +kernel
theorem dX3_setFromInfinity_103 : decode cX3_setFromInfinity 103 = .ok (.goto 104, 3) := by decide +kernel
theorem dX3_setFromInfinity_106 : decode cX3_setFromInfinity 106 = .ok (.aload_n 2, 1) := by decide +kernel
theorem dX3_setFromInfinity_107 : decode cX3_setFromInfinity 107 = .ok (.invokevirtual 136, 3) := by decide +kernel
theorem dX3_setFromInfinity_110 : decode cX3_setFromInfinity 110 = .ok (.ifCond .ne 10, 3) := by decide +kernel
theorem dX3_setFromInfinity_113 : decode cX3_setFromInfinity 113 = .ok (.aload_n 3, 1) := by decide +kernel
theorem dX3_setFromInfinity_114 : decode cX3_setFromInfinity 114 = .ok (.invokevirtual 136, 3) := by decide +kernel
theorem dX3_setFromInfinity_117 : decode cX3_setFromInfinity 117 = .ok (.ifCond .eq 10, 3) := by decide +kernel
theorem dX3_setFromInfinity_120 : decode cX3_setFromInfinity 120 = .ok (.aload_n 0, 1) := by decide +kernel
theorem dX3_setFromInfinity_121 : decode cX3_setFromInfinity 121 = .ok (.invokevirtual 140, 3) := by decide +kernel
theorem dX3_setFromInfinity_124 : decode cX3_setFromInfinity 124 = .ok (.goto 83, 3) := by decide +kernel
theorem dX3_setFromInfinity_127 : decode cX3_setFromInfinity 127 = .ok (.aload_n 0, 1) := by decide +kernel
theorem dX3_setFromInfinity_128 : decode cX3_setFromInfinity 128 = .ok (.getfield 16, 3) := by decide +kernel
theorem dX3_setFromInfinity_131 : decode cX3_setFromInfinity 131 = .ok (.iload 4, 2) := by decide +kernel
theorem dX3_setFromInfinity_133 : decode cX3_setFromInfinity 133 = .ok (.invokevirtual 143, 3) := by decide +kernel
theorem dX3_setFromInfinity_136 : decode cX3_setFromInfinity 136 = .ok (.goto 71, 3) := by decide +kernel
theorem dX3_setFromInfinity_139 : decode cX3_setFromInfinity 139 = .ok (.iload 5, 2) := by decide +kernel
theorem dX3_setFromInfinity_141 : decode cX3_setFromInfinity 141 = .ok (.ifCond .eq 10, 3) := by decide +kernel
theorem dX3_setFromInfinity_144 : decode cX3_setFromInfinity 144 = .ok (.aload_n 0, 1) := by decide +kernel
theorem dX3_setFromInfinity_145 : decode cX3_setFromInfinity 145 = .ok (.invokevirtual 140, 3) := by decide +kernel
theorem dX3_setFromInfinity_148 : decode cX3_setFromInfinity 148 = .ok (.goto 59, 3) := by decide +kernel
theorem dX3_setFromInfinity_151 : decode cX3_setFromInfinity 151 = .ok (.aload_n 2, 1) := by decide +kernel
theorem dX3_setFromInfinity_152 : decode cX3_setFromInfinity 152 = .ok (.getfield 70, 3) := by decide +kernel
theorem dX3_setFromInfinity_155 : decode cX3_setFromInfinity 155 = .ok (.iconst 1, 1) := by decide +kernel
theorem dX3_setFromInfinity_156 : decode cX3_setFromInfinity 156 = .ok (.if_icmp .ne 15, 3) := by decide +kernel
theorem dX3_setFromInfinity_159 : decode cX3_setFromInfinity 159 = .ok (.aload_n 0, 1) := by decide +kernel
theorem dX3_setFromInfinity_160 : decode cX3_setFromInfinity 160 = .ok (.getfield 16, 3) := by decide +kernel
theorem dX3_setFromInfinity_163 : decode cX3_setFromInfinity 163 = .ok (.iload 4, 2) := by decide +kernel
theorem dX3_setFromInfinity_165 : decode cX3_setFromInfinity 165 = .ok (.invokevirtual 143, 3) := by decide +kernel
theorem dX3_setFromInfinity_168 : decode cX3_setFromInfinity 168 = .ok (.goto 39, 3) := by decide +kernel
theorem dX3_setFromInfinity_171 : decode cX3_setFromInfinity 171 = .ok (.aload_n 0, 1) := by decide +kernel
theorem dX3_setFromInfinity_172 : decode cX3_setFromInfinity 172 = .ok (.getfield 16, 3) := by decide +kernel
theorem dX3_setFromInfinity_175 : decode cX3_setFromInfinity 175 = .ok (.iload 4, 2) := by decide +kernel
theorem dX3_setFromInfinity_177 : decode cX3_setFromInfinity 177 = .ok (.lconst 0, 1) := by decide +kernel
theorem dX3_setFromInfinity_178 : decode cX3_setFromInfinity 178 = .ok (.sipush (-398), 3) := by decide +kernel
theorem dX3_setFromInfinity_181 : decode cX3_setFromInfinity 181 = .ok (.invokevirtual 55, 3) := by decide +kernel
theorem dX3_setFromInfinity_184 : decode cX3_setFromInfinity 184 = .ok (.goto 23, 3) := by decide +kernel
theorem dX3_setFromInfinity_187 : decode cX3_setFromInfinity 187 = .ok (.iload 5, 2) := by decide +kernel
theorem dX3_setFromInfinity_189 : decode cX3_setFromInfinity 189 = .ok (.ifCond .eq 14, 3) := by decide +kernel
theorem dX3_setFromInfinity_192 : decode cX3_setFromInfinity 192 = .ok (.aload_n 0, 1) := by decide +kernel
theorem dX3_setFromInfinity_193 : decode cX3_setFromInfinity 193 = .ok (.getfield 16, 3) := by decide +kernel
theorem dX3_setFromInfinity_196 : decode cX3_setFromInfinity 196 = .ok (.aload_n 2, 1) := by decide +kernel
theorem dX3_setFromInfinity_197 : decode cX3_setFromInfinity 197 = .ok (.invokevirtual 116, 3) := by decide +kernel
theorem dX3_setFromInfinity_200 : decode cX3_setFromInfinity 200 = .ok (.goto 7, 3) := by decide +kernel
theorem dX3_setFromInfinity_203 : decode cX3_setFromInfinity 203 = .ok (.aload_n 0, 1) := by decide +kernel
theorem dX3_setFromInfinity_204 : decode cX3_setFromInfinity 204 = .ok (.invokevirtual 140, 3) := by decide +kernel
theorem dX3_setFromInfinity_207 : decode cX3_setFromInfinity 207 = .ok (.return_, 1) := by decide +kernel
theorem dX3_addInfinity_0 : decode cX3_addInfinity 0 = .ok (.aload_n 1, 1) := by decide +kernel
theorem dX3_addInfinity_1 : decode cX3_addInfinity 1 = .ok (.getfield 70, 3) := by decide +kernel
theorem dX3_addInfinity_4 : decode cX3_addInfinity 4 = .ok (.aload_n 2, 1) := by decide +kernel
theorem dX3_addInfinity_5 : decode cX3_addInfinity 5 = .ok (.getfield 70, 3) := by decide +kernel
theorem dX3_addInfinity_8 : decode cX3_addInfinity 8 = .ok (.if_icmp .ne 18, 3) := by decide +kernel
theorem dX3_addInfinity_11 : decode cX3_addInfinity 11 = .ok (.aload_n 1, 1) := by decide +kernel
theorem dX3_addInfinity_12 : decode cX3_addInfinity 12 = .ok (.getfield 77, 3) := by decide +kernel
theorem dX3_addInfinity_15 : decode cX3_addInfinity 15 = .ok (.iload_n 3, 1) := by decide +kernel
theorem dX3_addInfinity_16 : decode cX3_addInfinity 16 = .ok (.if_icmp .eq 10, 3) := by decide +kernel
theorem dX3_addInfinity_19 : decode cX3_addInfinity 19 = .ok (.aload_n 0, 1) := by decide +kernel
theorem dX3_addInfinity_20 : decode cX3_addInfinity 20 = .ok (.invokevirtual 140, 3) := by decide +kernel
theorem dX3_addInfinity_23 : decode cX3_addInfinity 23 = .ok (.goto 26, 3) := by decide +kernel
theorem dX3_addInfinity_26 : decode cX3_addInfinity 26 = .ok (.aload_n 0, 1) := by decide +kernel
theorem dX3_addInfinity_27 : decode cX3_addInfinity 27 = .ok (.getfield 16, 3) := by decide +kernel
theorem dX3_addInfinity_30 : decode cX3_addInfinity 30 = .ok (.aload_n 1, 1) := by decide +kernel
theorem dX3_addInfinity_31 : decode cX3_addInfinity 31 = .ok (.getfield 70, 3) := by decide +kernel
theorem dX3_addInfinity_34 : decode cX3_addInfinity 34 = .ok (.iconst 1, 1) := by decide +kernel
theorem dX3_addInfinity_35 : decode cX3_addInfinity 35 = .ok (.if_icmp .ne 10, 3) := by decide +kernel
theorem dX3_addInfinity_38 : decode cX3_addInfinity 38 = .ok (.aload_n 1, 1) := by decide +kernel
theorem dX3_addInfinity_39 : decode cX3_addInfinity 39 = .ok (.getfield 77, 3) := by decide +kernel
theorem dX3_addInfinity_42 : decode cX3_addInfinity 42 = .ok (.goto 4, 3) := by decide +kernel
theorem dX3_addInfinity_45 : decode cX3_addInfinity 45 = .ok (.iload_n 3, 1) := by decide +kernel
theorem dX3_addInfinity_46 : decode cX3_addInfinity 46 = .ok (.invokevirtual 143, 3) := by decide +kernel
theorem dX3_addInfinity_49 : decode cX3_addInfinity 49 = .ok (.return_, 1) := by decide +kernel
theorem dX3_setFromFinite_0 : decode cX3_setFromFinite 0 = .ok (.iload_n 1, 1) := by decide +kernel
theorem dX3_setFromFinite_1 : decode cX3_setFromFinite 1 = .ok (.tableswitch 157 0 4 #[35, 68, 109, 125, 157], 35) := by decide +kernel
theorem dX3_setFromFinite_36 : decode cX3_setFromFinite 36 = .ok (.aload_n 0, 1) := by decide +kernel
theorem dX3_setFromFinite_37 : decode cX3_setFromFinite 37 = .ok (.getfield 23, 3) := by decide +kernel
theorem dX3_setFromFinite_40 : decode cX3_setFromFinite 40 = .ok (.aload_n 2, 1) := by decide +kernel
theorem dX3_setFromFinite_41 : decode cX3_setFromFinite 41 = .ok (.aload_n 3, 1) := by decide +kernel
theorem dX3_setFromFinite_42 : decode cX3_setFromFinite 42 = .ok (.aload_n 3, 1) := by decide +kernel
theorem dX3_setFromFinite_43 : decode cX3_setFromFinite 43 = .ok (.getfield 77, 3) := by decide +kernel
theorem dX3_setFromFinite_46 : decode cX3_setFromFinite 46 = .ok (.aload_n 0, 1) := by decide +kernel
theorem dX3_setFromFinite_47 : decode cX3_setFromFinite 47 = .ok (.getfield 27, 3) := by decide +kernel
theorem dX3_setFromFinite_50 : decode cX3_setFromFinite 50 = .ok (.iconst 4, 1) := by decide +kernel
theorem dX3_setFromFinite_51 : decode cX3_setFromFinite 51 = .ok (.if_icmp .ne 7, 3) := by decide +kernel
theorem dX3_setFromFinite_54 : decode cX3_setFromFinite 54 = .ok (.iconst 1, 1) := by decide +kernel
theorem dX3_setFromFinite_55 : decode cX3_setFromFinite 55 = .ok (.goto 4, 3) := by decide +kernel
theorem dX3_setFromFinite_58 : decode cX3_setFromFinite 58 = .ok (.iconst 0, 1) := by decide +kernel
theorem dX3_setFromFinite_59 : decode cX3_setFromFinite 59 = .ok (.invokevirtual 147, 3) := by decide +kernel
theorem dX3_setFromFinite_62 : decode cX3_setFromFinite 62 = .ok (.aload_n 0, 1) := by decide +kernel
theorem dX3_setFromFinite_63 : decode cX3_setFromFinite 63 = .ok (.invokevirtual 151, 3) := by decide +kernel
theorem dX3_setFromFinite_66 : decode cX3_setFromFinite 66 = .ok (.goto 101, 3) := by decide +kernel
theorem dX3_setFromFinite_69 : decode cX3_setFromFinite 69 = .ok (.aload_n 0, 1) := by decide +kernel
theorem dX3_setFromFinite_70 : decode cX3_setFromFinite 70 = .ok (.getfield 23, 3) := by decide +kernel
theorem dX3_setFromFinite_73 : decode cX3_setFromFinite 73 = .ok (.aload_n 2, 1) := by decide +kernel
theorem dX3_setFromFinite_74 : decode cX3_setFromFinite 74 = .ok (.aload_n 3, 1) := by decide +kernel
theorem dX3_setFromFinite_75 : decode cX3_setFromFinite 75 = .ok (.aload_n 3, 1) := by decide +kernel
theorem dX3_setFromFinite_76 : decode cX3_setFromFinite 76 = .ok (.getfield 77, 3) := by decide +kernel
theorem dX3_setFromFinite_79 : decode cX3_setFromFinite 79 = .ok (.ifCond .ne 7, 3) := by decide +kernel
theorem dX3_setFromFinite_82 : decode cX3_setFromFinite 82 = .ok (.iconst 1, 1) := by decide +kernel
theorem dX3_setFromFinite_83 : decode cX3_setFromFinite 83 = .ok (.goto 4, 3) := by decide +kernel
theorem dX3_setFromFinite_86 : decode cX3_setFromFinite 86 = .ok (.iconst 0, 1) := by decide +kernel
theorem dX3_setFromFinite_87 : decode cX3_setFromFinite 87 = .ok (.aload_n 0, 1) := by decide +kernel
theorem dX3_setFromFinite_88 : decode cX3_setFromFinite 88 = .ok (.getfield 27, 3) := by decide +kernel
theorem dX3_setFromFinite_91 : decode cX3_setFromFinite 91 = .ok (.iconst 4, 1) := by decide +kernel
theorem dX3_setFromFinite_92 : decode cX3_setFromFinite 92 = .ok (.if_icmp .ne 7, 3) := by decide +kernel
theorem dX3_setFromFinite_95 : decode cX3_setFromFinite 95 = .ok (.iconst 1, 1) := by decide +kernel
theorem dX3_setFromFinite_96 : decode cX3_setFromFinite 96 = .ok (.goto 4, 3) := by decide +kernel
theorem dX3_setFromFinite_99 : decode cX3_setFromFinite 99 = .ok (.iconst 0, 1) := by decide +kernel
theorem dX3_setFromFinite_100 : decode cX3_setFromFinite 100 = .ok (.invokevirtual 147, 3) := by decide +kernel
theorem dX3_setFromFinite_103 : decode cX3_setFromFinite 103 = .ok (.aload_n 0, 1) := by decide +kernel
theorem dX3_setFromFinite_104 : decode cX3_setFromFinite 104 = .ok (.invokevirtual 151, 3) := by decide +kernel
theorem dX3_setFromFinite_107 : decode cX3_setFromFinite 107 = .ok (.goto 60, 3) := by decide +kernel
theorem dX3_setFromFinite_110 : decode cX3_setFromFinite 110 = .ok (.aload_n 0, 1) := by decide +kernel
theorem dX3_setFromFinite_111 : decode cX3_setFromFinite 111 = .ok (.getfield 23, 3) := by decide +kernel
theorem dX3_setFromFinite_114 : decode cX3_setFromFinite 114 = .ok (.aload_n 2, 1) := by decide +kernel
theorem dX3_setFromFinite_115 : decode cX3_setFromFinite 115 = .ok (.aload_n 3, 1) := by decide +kernel
theorem dX3_setFromFinite_116 : decode cX3_setFromFinite 116 = .ok (.invokevirtual 154, 3) := by decide +kernel
theorem dX3_setFromFinite_119 : decode cX3_setFromFinite 119 = .ok (.aload_n 0, 1) := by decide +kernel
theorem dX3_setFromFinite_120 : decode cX3_setFromFinite 120 = .ok (.invokevirtual 151, 3) := by decide +kernel
theorem dX3_setFromFinite_123 : decode cX3_setFromFinite 123 = .ok (.goto 44, 3) := by decide +kernel
theorem dX3_setFromFinite_126 : decode cX3_setFromFinite 126 = .ok (.aload_n 3, 1) := by decide +kernel
theorem dX3_setFromFinite_127 : decode cX3_setFromFinite 127 = .ok (.invokevirtual 136, 3) := by decide +kernel
theorem dX3_setFromFinite_130 : decode cX3_setFromFinite 130 = .ok (.ifCond .eq 12, 3) := by decide +kernel
theorem dX3_setFromFinite_133 : decode cX3_setFromFinite 133 = .ok (.aload_n 0, 1) := by decide +kernel
theorem dX3_setFromFinite_134 : decode cX3_setFromFinite 134 = .ok (.aload_n 2, 1) := by decide +kernel
theorem dX3_setFromFinite_135 : decode cX3_setFromFinite 135 = .ok (.aload_n 3, 1) := by decide +kernel
theorem dX3_setFromFinite_136 : decode cX3_setFromFinite 136 = .ok (.invokevirtual 158, 3) := by decide +kernel
theorem dX3_setFromFinite_139 : decode cX3_setFromFinite 139 = .ok (.goto 28, 3) := by decide +kernel
theorem dX3_setFromFinite_142 : decode cX3_setFromFinite 142 = .ok (.aload_n 0, 1) := by decide +kernel
theorem dX3_setFromFinite_143 : decode cX3_setFromFinite 143 = .ok (.getfield 23, 3) := by decide +kernel
theorem dX3_setFromFinite_146 : decode cX3_setFromFinite 146 = .ok (.aload_n 2, 1) := by decide +kernel
theorem dX3_setFromFinite_147 : decode cX3_setFromFinite 147 = .ok (.aload_n 3, 1) := by decide +kernel
theorem dX3_setFromFinite_148 : decode cX3_setFromFinite 148 = .ok (.invokevirtual 161, 3) := by decide +kernel
theorem dX3_setFromFinite_151 : decode cX3_setFromFinite 151 = .ok (.aload_n 0, 1) := by decide +kernel
theorem dX3_setFromFinite_152 : decode cX3_setFromFinite 152 = .ok (.invokevirtual 151, 3) := by decide +kernel
theorem dX3_setFromFinite_155 : decode cX3_setFromFinite 155 = .ok (.goto 12, 3) := by decide +kernel
theorem dX3_setFromFinite_158 : decode cX3_setFromFinite 158 = .ok (.aload_n 0, 1) := by decide +kernel
theorem dX3_setFromFinite_159 : decode cX3_setFromFinite 159 = .ok (.aload_n 2, 1) := by decide +kernel
theorem dX3_setFromFinite_160 : decode cX3_setFromFinite 160 = .ok (.aload_n 3, 1) := by decide +kernel
theorem dX3_setFromFinite_161 : decode cX3_setFromFinite 161 = .ok (.getfield 85, 3) := by decide +kernel
theorem dX3_setFromFinite_164 : decode cX3_setFromFinite 164 = .ok (.invokevirtual 164, 3) := by decide +kernel
theorem dX3_setFromFinite_167 : decode cX3_setFromFinite 167 = .ok (.return_, 1) := by decide +kernel
theorem dX3_divideByZero_0 : decode cX3_divideByZero 0 = .ok (.aload_n 1, 1) := by decide +kernel
theorem dX3_divideByZero_1 : decode cX3_divideByZero 1 = .ok (.invokevirtual 136, 3) := by decide +kernel
theorem dX3_divideByZero_4 : decode cX3_divideByZero 4 = .ok (.ifCond .eq 10, 3) := by decide +kernel
theorem dX3_divideByZero_7 : decode cX3_divideByZero 7 = .ok (.aload_n 0, 1) := by decide +kernel
theorem dX3_divideByZero_8 : decode cX3_divideByZero 8 = .ok (.invokevirtual 140, 3) := by decide +kernel
theorem dX3_divideByZero_11 : decode cX3_divideByZero 11 = .ok (.goto 31, 3) := by decide +kernel
theorem dX3_divideByZero_14 : decode cX3_divideByZero 14 = .ok (.aload_n 0, 1) := by decide +kernel
theorem dX3_divideByZero_15 : decode cX3_divideByZero 15 = .ok (.iconst 2, 1) := by decide +kernel
theorem dX3_divideByZero_16 : decode cX3_divideByZero 16 = .ok (.invokevirtual 168, 3) := by decide +kernel
theorem dX3_divideByZero_19 : decode cX3_divideByZero 19 = .ok (.aload_n 0, 1) := by decide +kernel
theorem dX3_divideByZero_20 : decode cX3_divideByZero 20 = .ok (.getfield 16, 3) := by decide +kernel
theorem dX3_divideByZero_23 : decode cX3_divideByZero 23 = .ok (.aload_n 1, 1) := by decide +kernel
theorem dX3_divideByZero_24 : decode cX3_divideByZero 24 = .ok (.getfield 77, 3) := by decide +kernel
theorem dX3_divideByZero_27 : decode cX3_divideByZero 27 = .ok (.aload_n 2, 1) := by decide +kernel
theorem dX3_divideByZero_28 : decode cX3_divideByZero 28 = .ok (.getfield 77, 3) := by decide +kernel
theorem dX3_divideByZero_31 : decode cX3_divideByZero 31 = .ok (.if_icmp .eq 7, 3) := by decide +kernel
theorem dX3_divideByZero_34 : decode cX3_divideByZero 34 = .ok (.iconst 1, 1) := by decide +kernel
theorem dX3_divideByZero_35 : decode cX3_divideByZero 35 = .ok (.goto 4, 3) := by decide +kernel
theorem dX3_divideByZero_38 : decode cX3_divideByZero 38 = .ok (.iconst 0, 1) := by decide +kernel
theorem dX3_divideByZero_39 : decode cX3_divideByZero 39 = .ok (.invokevirtual 143, 3) := by decide +kernel
theorem dX3_divideByZero_42 : decode cX3_divideByZero 42 = .ok (.return_, 1) := by decide +kernel
theorem dX3_quantize_0 : decode cX3_quantize 0 = .ok (.iload_n 2, 1) := by decide +kernel
theorem dX3_quantize_1 : decode cX3_quantize 1 = .ok (.aload_n 1, 1) := by decide +kernel
theorem dX3_quantize_2 : decode cX3_quantize 2 = .ok (.getfield 85, 3) := by decide +kernel
theorem dX3_quantize_5 : decode cX3_quantize 5 = .ok (.isub, 1) := by decide +kernel
theorem dX3_quantize_6 : decode cX3_quantize 6 = .ok (.istore_n 3, 1) := by decide +kernel
theorem dX3_quantize_7 : decode cX3_quantize 7 = .ok (.iload_n 3, 1) := by decide +kernel
theorem dX3_quantize_8 : decode cX3_quantize 8 = .ok (.ifCond .le 58, 3) := by decide +kernel
theorem dX3_quantize_11 : decode cX3_quantize 11 = .ok (.aload_n 0, 1) := by decide +kernel
theorem dX3_quantize_12 : decode cX3_quantize 12 = .ok (.getfield 23, 3) := by decide +kernel
theorem dX3_quantize_15 : decode cX3_quantize 15 = .ok (.aload_n 1, 1) := by decide +kernel
theorem dX3_quantize_16 : decode cX3_quantize 16 = .ok (.invokevirtual 171, 3) := by decide +kernel
theorem dX3_quantize_19 : decode cX3_quantize 19 = .ok (.aload_n 0, 1) := by decide +kernel
theorem dX3_quantize_20 : decode cX3_quantize 20 = .ok (.getfield 23, 3) := by decide +kernel
theorem dX3_quantize_23 : decode cX3_quantize 23 = .ok (.iload_n 3, 1) := by decide +kernel
theorem dX3_quantize_24 : decode cX3_quantize 24 = .ok (.invokevirtual 174, 3) := by decide +kernel
theorem dX3_quantize_27 : decode cX3_quantize 27 = .ok (.aload_n 0, 1) := by decide +kernel
theorem dX3_quantize_28 : decode cX3_quantize 28 = .ok (.getfield 23, 3) := by decide +kernel
theorem dX3_quantize_31 : decode cX3_quantize 31 = .ok (.getfield 177, 3) := by decide +kernel
theorem dX3_quantize_34 : decode cX3_quantize 34 = .ok (.ifCond .eq 9, 3) := by decide +kernel
theorem dX3_quantize_37 : decode cX3_quantize 37 = .ok (.aload_n 0, 1) := by decide +kernel
theorem dX3_quantize_38 : decode cX3_quantize 38 = .ok (.bipush 16, 2) := by decide +kernel
theorem dX3_quantize_40 : decode cX3_quantize 40 = .ok (.invokevirtual 168, 3) := by decide +kernel
theorem dX3_quantize_43 : decode cX3_quantize 43 = .ok (.aload_n 0, 1) := by decide +kernel
theorem dX3_quantize_44 : decode cX3_quantize 44 = .ok (.getfield 16, 3) := by decide +kernel
theorem dX3_quantize_47 : decode cX3_quantize 47 = .ok (.aload_n 1, 1) := by decide +kernel
theorem dX3_quantize_48 : decode cX3_quantize 48 = .ok (.getfield 77, 3) := by decide +kernel
theorem dX3_quantize_51 : decode cX3_quantize 51 = .ok (.aload_n 0, 1) := by decide +kernel
theorem dX3_quantize_52 : decode cX3_quantize 52 = .ok (.aload_n 1, 1) := by decide +kernel
theorem dX3_quantize_53 : decode cX3_quantize 53 = .ok (.getfield 77, 3) := by decide +kernel
theorem dX3_quantize_56 : decode cX3_quantize 56 = .ok (.invokevirtual 180, 3) := by decide +kernel
theorem dX3_quantize_59 : decode cX3_quantize 59 = .ok (.iload_n 2, 1) := by decide +kernel
theorem dX3_quantize_60 : decode cX3_quantize 60 = .ok (.invokevirtual 55, 3) := by decide +kernel
theorem dX3_quantize_63 : decode cX3_quantize 63 = .ok (.goto 69, 3) := by decide +kernel
theorem dX3_quantize_66 : decode cX3_quantize 66 = .ok (.aload_n 1, 1) := by decide +kernel
theorem dX3_quantize_67 : decode cX3_quantize 67 = .ok (.invokevirtual 136, 3) := by decide +kernel
theorem dX3_quantize_70 : decode cX3_quantize 70 = .ok (.ifCond .eq 19, 3) := by decide +kernel
theorem dX3_quantize_73 : decode cX3_quantize 73 = .ok (.aload_n 0, 1) := by decide +kernel
theorem dX3_quantize_74 : decode cX3_quantize 74 = .ok (.getfield 16, 3) := by decide +kernel
theorem dX3_quantize_77 : decode cX3_quantize 77 = .ok (.aload_n 1, 1) := by decide +kernel
theorem dX3_quantize_78 : decode cX3_quantize 78 = .ok (.getfield 77, 3) := by decide +kernel
theorem dX3_quantize_81 : decode cX3_quantize 81 = .ok (.lconst 0, 1) := by decide +kernel
theorem dX3_quantize_82 : decode cX3_quantize 82 = .ok (.iload_n 2, 1) := by decide +kernel
theorem dX3_quantize_83 : decode cX3_quantize 83 = .ok (.invokevirtual 55, 3) := by decide +kernel
theorem dX3_quantize_86 : decode cX3_quantize 86 = .ok (.goto 46, 3) := by decide +kernel
theorem dX3_quantize_89 : decode cX3_quantize 89 = .ok (.aload_n 1, 1) := by decide +kernel
theorem dX3_quantize_90 : decode cX3_quantize 90 = .ok (.getfield 81, 3) := by decide +kernel
theorem dX3_quantize_93 : decode cX3_quantize 93 = .ok (.invokestatic 184, 3) := by decide +kernel
theorem dX3_quantize_96 : decode cX3_quantize 96 = .ok (.iload_n 3, 1) := by decide +kernel
theorem dX3_quantize_97 : decode cX3_quantize 97 = .ok (.isub, 1) := by decide +kernel
theorem dX3_quantize_98 : decode cX3_quantize 98 = .ok (.bipush 16, 2) := by decide +kernel
theorem dX3_quantize_100 : decode cX3_quantize 100 = .ok (.if_icmp .le 10, 3) := by decide +kernel
theorem dX3_quantize_103 : decode cX3_quantize 103 = .ok (.aload_n 0, 1) := by decide +kernel
theorem dX3_quantize_104 : decode cX3_quantize 104 = .ok (.invokevirtual 140, 3) := by decide +kernel
theorem dX3_quantize_107 : decode cX3_quantize 107 = .ok (.goto 25, 3) := by decide +kernel
theorem dX3_quantize_110 : decode cX3_quantize 110 = .ok (.aload_n 0, 1) := by decide +kernel
theorem dX3_quantize_111 : decode cX3_quantize 111 = .ok (.getfield 16, 3) := by decide +kernel
theorem dX3_quantize_114 : decode cX3_quantize 114 = .ok (.aload_n 1, 1) := by decide +kernel
theorem dX3_quantize_115 : decode cX3_quantize 115 = .ok (.getfield 77, 3) := by decide +kernel
theorem dX3_quantize_118 : decode cX3_quantize 118 = .ok (.aload_n 1, 1) := by decide +kernel
theorem dX3_quantize_119 : decode cX3_quantize 119 = .ok (.getfield 81, 3) := by decide +kernel
theorem dX3_quantize_122 : decode cX3_quantize 122 = .ok (.iload_n 3, 1) := by decide +kernel
theorem dX3_quantize_123 : decode cX3_quantize 123 = .ok (.ineg, 1) := by decide +kernel
theorem dX3_quantize_124 : decode cX3_quantize 124 = .ok (.invokestatic 188, 3) := by decide +kernel
theorem dX3_quantize_127 : decode cX3_quantize 127 = .ok (.lmul, 1) := by decide +kernel
theorem dX3_quantize_128 : decode cX3_quantize 128 = .ok (.iload_n 2, 1) := by decide +kernel
theorem dX3_quantize_129 : decode cX3_quantize 129 = .ok (.invokevirtual 55, 3) := by decide +kernel
theorem dX3_quantize_132 : decode cX3_quantize 132 = .ok (.return_, 1) := by decide +kernel
theorem dX3_setNext_0 : decode cX3_setNext 0 = .ok (.aload_n 1, 1) := by decide +kernel
theorem dX3_setNext_1 : decode cX3_setNext 1 = .ok (.getfield 70, 3) := by decide +kernel
theorem dX3_setNext_4 : decode cX3_setNext 4 = .ok (.iconst 2, 1) := by decide +kernel
theorem dX3_setNext_5 : decode cX3_setNext 5 = .ok (.if_icmp .eq 18, 3) := by decide +kernel
theorem dX3_setNext_8 : decode cX3_setNext 8 = .ok (.aload_n 1, 1) := by decide +kernel
theorem dX3_setNext_9 : decode cX3_setNext 9 = .ok (.getfield 70, 3) := by decide +kernel
theorem dX3_setNext_12 : decode cX3_setNext 12 = .ok (.iconst 1, 1) := by decide +kernel
theorem dX3_setNext_13 : decode cX3_setNext 13 = .ok (.if_icmp .ne 21, 3) := by decide +kernel
theorem dX3_setNext_16 : decode cX3_setNext 16 = .ok (.aload_n 1, 1) := by decide +kernel
theorem dX3_setNext_17 : decode cX3_setNext 17 = .ok (.getfield 77, 3) := by decide +kernel
theorem dX3_setNext_20 : decode cX3_setNext 20 = .ok (.ifCond .ne 14, 3) := by decide +kernel
theorem dX3_setNext_23 : decode cX3_setNext 23 = .ok (.aload_n 0, 1) := by decide +kernel
theorem dX3_setNext_24 : decode cX3_setNext 24 = .ok (.getfield 16, 3) := by decide +kernel
theorem dX3_setNext_27 : decode cX3_setNext 27 = .ok (.aload_n 1, 1) := by decide +kernel
theorem dX3_setNext_28 : decode cX3_setNext 28 = .ok (.invokevirtual 116, 3) := by decide +kernel
theorem dX3_setNext_31 : decode cX3_setNext 31 = .ok (.goto 114, 3) := by decide +kernel
theorem dX3_setNext_34 : decode cX3_setNext 34 = .ok (.aload_n 1, 1) := by decide +kernel
theorem dX3_setNext_35 : decode cX3_setNext 35 = .ok (.getfield 70, 3) := by decide +kernel
theorem dX3_setNext_38 : decode cX3_setNext 38 = .ok (.iconst 1, 1) := by decide +kernel
theorem dX3_setNext_39 : decode cX3_setNext 39 = .ok (.if_icmp .ne 20, 3) := by decide +kernel
theorem dX3_setNext_42 : decode cX3_setNext 42 = .ok (.aload_n 0, 1) := by decide +kernel
theorem dX3_setNext_43 : decode cX3_setNext 43 = .ok (.getfield 16, 3) := by decide +kernel
theorem dX3_setNext_46 : decode cX3_setNext 46 = .ok (.iconst 1, 1) := by decide +kernel
theorem dX3_setNext_47 : decode cX3_setNext 47 = .ok (.ldc2_w 192, 3) := by decide +kernel
theorem dX3_setNext_50 : decode cX3_setNext 50 = .ok (.sipush 369, 3) := by decide +kernel
theorem dX3_setNext_53 : decode cX3_setNext 53 = .ok (.invokevirtual 55, 3) := by decide +kernel
theorem dX3_setNext_56 : decode cX3_setNext 56 = .ok (.goto 89, 3) := by decide +kernel
theorem dX3_setNext_59 : decode cX3_setNext 59 = .ok (.aload_n 1, 1) := by decide +kernel
theorem dX3_setNext_60 : decode cX3_setNext 60 = .ok (.invokevirtual 136, 3) := by decide +kernel
theorem dX3_setNext_63 : decode cX3_setNext 63 = .ok (.ifCond .eq 18, 3) := by decide +kernel
theorem dX3_setNext_66 : decode cX3_setNext 66 = .ok (.aload_n 0, 1) := by decide +kernel
theorem dX3_setNext_67 : decode cX3_setNext 67 = .ok (.getfield 16, 3) := by decide +kernel
theorem dX3_setNext_70 : decode cX3_setNext 70 = .ok (.iconst 0, 1) := by decide +kernel
theorem dX3_setNext_71 : decode cX3_setNext 71 = .ok (.lconst 1, 1) := by decide +kernel
theorem dX3_setNext_72 : decode cX3_setNext 72 = .ok (.sipush (-398), 3) := by decide +kernel
theorem dX3_setNext_75 : decode cX3_setNext 75 = .ok (.invokevirtual 55, 3) := by decide +kernel
theorem dX3_setNext_78 : decode cX3_setNext 78 = .ok (.goto 67, 3) := by decide +kernel
theorem dX3_setNext_81 : decode cX3_setNext 81 = .ok (.bipush 16, 2) := by decide +kernel
theorem dX3_setNext_83 : decode cX3_setNext 83 = .ok (.aload_n 1, 1) := by decide +kernel
theorem dX3_setNext_84 : decode cX3_setNext 84 = .ok (.getfield 81, 3) := by decide +kernel
theorem dX3_setNext_87 : decode cX3_setNext 87 = .ok (.invokestatic 184, 3) := by decide +kernel
theorem dX3_setNext_90 : decode cX3_setNext 90 = .ok (.isub, 1) := by decide +kernel
theorem dX3_setNext_91 : decode cX3_setNext 91 = .ok (.aload_n 1, 1) := by decide +kernel
theorem dX3_setNext_92 : decode cX3_setNext 92 = .ok (.getfield 85, 3) := by decide +kernel
theorem dX3_setNext_95 : decode cX3_setNext 95 = .ok (.sipush (-398), 3) := by decide +kernel
theorem dX3_setNext_98 : decode cX3_setNext 98 = .ok (.isub, 1) := by decide +kernel
theorem dX3_setNext_99 : decode cX3_setNext 99 = .ok (.invokestatic 194, 3) := by decide +kernel
theorem dX3_setNext_102 : decode cX3_setNext 102 = .ok (.istore_n 2, 1) := by decide +kernel
theorem dX3_setNext_103 : decode cX3_setNext 103 = .ok (.aload_n 1, 1) := by decide +kernel
theorem dX3_setNext_104 : decode cX3_setNext 104 = .ok (.getfield 81, 3) := by decide +kernel
theorem dX3_setNext_107 : decode cX3_setNext 107 = .ok (.iload_n 2, 1) := by decide +kernel
theorem dX3_setNext_108 : decode cX3_setNext 108 = .ok (.invokestatic 188, 3) := by decide +kernel
theorem dX3_setNext_111 : decode cX3_setNext 111 = .ok (.lmul, 1) := by decide +kernel
theorem dX3_setNext_112 : decode cX3_setNext 112 = .ok (.lstore_n 3, 1) := by decide +kernel
theorem dX3_setNext_113 : decode cX3_setNext 113 = .ok (.aload_n 1, 1) := by decide +kernel
theorem dX3_setNext_114 : decode cX3_setNext 114 = .ok (.getfield 77, 3) := by decide +kernel
theorem dX3_setNext_117 : decode cX3_setNext 117 = .ok (.ifCond .eq 17, 3) := by decide +kernel
theorem dX3_setNext_120 : decode cX3_setNext 120 = .ok (.aload_n 0, 1) := by decide +kernel
theorem dX3_setNext_121 : decode cX3_setNext 121 = .ok (.lload_n 3, 1) := by decide +kernel
theorem dX3_setNext_122 : decode cX3_setNext 122 = .ok (.aload_n 1, 1) := by decide +kernel
theorem dX3_setNext_123 : decode cX3_setNext 123 = .ok (.getfield 85, 3) := by decide +kernel
theorem dX3_setNext_126 : decode cX3_setNext 126 = .ok (.iload_n 2, 1) := by decide +kernel
theorem dX3_setNext_127 : decode cX3_setNext 127 = .ok (.isub, 1) := by decide +kernel
theorem dX3_setNext_128 : decode cX3_setNext 128 = .ok (.invokevirtual 200, 3) := by decide +kernel
theorem dX3_setNext_131 : decode cX3_setNext 131 = .ok (.goto 14, 3) := by decide +kernel
theorem dX3_setNext_134 : decode cX3_setNext 134 = .ok (.aload_n 0, 1) := by decide +kernel
theorem dX3_setNext_135 : decode cX3_setNext 135 = .ok (.lload_n 3, 1) := by decide +kernel
theorem dX3_setNext_136 : decode cX3_setNext 136 = .ok (.aload_n 1, 1) := by decide +kernel
theorem dX3_setNext_137 : decode cX3_setNext 137 = .ok (.getfield 85, 3) := by decide +kernel
theorem dX3_setNext_140 : decode cX3_setNext 140 = .ok (.iload_n 2, 1) := by decide +kernel
theorem dX3_setNext_141 : decode cX3_setNext 141 = .ok (.isub, 1) := by decide +kernel
theorem dX3_setNext_142 : decode cX3_setNext 142 = .ok (.invokevirtual 204, 3) := by decide +kernel
theorem dX3_setNext_145 : decode cX3_setNext 145 = .ok (.return_, 1) := by decide +kernel
theorem dX3_stepToZero_0 : decode cX3_stepToZero 0 = .ok (.lload_n 1, 1) := by decide +kernel
theorem dX3_stepToZero_1 : decode cX3_stepToZero 1 = .ok (.ldc2_w 207, 3) := by decide +kernel
theorem dX3_stepToZero_4 : decode cX3_stepToZero 4 = .ok (.lcmp, 1) := by decide +kernel
theorem dX3_stepToZero_5 : decode cX3_stepToZero 5 = .ok (.ifCond .ne 27, 3) := by decide +kernel
theorem dX3_stepToZero_8 : decode cX3_stepToZero 8 = .ok (.iload_n 3, 1) := by decide +kernel
theorem dX3_stepToZero_9 : decode cX3_stepToZero 9 = .ok (.sipush (-398), 3) := by decide +kernel
theorem dX3_stepToZero_12 : decode cX3_stepToZero 12 = .ok (.if_icmp .le 20, 3) := by decide +kernel
theorem dX3_stepToZero_15 : decode cX3_stepToZero 15 = .ok (.aload_n 0, 1) := by decide +kernel
theorem dX3_stepToZero_16 : decode cX3_stepToZero 16 = .ok (.getfield 16, 3) := by decide +kernel
theorem dX3_stepToZero_19 : decode cX3_stepToZero 19 = .ok (.iconst 1, 1) := by decide +kernel
theorem dX3_stepToZero_20 : decode cX3_stepToZero 20 = .ok (.ldc2_w 192, 3) := by decide +kernel
theorem dX3_stepToZero_23 : decode cX3_stepToZero 23 = .ok (.iload_n 3, 1) := by decide +kernel
theorem dX3_stepToZero_24 : decode cX3_stepToZero 24 = .ok (.iconst 1, 1) := by decide +kernel
theorem dX3_stepToZero_25 : decode cX3_stepToZero 25 = .ok (.isub, 1) := by decide +kernel
theorem dX3_stepToZero_26 : decode cX3_stepToZero 26 = .ok (.invokevirtual 55, 3) := by decide +kernel
theorem dX3_stepToZero_29 : decode cX3_stepToZero 29 = .ok (.goto 15, 3) := by decide +kernel
theorem dX3_stepToZero_32 : decode cX3_stepToZero 32 = .ok (.aload_n 0, 1) := by decide +kernel
theorem dX3_stepToZero_33 : decode cX3_stepToZero 33 = .ok (.getfield 16, 3) := by decide +kernel
theorem dX3_stepToZero_36 : decode cX3_stepToZero 36 = .ok (.iconst 1, 1) := by decide +kernel
theorem dX3_stepToZero_37 : decode cX3_stepToZero 37 = .ok (.lload_n 1, 1) := by decide +kernel
theorem dX3_stepToZero_38 : decode cX3_stepToZero 38 = .ok (.lconst 1, 1) := by decide +kernel
theorem dX3_stepToZero_39 : decode cX3_stepToZero 39 = .ok (.lsub, 1) := by decide +kernel
theorem dX3_stepToZero_40 : decode cX3_stepToZero 40 = .ok (.iload_n 3, 1) := by decide +kernel
theorem dX3_stepToZero_41 : decode cX3_stepToZero 41 = .ok (.invokevirtual 55, 3) := by decide +kernel
theorem dX3_stepToZero_44 : decode cX3_stepToZero 44 = .ok (.return_, 1) := by decide +kernel
theorem dX3_stepFromZero_0 : decode cX3_stepFromZero 0 = .ok (.lload_n 1, 1) := by decide +kernel
theorem dX3_stepFromZero_1 : decode cX3_stepFromZero 1 = .ok (.ldc2_w 192, 3) := by decide +kernel
theorem dX3_stepFromZero_4 : decode cX3_stepFromZero 4 = .ok (.lcmp, 1) := by decide +kernel
theorem dX3_stepFromZero_5 : decode cX3_stepFromZero 5 = .ok (.ifCond .ge 18, 3) := by decide +kernel
theorem dX3_stepFromZero_8 : decode cX3_stepFromZero 8 = .ok (.aload_n 0, 1) := by decide +kernel
theorem dX3_stepFromZero_9 : decode cX3_stepFromZero 9 = .ok (.getfield 16, 3) := by decide +kernel
theorem dX3_stepFromZero_12 : decode cX3_stepFromZero 12 = .ok (.iconst 0, 1) := by decide +kernel
theorem dX3_stepFromZero_13 : decode cX3_stepFromZero 13 = .ok (.lload_n 1, 1) := by decide +kernel
theorem dX3_stepFromZero_14 : decode cX3_stepFromZero 14 = .ok (.lconst 1, 1) := by decide +kernel
theorem dX3_stepFromZero_15 : decode cX3_stepFromZero 15 = .ok (.ladd, 1) := by decide +kernel
theorem dX3_stepFromZero_16 : decode cX3_stepFromZero 16 = .ok (.iload_n 3, 1) := by decide +kernel
theorem dX3_stepFromZero_17 : decode cX3_stepFromZero 17 = .ok (.invokevirtual 55, 3) := by decide +kernel
theorem dX3_stepFromZero_20 : decode cX3_stepFromZero 20 = .ok (.goto 35, 3) := by decide +kernel
theorem dX3_stepFromZero_23 : decode cX3_stepFromZero 23 = .ok (.iload_n 3, 1) := by decide +kernel
theorem dX3_stepFromZero_24 : decode cX3_stepFromZero 24 = .ok (.sipush 369, 3) := by decide +kernel
theorem dX3_stepFromZero_27 : decode cX3_stepFromZero 27 = .ok (.if_icmp .ge 20, 3) := by decide +kernel
theorem dX3_stepFromZero_30 : decode cX3_stepFromZero 30 = .ok (.aload_n 0, 1) := by decide +kernel
theorem dX3_stepFromZero_31 : decode cX3_stepFromZero 31 = .ok (.getfield 16, 3) := by decide +kernel
theorem dX3_stepFromZero_34 : decode cX3_stepFromZero 34 = .ok (.iconst 0, 1) := by decide +kernel
theorem dX3_stepFromZero_35 : decode cX3_stepFromZero 35 = .ok (.ldc2_w 207, 3) := by decide +kernel
theorem dX3_stepFromZero_38 : decode cX3_stepFromZero 38 = .ok (.iload_n 3, 1) := by decide +kernel
theorem dX3_stepFromZero_39 : decode cX3_stepFromZero 39 = .ok (.iconst 1, 1) := by decide +kernel
theorem dX3_stepFromZero_40 : decode cX3_stepFromZero 40 = .ok (.iadd, 1) := by decide +kernel
theorem dX3_stepFromZero_41 : decode cX3_stepFromZero 41 = .ok (.invokevirtual 55, 3) := by decide +kernel
theorem dX3_stepFromZero_44 : decode cX3_stepFromZero 44 = .ok (.goto 11, 3) := by decide +kernel
theorem dX3_stepFromZero_47 : decode cX3_stepFromZero 47 = .ok (.aload_n 0, 1) := by decide +kernel
theorem dX3_stepFromZero_48 : decode cX3_stepFromZero 48 = .ok (.getfield 16, 3) := by decide +kernel
theorem dX3_stepFromZero_51 : decode cX3_stepFromZero 51 = .ok (.iconst 0, 1) := by decide +kernel
theorem dX3_stepFromZero_52 : decode cX3_stepFromZero 52 = .ok (.invokevirtual 143, 3) := by decide +kernel
theorem dX3_stepFromZero_55 : decode cX3_stepFromZero 55 = .ok (.return_, 1) := by decide +kernel
theorem dX3_raise_0 : decode cX3_raise 0 = .ok (.aload_n 0, 1) := by decide +kernel
theorem dX3_raise_1 : decode cX3_raise 1 = .ok (.dup, 1) := by decide +kernel
theorem dX3_raise_2 : decode cX3_raise 2 = .ok (.getfield 37, 3) := by decide +kernel
theorem dX3_raise_5 : decode cX3_raise 5 = .ok (.iload_n 1, 1) := by decide +kernel
theorem dX3_raise_6 : decode cX3_raise 6 = .ok (.ior, 1) := by decide +kernel
theorem dX3_raise_7 : decode cX3_raise 7 = .ok (.putfield 37, 3) := by decide +kernel
theorem dX3_raise_10 : decode cX3_raise 10 = .ok (.return_, 1) := by decide +kernel
theorem dX3_setInvalid_0 : decode cX3_setInvalid 0 = .ok (.aload_n 0, 1) := by decide +kernel
theorem dX3_setInvalid_1 : decode cX3_setInvalid 1 = .ok (.iconst 1, 1) := by decide +kernel
theorem dX3_setInvalid_2 : decode cX3_setInvalid 2 = .ok (.invokevirtual 168, 3) := by decide +kernel
theorem dX3_setInvalid_5 : decode cX3_setInvalid 5 = .ok (.aload_n 0, 1) := by decide +kernel
theorem dX3_setInvalid_6 : decode cX3_setInvalid 6 = .ok (.getfield 16, 3) := by decide +kernel
theorem dX3_setInvalid_9 : decode cX3_setInvalid 9 = .ok (.invokevirtual 123, 3) := by decide +kernel
theorem dX3_setInvalid_12 : decode cX3_setInvalid 12 = .ok (.return_, 1) := by decide +kernel
theorem dX3_fit_0 : decode cX3_fit 0 = .ok (.aload_n 0, 1) := by decide +kernel
theorem dX3_fit_1 : decode cX3_fit 1 = .ok (.getfield 23, 3) := by decide +kernel
theorem dX3_fit_4 : decode cX3_fit 4 = .ok (.invokevirtual 209, 3) := by decide +kernel
theorem dX3_fit_7 : decode cX3_fit 7 = .ok (.ifCond .eq 42, 3) := by decide +kernel
theorem dX3_fit_10 : decode cX3_fit 10 = .ok (.sipush (-398), 3) := by decide +kernel
theorem dX3_fit_13 : decode cX3_fit 13 = .ok (.aload_n 0, 1) := by decide +kernel
theorem dX3_fit_14 : decode cX3_fit 14 = .ok (.getfield 23, 3) := by decide +kernel
theorem dX3_fit_17 : decode cX3_fit 17 = .ok (.getfield 210, 3) := by decide +kernel
theorem dX3_fit_20 : decode cX3_fit 20 = .ok (.sipush 369, 3) := by decide +kernel
theorem dX3_fit_23 : decode cX3_fit 23 = .ok (.invokestatic 194, 3) := by decide +kernel
theorem dX3_fit_26 : decode cX3_fit 26 = .ok (.invokestatic 213, 3) := by decide +kernel
theorem dX3_fit_29 : decode cX3_fit 29 = .ok (.istore_n 1, 1) := by decide +kernel
theorem dX3_fit_30 : decode cX3_fit 30 = .ok (.aload_n 0, 1) := by decide +kernel
theorem dX3_fit_31 : decode cX3_fit 31 = .ok (.getfield 16, 3) := by decide +kernel
theorem dX3_fit_34 : decode cX3_fit 34 = .ok (.aload_n 0, 1) := by decide +kernel
theorem dX3_fit_35 : decode cX3_fit 35 = .ok (.getfield 23, 3) := by decide +kernel
theorem dX3_fit_38 : decode cX3_fit 38 = .ok (.getfield 216, 3) := by decide +kernel
theorem dX3_fit_41 : decode cX3_fit 41 = .ok (.lconst 0, 1) := by decide +kernel
theorem dX3_fit_42 : decode cX3_fit 42 = .ok (.iload_n 1, 1) := by decide +kernel
theorem dX3_fit_43 : decode cX3_fit 43 = .ok (.invokevirtual 55, 3) := by decide +kernel
theorem dX3_fit_46 : decode cX3_fit 46 = .ok (.goto 14, 3) := by decide +kernel
theorem dX3_fit_49 : decode cX3_fit 49 = .ok (.aload_n 0, 1) := by decide +kernel
theorem dX3_fit_50 : decode cX3_fit 50 = .ok (.invokevirtual 217, 3) := by decide +kernel
theorem dX3_fit_53 : decode cX3_fit 53 = .ok (.ifCond .ne 7, 3) := by decide +kernel
theorem dX3_fit_56 : decode cX3_fit 56 = .ok (.aload_n 0, 1) := by decide +kernel
theorem dX3_fit_57 : decode cX3_fit 57 = .ok (.invokevirtual 220, 3) := by decide +kernel
theorem dX3_fit_60 : decode cX3_fit 60 = .ok (.return_, 1) := by decide +kernel
theorem dX3_fitWithoutRest_0 : decode cX3_fitWithoutRest 0 = .ok (.aload_n 0, 1) := by decide +kernel
theorem dX3_fitWithoutRest_1 : decode cX3_fitWithoutRest 1 = .ok (.getfield 23, 3) := by decide +kernel
theorem dX3_fitWithoutRest_4 : decode cX3_fitWithoutRest 4 = .ok (.getfield 223, 3) := by decide +kernel
theorem dX3_fitWithoutRest_7 : decode cX3_fitWithoutRest 7 = .ok (.ifCond .eq 5, 3) := by decide +kernel
theorem dX3_fitWithoutRest_10 : decode cX3_fitWithoutRest 10 = .ok (.iconst 0, 1) := by decide +kernel
theorem dX3_fitWithoutRest_11 : decode cX3_fitWithoutRest 11 = .ok (.ireturn, 1) := by decide +kernel
theorem dX3_fitWithoutRest_12 : decode cX3_fitWithoutRest 12 = .ok (.aload_n 0, 1) := by decide +kernel
theorem dX3_fitWithoutRest_13 : decode cX3_fitWithoutRest 13 = .ok (.getfield 23, 3) := by decide +kernel
theorem dX3_fitWithoutRest_16 : decode cX3_fitWithoutRest 16 = .ok (.invokevirtual 226, 3) := by decide +kernel
theorem dX3_fitWithoutRest_19 : decode cX3_fitWithoutRest 19 = .ok (.aload_n 0, 1) := by decide +kernel
theorem dX3_fitWithoutRest_20 : decode cX3_fitWithoutRest 20 = .ok (.getfield 23, 3) := by decide +kernel
theorem dX3_fitWithoutRest_23 : decode cX3_fitWithoutRest 23 = .ok (.getfield 229, 3) := by decide +kernel
theorem dX3_fitWithoutRest_26 : decode cX3_fitWithoutRest 26 = .ok (.lconst 0, 1) := by decide +kernel
theorem dX3_fitWithoutRest_27 : decode cX3_fitWithoutRest 27 = .ok (.lcmp, 1) := by decide +kernel
theorem dX3_fitWithoutRest_28 : decode cX3_fitWithoutRest 28 = .ok (.ifCond .eq 5, 3) := by decide +kernel
theorem dX3_fitWithoutRest_31 : decode cX3_fitWithoutRest 31 = .ok (.iconst 0, 1) := by decide +kernel
theorem dX3_fitWithoutRest_32 : decode cX3_fitWithoutRest 32 = .ok (.ireturn, 1) := by decide +kernel
theorem dX3_fitWithoutRest_33 : decode cX3_fitWithoutRest 33 = .ok (.sipush (-398), 3) := by decide +kernel
theorem dX3_fitWithoutRest_36 : decode cX3_fitWithoutRest 36 = .ok (.aload_n 0, 1) := by decide +kernel
theorem dX3_fitWithoutRest_37 : decode cX3_fitWithoutRest 37 = .ok (.getfield 23, 3) := by decide +kernel
theorem dX3_fitWithoutRest_40 : decode cX3_fitWithoutRest 40 = .ok (.getfield 232, 3) := by decide +kernel
theorem dX3_fitWithoutRest_43 : decode cX3_fitWithoutRest 43 = .ok (.bipush 16, 2) := by decide +kernel
theorem dX3_fitWithoutRest_45 : decode cX3_fitWithoutRest 45 = .ok (.aload_n 0, 1) := by decide +kernel
theorem dX3_fitWithoutRest_46 : decode cX3_fitWithoutRest 46 = .ok (.getfield 23, 3) := by decide +kernel
theorem dX3_fitWithoutRest_49 : decode cX3_fitWithoutRest 49 = .ok (.getfield 235, 3) := by decide +kernel
theorem dX3_fitWithoutRest_52 : decode cX3_fitWithoutRest 52 = .ok (.invokestatic 184, 3) := by decide +kernel
theorem dX3_fitWithoutRest_55 : decode cX3_fitWithoutRest 55 = .ok (.isub, 1) := by decide +kernel
theorem dX3_fitWithoutRest_56 : decode cX3_fitWithoutRest 56 = .ok (.isub, 1) := by decide +kernel
theorem dX3_fitWithoutRest_57 : decode cX3_fitWithoutRest 57 = .ok (.invokestatic 213, 3) := by decide +kernel
theorem dX3_fitWithoutRest_60 : decode cX3_fitWithoutRest 60 = .ok (.istore_n 1, 1) := by decide +kernel
theorem dX3_fitWithoutRest_61 : decode cX3_fitWithoutRest 61 = .ok (.sipush 369, 3) := by decide +kernel
theorem dX3_fitWithoutRest_64 : decode cX3_fitWithoutRest 64 = .ok (.aload_n 0, 1) := by decide +kernel
theorem dX3_fitWithoutRest_65 : decode cX3_fitWithoutRest 65 = .ok (.getfield 23, 3) := by decide +kernel
theorem dX3_fitWithoutRest_68 : decode cX3_fitWithoutRest 68 = .ok (.getfield 232, 3) := by decide +kernel
theorem dX3_fitWithoutRest_71 : decode cX3_fitWithoutRest 71 = .ok (.invokestatic 194, 3) := by decide +kernel
theorem dX3_fitWithoutRest_74 : decode cX3_fitWithoutRest 74 = .ok (.istore_n 2, 1) := by decide +kernel
theorem dX3_fitWithoutRest_75 : decode cX3_fitWithoutRest 75 = .ok (.iload_n 1, 1) := by decide +kernel
theorem dX3_fitWithoutRest_76 : decode cX3_fitWithoutRest 76 = .ok (.iload_n 2, 1) := by decide +kernel
theorem dX3_fitWithoutRest_77 : decode cX3_fitWithoutRest 77 = .ok (.if_icmp .le 5, 3) := by decide +kernel
theorem dX3_fitWithoutRest_80 : decode cX3_fitWithoutRest 80 = .ok (.iconst 0, 1) := by decide +kernel
theorem dX3_fitWithoutRest_81 : decode cX3_fitWithoutRest 81 = .ok (.ireturn, 1) := by decide +kernel
theorem dX3_fitWithoutRest_82 : decode cX3_fitWithoutRest 82 = .ok (.iload_n 1, 1) := by decide +kernel
theorem dX3_fitWithoutRest_83 : decode cX3_fitWithoutRest 83 = .ok (.aload_n 0, 1) := by decide +kernel
theorem dX3_fitWithoutRest_84 : decode cX3_fitWithoutRest 84 = .ok (.getfield 23, 3) := by decide +kernel
theorem dX3_fitWithoutRest_87 : decode cX3_fitWithoutRest 87 = .ok (.getfield 210, 3) := by decide +kernel
theorem dX3_fitWithoutRest_90 : decode cX3_fitWithoutRest 90 = .ok (.iload_n 2, 1) := by decide +kernel
theorem dX3_fitWithoutRest_91 : decode cX3_fitWithoutRest 91 = .ok (.invokestatic 194, 3) := by decide +kernel
theorem dX3_fitWithoutRest_94 : decode cX3_fitWithoutRest 94 = .ok (.invokestatic 213, 3) := by decide +kernel
theorem dX3_fitWithoutRest_97 : decode cX3_fitWithoutRest 97 = .ok (.istore_n 3, 1) := by decide +kernel
theorem dX3_fitWithoutRest_98 : decode cX3_fitWithoutRest 98 = .ok (.aload_n 0, 1) := by decide +kernel
theorem dX3_fitWithoutRest_99 : decode cX3_fitWithoutRest 99 = .ok (.getfield 16, 3) := by decide +kernel
theorem dX3_fitWithoutRest_102 : decode cX3_fitWithoutRest 102 = .ok (.aload_n 0, 1) := by decide +kernel
theorem dX3_fitWithoutRest_103 : decode cX3_fitWithoutRest 103 = .ok (.getfield 23, 3) := by decide +kernel
theorem dX3_fitWithoutRest_106 : decode cX3_fitWithoutRest 106 = .ok (.getfield 216, 3) := by decide +kernel
theorem dX3_fitWithoutRest_109 : decode cX3_fitWithoutRest 109 = .ok (.aload_n 0, 1) := by decide +kernel
theorem dX3_fitWithoutRest_110 : decode cX3_fitWithoutRest 110 = .ok (.getfield 23, 3) := by decide +kernel
theorem dX3_fitWithoutRest_113 : decode cX3_fitWithoutRest 113 = .ok (.getfield 235, 3) := by decide +kernel
theorem dX3_fitWithoutRest_116 : decode cX3_fitWithoutRest 116 = .ok (.aload_n 0, 1) := by decide +kernel
theorem dX3_fitWithoutRest_117 : decode cX3_fitWithoutRest 117 = .ok (.getfield 23, 3) := by decide +kernel
theorem dX3_fitWithoutRest_120 : decode cX3_fitWithoutRest 120 = .ok (.getfield 232, 3) := by decide +kernel
theorem dX3_fitWithoutRest_123 : decode cX3_fitWithoutRest 123 = .ok (.iload_n 3, 1) := by decide +kernel
theorem dX3_fitWithoutRest_124 : decode cX3_fitWithoutRest 124 = .ok (.isub, 1) := by decide +kernel
theorem dX3_fitWithoutRest_125 : decode cX3_fitWithoutRest 125 = .ok (.invokestatic 188, 3) := by decide +kernel
theorem dX3_fitWithoutRest_128 : decode cX3_fitWithoutRest 128 = .ok (.lmul, 1) := by decide +kernel
theorem dX3_fitWithoutRest_129 : decode cX3_fitWithoutRest 129 = .ok (.iload_n 3, 1) := by decide +kernel
theorem dX3_fitWithoutRest_130 : decode cX3_fitWithoutRest 130 = .ok (.invokevirtual 55, 3) := by decide +kernel
theorem dX3_fitWithoutRest_133 : decode cX3_fitWithoutRest 133 = .ok (.iconst 1, 1) := by decide +kernel
theorem dX3_fitWithoutRest_134 : decode cX3_fitWithoutRest 134 = .ok (.ireturn, 1) := by decide +kernel
theorem dX3_fitRounded_0 : decode cX3_fitRounded 0 = .ok (.aload_n 0, 1) := by decide +kernel
theorem dX3_fitRounded_1 : decode cX3_fitRounded 1 = .ok (.bipush 16, 2) := by decide +kernel
theorem dX3_fitRounded_3 : decode cX3_fitRounded 3 = .ok (.invokevirtual 168, 3) := by decide +kernel
theorem dX3_fitRounded_6 : decode cX3_fitRounded 6 = .ok (.aload_n 0, 1) := by decide +kernel
theorem dX3_fitRounded_7 : decode cX3_fitRounded 7 = .ok (.getfield 23, 3) := by decide +kernel
theorem dX3_fitRounded_10 : decode cX3_fitRounded 10 = .ok (.getfield 232, 3) := by decide +kernel
theorem dX3_fitRounded_13 : decode cX3_fitRounded 13 = .ok (.aload_n 0, 1) := by decide +kernel
theorem dX3_fitRounded_14 : decode cX3_fitRounded 14 = .ok (.getfield 23, 3) := by decide +kernel
theorem dX3_fitRounded_17 : decode cX3_fitRounded 17 = .ok (.invokevirtual 238, 3) := by decide +kernel
theorem dX3_fitRounded_20 : decode cX3_fitRounded 20 = .ok (.iadd, 1) := by decide +kernel
theorem dX3_fitRounded_21 : decode cX3_fitRounded 21 = .ok (.istore_n 1, 1) := by decide +kernel
theorem dX3_fitRounded_22 : decode cX3_fitRounded 22 = .ok (.sipush (-398), 3) := by decide +kernel
theorem dX3_fitRounded_25 : decode cX3_fitRounded 25 = .ok (.iload_n 1, 1) := by decide +kernel
theorem dX3_fitRounded_26 : decode cX3_fitRounded 26 = .ok (.bipush 16, 2) := by decide +kernel
theorem dX3_fitRounded_28 : decode cX3_fitRounded 28 = .ok (.isub, 1) := by decide +kernel
theorem dX3_fitRounded_29 : decode cX3_fitRounded 29 = .ok (.invokestatic 213, 3) := by decide +kernel
theorem dX3_fitRounded_32 : decode cX3_fitRounded 32 = .ok (.istore_n 2, 1) := by decide +kernel
theorem dX3_fitRounded_33 : decode cX3_fitRounded 33 = .ok (.iload_n 2, 1) := by decide +kernel
theorem dX3_fitRounded_34 : decode cX3_fitRounded 34 = .ok (.sipush 369, 3) := by decide +kernel
theorem dX3_fitRounded_37 : decode cX3_fitRounded 37 = .ok (.if_icmp .le 8, 3) := by decide +kernel
theorem dX3_fitRounded_40 : decode cX3_fitRounded 40 = .ok (.aload_n 0, 1) := by decide +kernel
theorem dX3_fitRounded_41 : decode cX3_fitRounded 41 = .ok (.invokevirtual 242, 3) := by decide +kernel
theorem dX3_fitRounded_44 : decode cX3_fitRounded 44 = .ok (.return_, 1) := by decide +kernel
theorem dX3_fitRounded_45 : decode cX3_fitRounded 45 = .ok (.aload_n 0, 1) := by decide +kernel
theorem dX3_fitRounded_46 : decode cX3_fitRounded 46 = .ok (.getfield 23, 3) := by decide +kernel
theorem dX3_fitRounded_49 : decode cX3_fitRounded 49 = .ok (.iload_n 2, 1) := by decide +kernel
theorem dX3_fitRounded_50 : decode cX3_fitRounded 50 = .ok (.aload_n 0, 1) := by decide +kernel
theorem dX3_fitRounded_51 : decode cX3_fitRounded 51 = .ok (.getfield 23, 3) := by decide +kernel
theorem dX3_fitRounded_54 : decode cX3_fitRounded 54 = .ok (.getfield 232, 3) := by decide +kernel
theorem dX3_fitRounded_57 : decode cX3_fitRounded 57 = .ok (.isub, 1) := by decide +kernel
theorem dX3_fitRounded_58 : decode cX3_fitRounded 58 = .ok (.invokevirtual 174, 3) := by decide +kernel
theorem dX3_fitRounded_61 : decode cX3_fitRounded 61 = .ok (.aload_n 0, 1) := by decide +kernel
theorem dX3_fitRounded_62 : decode cX3_fitRounded 62 = .ok (.aload_n 0, 1) := by decide +kernel
theorem dX3_fitRounded_63 : decode cX3_fitRounded 63 = .ok (.getfield 23, 3) := by decide +kernel
theorem dX3_fitRounded_66 : decode cX3_fitRounded 66 = .ok (.getfield 216, 3) := by decide +kernel
theorem dX3_fitRounded_69 : decode cX3_fitRounded 69 = .ok (.invokevirtual 180, 3) := by decide +kernel
theorem dX3_fitRounded_72 : decode cX3_fitRounded 72 = .ok (.lstore_n 3, 1) := by decide +kernel
theorem dX3_fitRounded_73 : decode cX3_fitRounded 73 = .ok (.lload_n 3, 1) := by decide +kernel
theorem dX3_fitRounded_74 : decode cX3_fitRounded 74 = .ok (.ldc2_w 44, 3) := by decide +kernel
theorem dX3_fitRounded_77 : decode cX3_fitRounded 77 = .ok (.lcmp, 1) := by decide +kernel
theorem dX3_fitRounded_78 : decode cX3_fitRounded 78 = .ok (.ifCond .lt 10, 3) := by decide +kernel
theorem dX3_fitRounded_81 : decode cX3_fitRounded 81 = .ok (.ldc2_w 207, 3) := by decide +kernel
theorem dX3_fitRounded_84 : decode cX3_fitRounded 84 = .ok (.lstore_n 3, 1) := by decide +kernel
theorem dX3_fitRounded_85 : decode cX3_fitRounded 85 = .ok (.iinc 2 1, 3) := by decide +kernel
theorem dX3_fitRounded_88 : decode cX3_fitRounded 88 = .ok (.iload_n 2, 1) := by decide +kernel
theorem dX3_fitRounded_89 : decode cX3_fitRounded 89 = .ok (.sipush 369, 3) := by decide +kernel
theorem dX3_fitRounded_92 : decode cX3_fitRounded 92 = .ok (.if_icmp .le 8, 3) := by decide +kernel
theorem dX3_fitRounded_95 : decode cX3_fitRounded 95 = .ok (.aload_n 0, 1) := by decide +kernel
theorem dX3_fitRounded_96 : decode cX3_fitRounded 96 = .ok (.invokevirtual 242, 3) := by decide +kernel
theorem dX3_fitRounded_99 : decode cX3_fitRounded 99 = .ok (.return_, 1) := by decide +kernel
theorem dX3_fitRounded_100 : decode cX3_fitRounded 100 = .ok (.iload_n 1, 1) := by decide +kernel
theorem dX3_fitRounded_101 : decode cX3_fitRounded 101 = .ok (.sipush (-383), 3) := by decide +kernel
theorem dX3_fitRounded_104 : decode cX3_fitRounded 104 = .ok (.if_icmp .gt 9, 3) := by decide +kernel
theorem dX3_fitRounded_107 : decode cX3_fitRounded 107 = .ok (.aload_n 0, 1) := by decide +kernel
theorem dX3_fitRounded_108 : decode cX3_fitRounded 108 = .ok (.bipush 8, 2) := by decide +kernel
theorem dX3_fitRounded_110 : decode cX3_fitRounded 110 = .ok (.invokevirtual 168, 3) := by decide +kernel
theorem dX3_fitRounded_113 : decode cX3_fitRounded 113 = .ok (.aload_n 0, 1) := by decide +kernel
theorem dX3_fitRounded_114 : decode cX3_fitRounded 114 = .ok (.getfield 16, 3) := by decide +kernel
theorem dX3_fitRounded_117 : decode cX3_fitRounded 117 = .ok (.aload_n 0, 1) := by decide +kernel
theorem dX3_fitRounded_118 : decode cX3_fitRounded 118 = .ok (.getfield 23, 3) := by decide +kernel
theorem dX3_fitRounded_121 : decode cX3_fitRounded 121 = .ok (.getfield 216, 3) := by decide +kernel
theorem dX3_fitRounded_124 : decode cX3_fitRounded 124 = .ok (.lload_n 3, 1) := by decide +kernel
theorem dX3_fitRounded_125 : decode cX3_fitRounded 125 = .ok (.iload_n 2, 1) := by decide +kernel
theorem dX3_fitRounded_126 : decode cX3_fitRounded 126 = .ok (.invokevirtual 55, 3) := by decide +kernel
theorem dX3_fitRounded_129 : decode cX3_fitRounded 129 = .ok (.return_, 1) := by decide +kernel
theorem dX3_setTooGreat_0 : decode cX3_setTooGreat 0 = .ok (.aload_n 0, 1) := by decide +kernel
theorem dX3_setTooGreat_1 : decode cX3_setTooGreat 1 = .ok (.iconst 4, 1) := by decide +kernel
theorem dX3_setTooGreat_2 : decode cX3_setTooGreat 2 = .ok (.invokevirtual 168, 3) := by decide +kernel
theorem dX3_setTooGreat_5 : decode cX3_setTooGreat 5 = .ok (.aload_n 0, 1) := by decide +kernel
theorem dX3_setTooGreat_6 : decode cX3_setTooGreat 6 = .ok (.getfield 27, 3) := by decide +kernel
theorem dX3_setTooGreat_9 : decode cX3_setTooGreat 9 = .ok (.iconst 2, 1) := by decide +kernel
theorem dX3_setTooGreat_10 : decode cX3_setTooGreat 10 = .ok (.if_icmp .eq 39, 3) := by decide +kernel
theorem dX3_setTooGreat_13 : decode cX3_setTooGreat 13 = .ok (.aload_n 0, 1) := by decide +kernel
theorem dX3_setTooGreat_14 : decode cX3_setTooGreat 14 = .ok (.getfield 27, 3) := by decide +kernel
theorem dX3_setTooGreat_17 : decode cX3_setTooGreat 17 = .ok (.iconst 3, 1) := by decide +kernel
theorem dX3_setTooGreat_18 : decode cX3_setTooGreat 18 = .ok (.if_icmp .ne 13, 3) := by decide +kernel
theorem dX3_setTooGreat_21 : decode cX3_setTooGreat 21 = .ok (.aload_n 0, 1) := by decide +kernel
theorem dX3_setTooGreat_22 : decode cX3_setTooGreat 22 = .ok (.getfield 23, 3) := by decide +kernel
theorem dX3_setTooGreat_25 : decode cX3_setTooGreat 25 = .ok (.getfield 216, 3) := by decide +kernel
theorem dX3_setTooGreat_28 : decode cX3_setTooGreat 28 = .ok (.ifCond .ne 21, 3) := by decide +kernel
theorem dX3_setTooGreat_31 : decode cX3_setTooGreat 31 = .ok (.aload_n 0, 1) := by decide +kernel
theorem dX3_setTooGreat_32 : decode cX3_setTooGreat 32 = .ok (.getfield 27, 3) := by decide +kernel
theorem dX3_setTooGreat_35 : decode cX3_setTooGreat 35 = .ok (.iconst 4, 1) := by decide +kernel
theorem dX3_setTooGreat_36 : decode cX3_setTooGreat 36 = .ok (.if_icmp .ne 17, 3) := by decide +kernel
theorem dX3_setTooGreat_39 : decode cX3_setTooGreat 39 = .ok (.aload_n 0, 1) := by decide +kernel
theorem dX3_setTooGreat_40 : decode cX3_setTooGreat 40 = .ok (.getfield 23, 3) := by decide +kernel
theorem dX3_setTooGreat_43 : decode cX3_setTooGreat 43 = .ok (.getfield 216, 3) := by decide +kernel
theorem dX3_setTooGreat_46 : decode cX3_setTooGreat 46 = .ok (.ifCond .ne 7, 3) := by decide +kernel
theorem dX3_setTooGreat_49 : decode cX3_setTooGreat 49 = .ok (.iconst 1, 1) := by decide +kernel
theorem dX3_setTooGreat_50 : decode cX3_setTooGreat 50 = .ok (.goto 4, 3) := by decide +kernel
theorem dX3_setTooGreat_53 : decode cX3_setTooGreat 53 = .ok (.iconst 0, 1) := by decide +kernel
theorem dX3_setTooGreat_54 : decode cX3_setTooGreat 54 = .ok (.istore_n 1, 1) := by decide +kernel
theorem dX3_setTooGreat_55 : decode cX3_setTooGreat 55 = .ok (.iload_n 1, 1) := by decide +kernel
theorem dX3_setTooGreat_56 : decode cX3_setTooGreat 56 = .ok (.ifCond .eq 26, 3) := by decide +kernel
theorem dX3_setTooGreat_59 : decode cX3_setTooGreat 59 = .ok (.aload_n 0, 1) := by decide +kernel
theorem dX3_setTooGreat_60 : decode cX3_setTooGreat 60 = .ok (.getfield 16, 3) := by decide +kernel
theorem dX3_setTooGreat_63 : decode cX3_setTooGreat 63 = .ok (.aload_n 0, 1) := by decide +kernel
theorem dX3_setTooGreat_64 : decode cX3_setTooGreat 64 = .ok (.getfield 23, 3) := by decide +kernel
theorem dX3_setTooGreat_67 : decode cX3_setTooGreat 67 = .ok (.getfield 216, 3) := by decide +kernel
theorem dX3_setTooGreat_70 : decode cX3_setTooGreat 70 = .ok (.ldc2_w 192, 3) := by decide +kernel
theorem dX3_setTooGreat_73 : decode cX3_setTooGreat 73 = .ok (.sipush 369, 3) := by decide +kernel
theorem dX3_setTooGreat_76 : decode cX3_setTooGreat 76 = .ok (.invokevirtual 55, 3) := by decide +kernel
theorem dX3_setTooGreat_79 : decode cX3_setTooGreat 79 = .ok (.goto 17, 3) := by decide +kernel
theorem dX3_setTooGreat_82 : decode cX3_setTooGreat 82 = .ok (.aload_n 0, 1) := by decide +kernel
theorem dX3_setTooGreat_83 : decode cX3_setTooGreat 83 = .ok (.getfield 16, 3) := by decide +kernel
theorem dX3_setTooGreat_86 : decode cX3_setTooGreat 86 = .ok (.aload_n 0, 1) := by decide +kernel
theorem dX3_setTooGreat_87 : decode cX3_setTooGreat 87 = .ok (.getfield 23, 3) := by decide +kernel
theorem dX3_setTooGreat_90 : decode cX3_setTooGreat 90 = .ok (.getfield 216, 3) := by decide +kernel
theorem dX3_setTooGreat_93 : decode cX3_setTooGreat 93 = .ok (.invokevirtual 143, 3) := by decide +kernel
theorem dX3_setTooGreat_96 : decode cX3_setTooGreat 96 = .ok (.return_, 1) := by decide +kernel
theorem dX3_roundedKept_0 : decode cX3_roundedKept 0 = .ok (.aload_n 0, 1) := by decide +kernel
theorem dX3_roundedKept_1 : decode cX3_roundedKept 1 = .ok (.getfield 27, 3) := by decide +kernel
theorem dX3_roundedKept_4 : decode cX3_roundedKept 4 = .ok (.tableswitch 160 0 4 #[36, 83, 160, 114, 137], 36) := by decide +kernel
theorem dX3_roundedKept_40 : decode cX3_roundedKept 40 = .ok (.aload_n 0, 1) := by decide +kernel
theorem dX3_roundedKept_41 : decode cX3_roundedKept 41 = .ok (.getfield 23, 3) := by decide +kernel
theorem dX3_roundedKept_44 : decode cX3_roundedKept 44 = .ok (.getfield 177, 3) := by decide +kernel
theorem dX3_roundedKept_47 : decode cX3_roundedKept 47 = .ok (.iconst 3, 1) := by decide +kernel
theorem dX3_roundedKept_48 : decode cX3_roundedKept 48 = .ok (.if_icmp .eq 30, 3) := by decide +kernel
theorem dX3_roundedKept_51 : decode cX3_roundedKept 51 = .ok (.aload_n 0, 1) := by decide +kernel
theorem dX3_roundedKept_52 : decode cX3_roundedKept 52 = .ok (.getfield 23, 3) := by decide +kernel
theorem dX3_roundedKept_55 : decode cX3_roundedKept 55 = .ok (.getfield 177, 3) := by decide +kernel
theorem dX3_roundedKept_58 : decode cX3_roundedKept 58 = .ok (.iconst 2, 1) := by decide +kernel
theorem dX3_roundedKept_59 : decode cX3_roundedKept 59 = .ok (.if_icmp .ne 23, 3) := by decide +kernel
theorem dX3_roundedKept_62 : decode cX3_roundedKept 62 = .ok (.aload_n 0, 1) := by decide +kernel
theorem dX3_roundedKept_63 : decode cX3_roundedKept 63 = .ok (.getfield 23, 3) := by decide +kernel
theorem dX3_roundedKept_66 : decode cX3_roundedKept 66 = .ok (.getfield 245, 3) := by decide +kernel
theorem dX3_roundedKept_69 : decode cX3_roundedKept 69 = .ok (.ldc2_w 248, 3) := by decide +kernel
theorem dX3_roundedKept_72 : decode cX3_roundedKept 72 = .ok (.lrem, 1) := by decide +kernel
theorem dX3_roundedKept_73 : decode cX3_roundedKept 73 = .ok (.lconst 0, 1) := by decide +kernel
theorem dX3_roundedKept_74 : decode cX3_roundedKept 74 = .ok (.lcmp, 1) := by decide +kernel
theorem dX3_roundedKept_75 : decode cX3_roundedKept 75 = .ok (.ifCond .eq 7, 3) := by decide +kernel
theorem dX3_roundedKept_78 : decode cX3_roundedKept 78 = .ok (.iconst 1, 1) := by decide +kernel
theorem dX3_roundedKept_79 : decode cX3_roundedKept 79 = .ok (.goto 4, 3) := by decide +kernel
theorem dX3_roundedKept_82 : decode cX3_roundedKept 82 = .ok (.iconst 0, 1) := by decide +kernel
theorem dX3_roundedKept_83 : decode cX3_roundedKept 83 = .ok (.istore_n 2, 1) := by decide +kernel
theorem dX3_roundedKept_84 : decode cX3_roundedKept 84 = .ok (.goto 82, 3) := by decide +kernel
theorem dX3_roundedKept_87 : decode cX3_roundedKept 87 = .ok (.aload_n 0, 1) := by decide +kernel
theorem dX3_roundedKept_88 : decode cX3_roundedKept 88 = .ok (.getfield 23, 3) := by decide +kernel
theorem dX3_roundedKept_91 : decode cX3_roundedKept 91 = .ok (.getfield 177, 3) := by decide +kernel
theorem dX3_roundedKept_94 : decode cX3_roundedKept 94 = .ok (.iconst 2, 1) := by decide +kernel
theorem dX3_roundedKept_95 : decode cX3_roundedKept 95 = .ok (.if_icmp .eq 14, 3) := by decide +kernel
theorem dX3_roundedKept_98 : decode cX3_roundedKept 98 = .ok (.aload_n 0, 1) := by decide +kernel
theorem dX3_roundedKept_99 : decode cX3_roundedKept 99 = .ok (.getfield 23, 3) := by decide +kernel
theorem dX3_roundedKept_102 : decode cX3_roundedKept 102 = .ok (.getfield 177, 3) := by decide +kernel
theorem dX3_roundedKept_105 : decode cX3_roundedKept 105 = .ok (.iconst 3, 1) := by decide +kernel
theorem dX3_roundedKept_106 : decode cX3_roundedKept 106 = .ok (.if_icmp .ne 7, 3) := by decide +kernel
theorem dX3_roundedKept_109 : decode cX3_roundedKept 109 = .ok (.iconst 1, 1) := by decide +kernel
theorem dX3_roundedKept_110 : decode cX3_roundedKept 110 = .ok (.goto 4, 3) := by decide +kernel
theorem dX3_roundedKept_113 : decode cX3_roundedKept 113 = .ok (.iconst 0, 1) := by decide +kernel
theorem dX3_roundedKept_114 : decode cX3_roundedKept 114 = .ok (.istore_n 2, 1) := by decide +kernel
theorem dX3_roundedKept_115 : decode cX3_roundedKept 115 = .ok (.goto 51, 3) := by decide +kernel
theorem dX3_roundedKept_118 : decode cX3_roundedKept 118 = .ok (.aload_n 0, 1) := by decide +kernel
theorem dX3_roundedKept_119 : decode cX3_roundedKept 119 = .ok (.getfield 23, 3) := by decide +kernel
theorem dX3_roundedKept_122 : decode cX3_roundedKept 122 = .ok (.getfield 177, 3) := by decide +kernel
theorem dX3_roundedKept_125 : decode cX3_roundedKept 125 = .ok (.ifCond .eq 11, 3) := by decide +kernel
theorem dX3_roundedKept_128 : decode cX3_roundedKept 128 = .ok (.iload_n 1, 1) := by decide +kernel
theorem dX3_roundedKept_129 : decode cX3_roundedKept 129 = .ok (.ifCond .ne 7, 3) := by decide +kernel
theorem dX3_roundedKept_132 : decode cX3_roundedKept 132 = .ok (.iconst 1, 1) := by decide +kernel
theorem dX3_roundedKept_133 : decode cX3_roundedKept 133 = .ok (.goto 4, 3) := by decide +kernel
theorem dX3_roundedKept_136 : decode cX3_roundedKept 136 = .ok (.iconst 0, 1) := by decide +kernel
theorem dX3_roundedKept_137 : decode cX3_roundedKept 137 = .ok (.istore_n 2, 1) := by decide +kernel
theorem dX3_roundedKept_138 : decode cX3_roundedKept 138 = .ok (.goto 28, 3) := by decide +kernel
theorem dX3_roundedKept_141 : decode cX3_roundedKept 141 = .ok (.aload_n 0, 1) := by decide +kernel
theorem dX3_roundedKept_142 : decode cX3_roundedKept 142 = .ok (.getfield 23, 3) := by decide +kernel
theorem dX3_roundedKept_145 : decode cX3_roundedKept 145 = .ok (.getfield 177, 3) := by decide +kernel
theorem dX3_roundedKept_148 : decode cX3_roundedKept 148 = .ok (.ifCond .eq 11, 3) := by decide +kernel
theorem dX3_roundedKept_151 : decode cX3_roundedKept 151 = .ok (.iload_n 1, 1) := by decide +kernel
theorem dX3_roundedKept_152 : decode cX3_roundedKept 152 = .ok (.ifCond .eq 7, 3) := by decide +kernel
theorem dX3_roundedKept_155 : decode cX3_roundedKept 155 = .ok (.iconst 1, 1) := by decide +kernel
theorem dX3_roundedKept_156 : decode cX3_roundedKept 156 = .ok (.goto 4, 3) := by decide +kernel
theorem dX3_roundedKept_159 : decode cX3_roundedKept 159 = .ok (.iconst 0, 1) := by decide +kernel
theorem dX3_roundedKept_160 : decode cX3_roundedKept 160 = .ok (.istore_n 2, 1) := by decide +kernel
theorem dX3_roundedKept_161 : decode cX3_roundedKept 161 = .ok (.goto 5, 3) := by decide +kernel
theorem dX3_roundedKept_164 : decode cX3_roundedKept 164 = .ok (.iconst 0, 1) := by decide +kernel
theorem dX3_roundedKept_165 : decode cX3_roundedKept 165 = .ok (.istore_n 2, 1) := by decide +kernel
theorem dX3_roundedKept_166 : decode cX3_roundedKept 166 = .ok (.iload_n 2, 1) := by decide +kernel
theorem dX3_roundedKept_167 : decode cX3_roundedKept 167 = .ok (.ifCond .eq 15, 3) := by decide +kernel
theorem dX3_roundedKept_170 : decode cX3_roundedKept 170 = .ok (.aload_n 0, 1) := by decide +kernel
theorem dX3_roundedKept_171 : decode cX3_roundedKept 171 = .ok (.getfield 23, 3) := by decide +kernel
theorem dX3_roundedKept_174 : decode cX3_roundedKept 174 = .ok (.getfield 245, 3) := by decide +kernel
theorem dX3_roundedKept_177 : decode cX3_roundedKept 177 = .ok (.lconst 1, 1) := by decide +kernel
theorem dX3_roundedKept_178 : decode cX3_roundedKept 178 = .ok (.ladd, 1) := by decide +kernel
theorem dX3_roundedKept_179 : decode cX3_roundedKept 179 = .ok (.goto 10, 3) := by decide +kernel
theorem dX3_roundedKept_182 : decode cX3_roundedKept 182 = .ok (.aload_n 0, 1) := by decide +kernel
theorem dX3_roundedKept_183 : decode cX3_roundedKept 183 = .ok (.getfield 23, 3) := by decide +kernel
theorem dX3_roundedKept_186 : decode cX3_roundedKept 186 = .ok (.getfield 245, 3) := by decide +kernel
theorem dX3_roundedKept_189 : decode cX3_roundedKept 189 = .ok (.lreturn, 1) := by decide +kernel
theorem dX3_order_0 : decode cX3_order 0 = .ok (.aload_n 0, 1) := by decide +kernel
theorem dX3_order_1 : decode cX3_order 1 = .ok (.invokevirtual 250, 3) := by decide +kernel
theorem dX3_order_4 : decode cX3_order 4 = .ok (.istore_n 2, 1) := by decide +kernel
theorem dX3_order_5 : decode cX3_order 5 = .ok (.iload_n 2, 1) := by decide +kernel
theorem dX3_order_6 : decode cX3_order 6 = .ok (.aload_n 1, 1) := by decide +kernel
theorem dX3_order_7 : decode cX3_order 7 = .ok (.invokevirtual 250, 3) := by decide +kernel
theorem dX3_order_10 : decode cX3_order 10 = .ok (.if_icmp .eq 17, 3) := by decide +kernel
theorem dX3_order_13 : decode cX3_order 13 = .ok (.iload_n 2, 1) := by decide +kernel
theorem dX3_order_14 : decode cX3_order 14 = .ok (.aload_n 1, 1) := by decide +kernel
theorem dX3_order_15 : decode cX3_order 15 = .ok (.invokevirtual 250, 3) := by decide +kernel
theorem dX3_order_18 : decode cX3_order 18 = .ok (.if_icmp .ge 7, 3) := by decide +kernel
theorem dX3_order_21 : decode cX3_order 21 = .ok (.iconst (-1), 1) := by decide +kernel
theorem dX3_order_22 : decode cX3_order 22 = .ok (.goto 4, 3) := by decide +kernel
theorem dX3_order_25 : decode cX3_order 25 = .ok (.iconst 1, 1) := by decide +kernel
theorem dX3_order_26 : decode cX3_order 26 = .ok (.ireturn, 1) := by decide +kernel
theorem dX3_order_27 : decode cX3_order 27 = .ok (.iload_n 2, 1) := by decide +kernel
theorem dX3_order_28 : decode cX3_order 28 = .ok (.ifCond .ne 5, 3) := by decide +kernel
theorem dX3_order_31 : decode cX3_order 31 = .ok (.iconst 0, 1) := by decide +kernel
theorem dX3_order_32 : decode cX3_order 32 = .ok (.ireturn, 1) := by decide +kernel
theorem dX3_order_33 : decode cX3_order 33 = .ok (.iload_n 2, 1) := by decide +kernel
theorem dX3_order_34 : decode cX3_order 34 = .ok (.aload_n 0, 1) := by decide +kernel
theorem dX3_order_35 : decode cX3_order 35 = .ok (.aload_n 1, 1) := by decide +kernel
theorem dX3_order_36 : decode cX3_order 36 = .ok (.invokestatic 253, 3) := by decide +kernel
theorem dX3_order_39 : decode cX3_order 39 = .ok (.imul, 1) := by decide +kernel
theorem dX3_order_40 : decode cX3_order 40 = .ok (.ireturn, 1) := by decide +kernel
theorem dX3_orderOfSizes_0 : decode cX3_orderOfSizes 0 = .ok (.aload_n 0, 1) := by decide +kernel
theorem dX3_orderOfSizes_1 : decode cX3_orderOfSizes 1 = .ok (.getfield 70, 3) := by decide +kernel
theorem dX3_orderOfSizes_4 : decode cX3_orderOfSizes 4 = .ok (.iconst 1, 1) := by decide +kernel
theorem dX3_orderOfSizes_5 : decode cX3_orderOfSizes 5 = .ok (.if_icmp .eq 11, 3) := by decide +kernel
theorem dX3_orderOfSizes_8 : decode cX3_orderOfSizes 8 = .ok (.aload_n 1, 1) := by decide +kernel
theorem dX3_orderOfSizes_9 : decode cX3_orderOfSizes 9 = .ok (.getfield 70, 3) := by decide +kernel
theorem dX3_orderOfSizes_12 : decode cX3_orderOfSizes 12 = .ok (.iconst 1, 1) := by decide +kernel
theorem dX3_orderOfSizes_13 : decode cX3_orderOfSizes 13 = .ok (.if_icmp .ne 17, 3) := by decide +kernel
theorem dX3_orderOfSizes_16 : decode cX3_orderOfSizes 16 = .ok (.aload_n 0, 1) := by decide +kernel
theorem dX3_orderOfSizes_17 : decode cX3_orderOfSizes 17 = .ok (.getfield 70, 3) := by decide +kernel
theorem dX3_orderOfSizes_20 : decode cX3_orderOfSizes 20 = .ok (.i2l, 1) := by decide +kernel
theorem dX3_orderOfSizes_21 : decode cX3_orderOfSizes 21 = .ok (.aload_n 1, 1) := by decide +kernel
theorem dX3_orderOfSizes_22 : decode cX3_orderOfSizes 22 = .ok (.getfield 70, 3) := by decide +kernel
theorem dX3_orderOfSizes_25 : decode cX3_orderOfSizes 25 = .ok (.i2l, 1) := by decide +kernel
theorem dX3_orderOfSizes_26 : decode cX3_orderOfSizes 26 = .ok (.invokestatic 256, 3) := by decide +kernel
theorem dX3_orderOfSizes_29 : decode cX3_orderOfSizes 29 = .ok (.ireturn, 1) := by decide +kernel
theorem dX3_orderOfSizes_30 : decode cX3_orderOfSizes 30 = .ok (.aload_n 0, 1) := by decide +kernel
theorem dX3_orderOfSizes_31 : decode cX3_orderOfSizes 31 = .ok (.getfield 81, 3) := by decide +kernel
theorem dX3_orderOfSizes_34 : decode cX3_orderOfSizes 34 = .ok (.invokestatic 184, 3) := by decide +kernel
theorem dX3_orderOfSizes_37 : decode cX3_orderOfSizes 37 = .ok (.istore_n 2, 1) := by decide +kernel
theorem dX3_orderOfSizes_38 : decode cX3_orderOfSizes 38 = .ok (.aload_n 1, 1) := by decide +kernel
theorem dX3_orderOfSizes_39 : decode cX3_orderOfSizes 39 = .ok (.getfield 81, 3) := by decide +kernel
theorem dX3_orderOfSizes_42 : decode cX3_orderOfSizes 42 = .ok (.invokestatic 184, 3) := by decide +kernel
theorem dX3_orderOfSizes_45 : decode cX3_orderOfSizes 45 = .ok (.istore_n 3, 1) := by decide +kernel
theorem dX3_orderOfSizes_46 : decode cX3_orderOfSizes 46 = .ok (.aload_n 0, 1) := by decide +kernel
theorem dX3_orderOfSizes_47 : decode cX3_orderOfSizes 47 = .ok (.getfield 85, 3) := by decide +kernel
theorem dX3_orderOfSizes_50 : decode cX3_orderOfSizes 50 = .ok (.iload_n 2, 1) := by decide +kernel
theorem dX3_orderOfSizes_51 : decode cX3_orderOfSizes 51 = .ok (.iadd, 1) := by decide +kernel
theorem dX3_orderOfSizes_52 : decode cX3_orderOfSizes 52 = .ok (.i2l, 1) := by decide +kernel
theorem dX3_orderOfSizes_53 : decode cX3_orderOfSizes 53 = .ok (.aload_n 1, 1) := by decide +kernel
theorem dX3_orderOfSizes_54 : decode cX3_orderOfSizes 54 = .ok (.getfield 85, 3) := by decide +kernel
theorem dX3_orderOfSizes_57 : decode cX3_orderOfSizes 57 = .ok (.iload_n 3, 1) := by decide +kernel
theorem dX3_orderOfSizes_58 : decode cX3_orderOfSizes 58 = .ok (.iadd, 1) := by decide +kernel
theorem dX3_orderOfSizes_59 : decode cX3_orderOfSizes 59 = .ok (.i2l, 1) := by decide +kernel
theorem dX3_orderOfSizes_60 : decode cX3_orderOfSizes 60 = .ok (.invokestatic 256, 3) := by decide +kernel
theorem dX3_orderOfSizes_63 : decode cX3_orderOfSizes 63 = .ok (.istore 4, 2) := by decide +kernel
theorem dX3_orderOfSizes_65 : decode cX3_orderOfSizes 65 = .ok (.iload 4, 2) := by decide +kernel
theorem dX3_orderOfSizes_67 : decode cX3_orderOfSizes 67 = .ok (.ifCond .eq 6, 3) := by decide +kernel
theorem dX3_orderOfSizes_70 : decode cX3_orderOfSizes 70 = .ok (.iload 4, 2) := by decide +kernel
theorem dX3_orderOfSizes_72 : decode cX3_orderOfSizes 72 = .ok (.ireturn, 1) := by decide +kernel
theorem dX3_orderOfSizes_73 : decode cX3_orderOfSizes 73 = .ok (.aload_n 0, 1) := by decide +kernel
theorem dX3_orderOfSizes_74 : decode cX3_orderOfSizes 74 = .ok (.getfield 81, 3) := by decide +kernel
theorem dX3_orderOfSizes_77 : decode cX3_orderOfSizes 77 = .ok (.bipush 16, 2) := by decide +kernel
theorem dX3_orderOfSizes_79 : decode cX3_orderOfSizes 79 = .ok (.iload_n 2, 1) := by decide +kernel
theorem dX3_orderOfSizes_80 : decode cX3_orderOfSizes 80 = .ok (.isub, 1) := by decide +kernel
theorem dX3_orderOfSizes_81 : decode cX3_orderOfSizes 81 = .ok (.invokestatic 188, 3) := by decide +kernel
theorem dX3_orderOfSizes_84 : decode cX3_orderOfSizes 84 = .ok (.lmul, 1) := by decide +kernel
theorem dX3_orderOfSizes_85 : decode cX3_orderOfSizes 85 = .ok (.aload_n 1, 1) := by decide +kernel
theorem dX3_orderOfSizes_86 : decode cX3_orderOfSizes 86 = .ok (.getfield 81, 3) := by decide +kernel
theorem dX3_orderOfSizes_89 : decode cX3_orderOfSizes 89 = .ok (.bipush 16, 2) := by decide +kernel
theorem dX3_orderOfSizes_91 : decode cX3_orderOfSizes 91 = .ok (.iload_n 3, 1) := by decide +kernel
theorem dX3_orderOfSizes_92 : decode cX3_orderOfSizes 92 = .ok (.isub, 1) := by decide +kernel
theorem dX3_orderOfSizes_93 : decode cX3_orderOfSizes 93 = .ok (.invokestatic 188, 3) := by decide +kernel
theorem dX3_orderOfSizes_96 : decode cX3_orderOfSizes 96 = .ok (.lmul, 1) := by decide +kernel
theorem dX3_orderOfSizes_97 : decode cX3_orderOfSizes 97 = .ok (.invokestatic 256, 3) := by decide +kernel
theorem dX3_orderOfSizes_100 : decode cX3_orderOfSizes 100 = .ok (.ireturn, 1) := by decide +kernel
theorem dX3_orderOf_0 : decode cX3_orderOf 0 = .ok (.lload_n 0, 1) := by decide +kernel
theorem dX3_orderOf_1 : decode cX3_orderOf 1 = .ok (.lload_n 2, 1) := by decide +kernel
theorem dX3_orderOf_2 : decode cX3_orderOf 2 = .ok (.lcmp, 1) := by decide +kernel
theorem dX3_orderOf_3 : decode cX3_orderOf 3 = .ok (.ifCond .ne 5, 3) := by decide +kernel
theorem dX3_orderOf_6 : decode cX3_orderOf 6 = .ok (.iconst 0, 1) := by decide +kernel
theorem dX3_orderOf_7 : decode cX3_orderOf 7 = .ok (.ireturn, 1) := by decide +kernel
theorem dX3_orderOf_8 : decode cX3_orderOf 8 = .ok (.lload_n 0, 1) := by decide +kernel
theorem dX3_orderOf_9 : decode cX3_orderOf 9 = .ok (.lload_n 2, 1) := by decide +kernel
theorem dX3_orderOf_10 : decode cX3_orderOf 10 = .ok (.lcmp, 1) := by decide +kernel
theorem dX3_orderOf_11 : decode cX3_orderOf 11 = .ok (.ifCond .ge 7, 3) := by decide +kernel
theorem dX3_orderOf_14 : decode cX3_orderOf 14 = .ok (.iconst (-1), 1) := by decide +kernel
theorem dX3_orderOf_15 : decode cX3_orderOf 15 = .ok (.goto 4, 3) := by decide +kernel
theorem dX3_orderOf_18 : decode cX3_orderOf 18 = .ok (.iconst 1, 1) := by decide +kernel
theorem dX3_orderOf_19 : decode cX3_orderOf 19 = .ok (.ireturn, 1) := by decide +kernel
theorem dX3_tenTo_0 : decode cX3_tenTo 0 = .ok (.iload_n 0, 1) := by decide +kernel
theorem dX3_tenTo_1 : decode cX3_tenTo 1 = .ok (.ifCond .ge 5, 3) := by decide +kernel
theorem dX3_tenTo_4 : decode cX3_tenTo 4 = .ok (.lconst 1, 1) := by decide +kernel
theorem dX3_tenTo_5 : decode cX3_tenTo 5 = .ok (.lreturn, 1) := by decide +kernel
theorem dX3_tenTo_6 : decode cX3_tenTo 6 = .ok (.getstatic 260, 3) := by decide +kernel
theorem dX3_tenTo_9 : decode cX3_tenTo 9 = .ok (.iload_n 0, 1) := by decide +kernel
theorem dX3_tenTo_10 : decode cX3_tenTo 10 = .ok (.bipush 16, 2) := by decide +kernel
theorem dX3_tenTo_12 : decode cX3_tenTo 12 = .ok (.if_icmp .ge 7, 3) := by decide +kernel
theorem dX3_tenTo_15 : decode cX3_tenTo 15 = .ok (.iload_n 0, 1) := by decide +kernel
theorem dX3_tenTo_16 : decode cX3_tenTo 16 = .ok (.goto 5, 3) := by decide +kernel
theorem dX3_tenTo_19 : decode cX3_tenTo 19 = .ok (.bipush 16, 2) := by decide +kernel
theorem dX3_tenTo_21 : decode cX3_tenTo 21 = .ok (.laload, 1) := by decide +kernel
theorem dX3_tenTo_22 : decode cX3_tenTo 22 = .ok (.lreturn, 1) := by decide +kernel
theorem dX3_digitsOf_0 : decode cX3_digitsOf 0 = .ok (.iconst 0, 1) := by decide +kernel
theorem dX3_digitsOf_1 : decode cX3_digitsOf 1 = .ok (.istore_n 2, 1) := by decide +kernel
theorem dX3_digitsOf_2 : decode cX3_digitsOf 2 = .ok (.iload_n 2, 1) := by decide +kernel
theorem dX3_digitsOf_3 : decode cX3_digitsOf 3 = .ok (.bipush 16, 2) := by decide +kernel
theorem dX3_digitsOf_5 : decode cX3_digitsOf 5 = .ok (.if_icmp .ge 21, 3) := by decide +kernel
theorem dX3_digitsOf_8 : decode cX3_digitsOf 8 = .ok (.lload_n 0, 1) := by decide +kernel
theorem dX3_digitsOf_9 : decode cX3_digitsOf 9 = .ok (.getstatic 260, 3) := by decide +kernel
theorem dX3_digitsOf_12 : decode cX3_digitsOf 12 = .ok (.iload_n 2, 1) := by decide +kernel
theorem dX3_digitsOf_13 : decode cX3_digitsOf 13 = .ok (.laload, 1) := by decide +kernel
theorem dX3_digitsOf_14 : decode cX3_digitsOf 14 = .ok (.lcmp, 1) := by decide +kernel
theorem dX3_digitsOf_15 : decode cX3_digitsOf 15 = .ok (.ifCond .ge 5, 3) := by decide +kernel
theorem dX3_digitsOf_18 : decode cX3_digitsOf 18 = .ok (.iload_n 2, 1) := by decide +kernel
theorem dX3_digitsOf_19 : decode cX3_digitsOf 19 = .ok (.ireturn, 1) := by decide +kernel
theorem dX3_digitsOf_20 : decode cX3_digitsOf 20 = .ok (.iinc 2 1, 3) := by decide +kernel
theorem dX3_digitsOf_23 : decode cX3_digitsOf 23 = .ok (.goto (-21), 3) := by decide +kernel
theorem dX3_digitsOf_26 : decode cX3_digitsOf 26 = .ok (.bipush 16, 2) := by decide +kernel
theorem dX3_digitsOf_28 : decode cX3_digitsOf 28 = .ok (.ireturn, 1) := by decide +kernel
