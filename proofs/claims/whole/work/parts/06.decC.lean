theorem dX7_init_0 : decode cX7_init 0 = .ok (.aload_n 0, 1) := by decide +kernel
theorem dX7_init_1 : decode cX7_init 1 = .ok (.invokespecial 1, 3) := by decide +kernel
theorem dX7_init_4 : decode cX7_init 4 = .ok (.aload_n 0, 1) := by decide +kernel
theorem dX7_init_5 : decode cX7_init 5 = .ok (.bipush 120, 2) := by decide +kernel
theorem dX7_init_7 : decode cX7_init 7 = .ok (.newarray .int, 2) := by decide +kernel
theorem dX7_init_9 : decode cX7_init 9 = .ok (.putfield 7, 3) := by decide +kernel
theorem dX7_init_12 : decode cX7_init 12 = .ok (.aload_n 0, 1) := by decide +kernel
theorem dX7_init_13 : decode cX7_init 13 = .ok (.bipush 8, 2) := by decide +kernel
theorem dX7_init_15 : decode cX7_init 15 = .ok (.newarray .int, 2) := by decide +kernel
theorem dX7_init_17 : decode cX7_init 17 = .ok (.putfield 13, 3) := by decide +kernel
theorem dX7_init_20 : decode cX7_init 20 = .ok (.aload_n 0, 1) := by decide +kernel
theorem dX7_init_21 : decode cX7_init 21 = .ok (.bipush 6, 2) := by decide +kernel
theorem dX7_init_23 : decode cX7_init 23 = .ok (.newarray .int, 2) := by decide +kernel
theorem dX7_init_25 : decode cX7_init 25 = .ok (.putfield 16, 3) := by decide +kernel
theorem dX7_init_28 : decode cX7_init 28 = .ok (.aload_n 0, 1) := by decide +kernel
theorem dX7_init_29 : decode cX7_init 29 = .ok (.bipush 10, 2) := by decide +kernel
theorem dX7_init_31 : decode cX7_init 31 = .ok (.newarray .int, 2) := by decide +kernel
theorem dX7_init_33 : decode cX7_init 33 = .ok (.putfield 19, 3) := by decide +kernel
theorem dX7_init_36 : decode cX7_init 36 = .ok (.aload_n 0, 1) := by decide +kernel
theorem dX7_init_37 : decode cX7_init 37 = .ok (.bipush 10, 2) := by decide +kernel
theorem dX7_init_39 : decode cX7_init 39 = .ok (.newarray .int, 2) := by decide +kernel
theorem dX7_init_41 : decode cX7_init 41 = .ok (.putfield 22, 3) := by decide +kernel
theorem dX7_init_44 : decode cX7_init 44 = .ok (.aload_n 0, 1) := by decide +kernel
theorem dX7_init_45 : decode cX7_init 45 = .ok (.bipush 21, 2) := by decide +kernel
theorem dX7_init_47 : decode cX7_init 47 = .ok (.newarray .int, 2) := by decide +kernel
theorem dX7_init_49 : decode cX7_init 49 = .ok (.putfield 25, 3) := by decide +kernel
theorem dX7_init_52 : decode cX7_init 52 = .ok (.aload_n 0, 1) := by decide +kernel
theorem dX7_init_53 : decode cX7_init 53 = .ok (.bipush 42, 2) := by decide +kernel
theorem dX7_init_55 : decode cX7_init 55 = .ok (.newarray .int, 2) := by decide +kernel
theorem dX7_init_57 : decode cX7_init 57 = .ok (.putfield 28, 3) := by decide +kernel
theorem dX7_init_60 : decode cX7_init 60 = .ok (.aload_n 0, 1) := by decide +kernel
theorem dX7_init_61 : decode cX7_init 61 = .ok (.iconst 2, 1) := by decide +kernel
theorem dX7_init_62 : decode cX7_init 62 = .ok (.newarray .boolean, 2) := by decide +kernel
theorem dX7_init_64 : decode cX7_init 64 = .ok (.putfield 31, 3) := by decide +kernel
theorem dX7_init_67 : decode cX7_init 67 = .ok (.aload_n 0, 1) := by decide +kernel
theorem dX7_init_68 : decode cX7_init 68 = .ok (.sipush 210, 3) := by decide +kernel
theorem dX7_init_71 : decode cX7_init 71 = .ok (.newarray .int, 2) := by decide +kernel
theorem dX7_init_73 : decode cX7_init 73 = .ok (.putfield 35, 3) := by decide +kernel
theorem dX7_init_76 : decode cX7_init 76 = .ok (.aload_n 0, 1) := by decide +kernel
theorem dX7_init_77 : decode cX7_init 77 = .ok (.bipush 6, 2) := by decide +kernel
theorem dX7_init_79 : decode cX7_init 79 = .ok (.newarray .int, 2) := by decide +kernel
theorem dX7_init_81 : decode cX7_init 81 = .ok (.putfield 38, 3) := by decide +kernel
theorem dX7_init_84 : decode cX7_init 84 = .ok (.aload_n 0, 1) := by decide +kernel
theorem dX7_init_85 : decode cX7_init 85 = .ok (.bipush 6, 2) := by decide +kernel
theorem dX7_init_87 : decode cX7_init 87 = .ok (.newarray .int, 2) := by decide +kernel
theorem dX7_init_89 : decode cX7_init 89 = .ok (.putfield 41, 3) := by decide +kernel
theorem dX7_init_92 : decode cX7_init 92 = .ok (.aload_n 0, 1) := by decide +kernel
theorem dX7_init_93 : decode cX7_init 93 = .ok (.bipush 6, 2) := by decide +kernel
theorem dX7_init_95 : decode cX7_init 95 = .ok (.newarray .int, 2) := by decide +kernel
theorem dX7_init_97 : decode cX7_init 97 = .ok (.putfield 44, 3) := by decide +kernel
theorem dX7_init_100 : decode cX7_init 100 = .ok (.aload_n 0, 1) := by decide +kernel
theorem dX7_init_101 : decode cX7_init 101 = .ok (.bipush 6, 2) := by decide +kernel
theorem dX7_init_103 : decode cX7_init 103 = .ok (.newarray .int, 2) := by decide +kernel
theorem dX7_init_105 : decode cX7_init 105 = .ok (.putfield 47, 3) := by decide +kernel
theorem dX7_init_108 : decode cX7_init 108 = .ok (.aload_n 0, 1) := by decide +kernel
theorem dX7_init_109 : decode cX7_init 109 = .ok (.bipush 6, 2) := by decide +kernel
theorem dX7_init_111 : decode cX7_init 111 = .ok (.newarray .int, 2) := by decide +kernel
theorem dX7_init_113 : decode cX7_init 113 = .ok (.putfield 50, 3) := by decide +kernel
theorem dX7_init_116 : decode cX7_init 116 = .ok (.aload_n 0, 1) := by decide +kernel
theorem dX7_init_117 : decode cX7_init 117 = .ok (.invokevirtual 53, 3) := by decide +kernel
theorem dX7_init_120 : decode cX7_init 120 = .ok (.aload_n 0, 1) := by decide +kernel
theorem dX7_init_121 : decode cX7_init 121 = .ok (.invokevirtual 56, 3) := by decide +kernel
theorem dX7_init_124 : decode cX7_init 124 = .ok (.return_, 1) := by decide +kernel
theorem dX7_in_0 : decode cX7_in 0 = .ok (.iload_n 0, 1) := by decide +kernel
theorem dX7_in_1 : decode cX7_in 1 = .ok (.iload_n 1, 1) := by decide +kernel
theorem dX7_in_2 : decode cX7_in 2 = .ok (.if_icmp .lt 12, 3) := by decide +kernel
theorem dX7_in_5 : decode cX7_in 5 = .ok (.iload_n 0, 1) := by decide +kernel
theorem dX7_in_6 : decode cX7_in 6 = .ok (.iload_n 2, 1) := by decide +kernel
theorem dX7_in_7 : decode cX7_in 7 = .ok (.if_icmp .gt 7, 3) := by decide +kernel
theorem dX7_in_10 : decode cX7_in 10 = .ok (.iconst 1, 1) := by decide +kernel
theorem dX7_in_11 : decode cX7_in 11 = .ok (.goto 4, 3) := by decide +kernel
theorem dX7_in_14 : decode cX7_in 14 = .ok (.iconst 0, 1) := by decide +kernel
theorem dX7_in_15 : decode cX7_in 15 = .ok (.ireturn, 1) := by decide +kernel
theorem dX7_has_0 : decode cX7_has 0 = .ok (.iload_n 0, 1) := by decide +kernel
theorem dX7_has_1 : decode cX7_has 1 = .ok (.iload_n 1, 1) := by decide +kernel
theorem dX7_has_2 : decode cX7_has 2 = .ok (.ishr, 1) := by decide +kernel
theorem dX7_has_3 : decode cX7_has 3 = .ok (.iconst 1, 1) := by decide +kernel
theorem dX7_has_4 : decode cX7_has 4 = .ok (.iand, 1) := by decide +kernel
theorem dX7_has_5 : decode cX7_has 5 = .ok (.iconst 1, 1) := by decide +kernel
theorem dX7_has_6 : decode cX7_has 6 = .ok (.if_icmp .ne 7, 3) := by decide +kernel
theorem dX7_has_9 : decode cX7_has 9 = .ok (.iconst 1, 1) := by decide +kernel
theorem dX7_has_10 : decode cX7_has 10 = .ok (.goto 4, 3) := by decide +kernel
theorem dX7_has_13 : decode cX7_has 13 = .ok (.iconst 0, 1) := by decide +kernel
theorem dX7_has_14 : decode cX7_has 14 = .ok (.ireturn, 1) := by decide +kernel
theorem dX7_ones_0 : decode cX7_ones 0 = .ok (.iconst 0, 1) := by decide +kernel
theorem dX7_ones_1 : decode cX7_ones 1 = .ok (.istore_n 1, 1) := by decide +kernel
theorem dX7_ones_2 : decode cX7_ones 2 = .ok (.iconst 0, 1) := by decide +kernel
theorem dX7_ones_3 : decode cX7_ones 3 = .ok (.istore_n 2, 1) := by decide +kernel
theorem dX7_ones_4 : decode cX7_ones 4 = .ok (.iload_n 2, 1) := by decide +kernel
theorem dX7_ones_5 : decode cX7_ones 5 = .ok (.bipush 6, 2) := by decide +kernel
theorem dX7_ones_7 : decode cX7_ones 7 = .ok (.if_icmp .ge 17, 3) := by decide +kernel
theorem dX7_ones_10 : decode cX7_ones 10 = .ok (.iload_n 1, 1) := by decide +kernel
theorem dX7_ones_11 : decode cX7_ones 11 = .ok (.iload_n 0, 1) := by decide +kernel
theorem dX7_ones_12 : decode cX7_ones 12 = .ok (.iload_n 2, 1) := by decide +kernel
theorem dX7_ones_13 : decode cX7_ones 13 = .ok (.ishr, 1) := by decide +kernel
theorem dX7_ones_14 : decode cX7_ones 14 = .ok (.iconst 1, 1) := by decide +kernel
theorem dX7_ones_15 : decode cX7_ones 15 = .ok (.iand, 1) := by decide +kernel
theorem dX7_ones_16 : decode cX7_ones 16 = .ok (.iadd, 1) := by decide +kernel
theorem dX7_ones_17 : decode cX7_ones 17 = .ok (.istore_n 1, 1) := by decide +kernel
theorem dX7_ones_18 : decode cX7_ones 18 = .ok (.iinc 2 1, 3) := by decide +kernel
theorem dX7_ones_21 : decode cX7_ones 21 = .ok (.goto (-17), 3) := by decide +kernel
theorem dX7_ones_24 : decode cX7_ones 24 = .ok (.iload_n 1, 1) := by decide +kernel
theorem dX7_ones_25 : decode cX7_ones 25 = .ok (.ireturn, 1) := by decide +kernel
theorem dX7_type_0 : decode cX7_type 0 = .ok (.aload_n 0, 1) := by decide +kernel
theorem dX7_type_1 : decode cX7_type 1 = .ok (.iconst 0, 1) := by decide +kernel
theorem dX7_type_2 : decode cX7_type 2 = .ok (.putfield 59, 3) := by decide +kernel
theorem dX7_type_5 : decode cX7_type 5 = .ok (.iload_n 1, 1) := by decide +kernel
theorem dX7_type_6 : decode cX7_type 6 = .ok (.iconst 0, 1) := by decide +kernel
theorem dX7_type_7 : decode cX7_type 7 = .ok (.sipush 255, 3) := by decide +kernel
theorem dX7_type_10 : decode cX7_type 10 = .ok (.invokestatic 63, 3) := by decide +kernel
theorem dX7_type_13 : decode cX7_type 13 = .ok (.ifCond .ne 5, 3) := by decide +kernel
theorem dX7_type_16 : decode cX7_type 16 = .ok (.iconst (-1), 1) := by decide +kernel
theorem dX7_type_17 : decode cX7_type 17 = .ok (.ireturn, 1) := by decide +kernel
theorem dX7_type_18 : decode cX7_type 18 = .ok (.aload_n 0, 1) := by decide +kernel
theorem dX7_type_19 : decode cX7_type 19 = .ok (.getfield 67, 3) := by decide +kernel
theorem dX7_type_22 : decode cX7_type 22 = .ok (.bipush 120, 2) := by decide +kernel
theorem dX7_type_24 : decode cX7_type 24 = .ok (.if_icmp .ne 6, 3) := by decide +kernel
theorem dX7_type_27 : decode cX7_type 27 = .ok (.bipush (-3), 2) := by decide +kernel
theorem dX7_type_29 : decode cX7_type 29 = .ok (.ireturn, 1) := by decide +kernel
theorem dX7_type_30 : decode cX7_type 30 = .ok (.aload_n 0, 1) := by decide +kernel
theorem dX7_type_31 : decode cX7_type 31 = .ok (.getfield 7, 3) := by decide +kernel
theorem dX7_type_34 : decode cX7_type 34 = .ok (.aload_n 0, 1) := by decide +kernel
theorem dX7_type_35 : decode cX7_type 35 = .ok (.getfield 67, 3) := by decide +kernel
theorem dX7_type_38 : decode cX7_type 38 = .ok (.iload_n 1, 1) := by decide +kernel
theorem dX7_type_39 : decode cX7_type 39 = .ok (.iastore, 1) := by decide +kernel
theorem dX7_type_40 : decode cX7_type 40 = .ok (.aload_n 0, 1) := by decide +kernel
theorem dX7_type_41 : decode cX7_type 41 = .ok (.dup, 1) := by decide +kernel
theorem dX7_type_42 : decode cX7_type 42 = .ok (.getfield 67, 3) := by decide +kernel
theorem dX7_type_45 : decode cX7_type 45 = .ok (.iconst 1, 1) := by decide +kernel
theorem dX7_type_46 : decode cX7_type 46 = .ok (.iadd, 1) := by decide +kernel
theorem dX7_type_47 : decode cX7_type 47 = .ok (.putfield 67, 3) := by decide +kernel
theorem dX7_type_50 : decode cX7_type 50 = .ok (.aload_n 0, 1) := by decide +kernel
theorem dX7_type_51 : decode cX7_type 51 = .ok (.getfield 67, 3) := by decide +kernel
theorem dX7_type_54 : decode cX7_type 54 = .ok (.ireturn, 1) := by decide +kernel
theorem dX7_clear_0 : decode cX7_clear 0 = .ok (.aload_n 0, 1) := by decide +kernel
theorem dX7_clear_1 : decode cX7_clear 1 = .ok (.iconst 0, 1) := by decide +kernel
theorem dX7_clear_2 : decode cX7_clear 2 = .ok (.putfield 59, 3) := by decide +kernel
theorem dX7_clear_5 : decode cX7_clear 5 = .ok (.aload_n 0, 1) := by decide +kernel
theorem dX7_clear_6 : decode cX7_clear 6 = .ok (.getfield 67, 3) := by decide +kernel
theorem dX7_clear_9 : decode cX7_clear 9 = .ok (.istore_n 1, 1) := by decide +kernel
theorem dX7_clear_10 : decode cX7_clear 10 = .ok (.aload_n 0, 1) := by decide +kernel
theorem dX7_clear_11 : decode cX7_clear 11 = .ok (.iconst 0, 1) := by decide +kernel
theorem dX7_clear_12 : decode cX7_clear 12 = .ok (.putfield 67, 3) := by decide +kernel
theorem dX7_clear_15 : decode cX7_clear 15 = .ok (.iload_n 1, 1) := by decide +kernel
theorem dX7_clear_16 : decode cX7_clear 16 = .ok (.ireturn, 1) := by decide +kernel
theorem dX7_letterAt_0 : decode cX7_letterAt 0 = .ok (.iload_n 1, 1) := by decide +kernel
theorem dX7_letterAt_1 : decode cX7_letterAt 1 = .ok (.aload_n 0, 1) := by decide +kernel
theorem dX7_letterAt_2 : decode cX7_letterAt 2 = .ok (.getfield 67, 3) := by decide +kernel
theorem dX7_letterAt_5 : decode cX7_letterAt 5 = .ok (.if_icmp .ge 12, 3) := by decide +kernel
theorem dX7_letterAt_8 : decode cX7_letterAt 8 = .ok (.aload_n 0, 1) := by decide +kernel
theorem dX7_letterAt_9 : decode cX7_letterAt 9 = .ok (.getfield 7, 3) := by decide +kernel
theorem dX7_letterAt_12 : decode cX7_letterAt 12 = .ok (.iload_n 1, 1) := by decide +kernel
theorem dX7_letterAt_13 : decode cX7_letterAt 13 = .ok (.iaload, 1) := by decide +kernel
theorem dX7_letterAt_14 : decode cX7_letterAt 14 = .ok (.goto 4, 3) := by decide +kernel
theorem dX7_letterAt_17 : decode cX7_letterAt 17 = .ok (.iconst (-1), 1) := by decide +kernel
theorem dX7_letterAt_18 : decode cX7_letterAt 18 = .ok (.ireturn, 1) := by decide +kernel
theorem dX7_isLetter_0 : decode cX7_isLetter 0 = .ok (.iload_n 0, 1) := by decide +kernel
theorem dX7_isLetter_1 : decode cX7_isLetter 1 = .ok (.bipush 97, 2) := by decide +kernel
theorem dX7_isLetter_3 : decode cX7_isLetter 3 = .ok (.if_icmp .eq 21, 3) := by decide +kernel
theorem dX7_isLetter_6 : decode cX7_isLetter 6 = .ok (.iload_n 0, 1) := by decide +kernel
theorem dX7_isLetter_7 : decode cX7_isLetter 7 = .ok (.bipush 119, 2) := by decide +kernel
theorem dX7_isLetter_9 : decode cX7_isLetter 9 = .ok (.if_icmp .eq 15, 3) := by decide +kernel
theorem dX7_isLetter_12 : decode cX7_isLetter 12 = .ok (.iload_n 0, 1) := by decide +kernel
theorem dX7_isLetter_13 : decode cX7_isLetter 13 = .ok (.bipush 109, 2) := by decide +kernel
theorem dX7_isLetter_15 : decode cX7_isLetter 15 = .ok (.if_icmp .eq 9, 3) := by decide +kernel
theorem dX7_isLetter_18 : decode cX7_isLetter 18 = .ok (.iload_n 0, 1) := by decide +kernel
theorem dX7_isLetter_19 : decode cX7_isLetter 19 = .ok (.bipush 108, 2) := by decide +kernel
theorem dX7_isLetter_21 : decode cX7_isLetter 21 = .ok (.if_icmp .ne 7, 3) := by decide +kernel
theorem dX7_isLetter_24 : decode cX7_isLetter 24 = .ok (.iconst 1, 1) := by decide +kernel
theorem dX7_isLetter_25 : decode cX7_isLetter 25 = .ok (.goto 4, 3) := by decide +kernel
theorem dX7_isLetter_28 : decode cX7_isLetter 28 = .ok (.iconst 0, 1) := by decide +kernel
theorem dX7_isLetter_29 : decode cX7_isLetter 29 = .ok (.ireturn, 1) := by decide +kernel
theorem dX7_advances_0 : decode cX7_advances 0 = .ok (.aload_n 0, 1) := by decide +kernel
theorem dX7_advances_1 : decode cX7_advances 1 = .ok (.aload_n 0, 1) := by decide +kernel
theorem dX7_advances_2 : decode cX7_advances 2 = .ok (.getfield 70, 3) := by decide +kernel
theorem dX7_advances_5 : decode cX7_advances 5 = .ok (.invokevirtual 73, 3) := by decide +kernel
theorem dX7_advances_8 : decode cX7_advances 8 = .ok (.bipush 32, 2) := by decide +kernel
theorem dX7_advances_10 : decode cX7_advances 10 = .ok (.if_icmp .ne 16, 3) := by decide +kernel
theorem dX7_advances_13 : decode cX7_advances 13 = .ok (.aload_n 0, 1) := by decide +kernel
theorem dX7_advances_14 : decode cX7_advances 14 = .ok (.dup, 1) := by decide +kernel
theorem dX7_advances_15 : decode cX7_advances 15 = .ok (.getfield 70, 3) := by decide +kernel
theorem dX7_advances_18 : decode cX7_advances 18 = .ok (.iconst 1, 1) := by decide +kernel
theorem dX7_advances_19 : decode cX7_advances 19 = .ok (.iadd, 1) := by decide +kernel
theorem dX7_advances_20 : decode cX7_advances 20 = .ok (.putfield 70, 3) := by decide +kernel
theorem dX7_advances_23 : decode cX7_advances 23 = .ok (.goto (-23), 3) := by decide +kernel
theorem dX7_advances_26 : decode cX7_advances 26 = .ok (.aload_n 0, 1) := by decide +kernel
theorem dX7_advances_27 : decode cX7_advances 27 = .ok (.aload_n 0, 1) := by decide +kernel
theorem dX7_advances_28 : decode cX7_advances 28 = .ok (.getfield 70, 3) := by decide +kernel
theorem dX7_advances_31 : decode cX7_advances 31 = .ok (.putfield 77, 3) := by decide +kernel
theorem dX7_advances_34 : decode cX7_advances 34 = .ok (.aload_n 0, 1) := by decide +kernel
theorem dX7_advances_35 : decode cX7_advances 35 = .ok (.aload_n 0, 1) := by decide +kernel
theorem dX7_advances_36 : decode cX7_advances 36 = .ok (.getfield 70, 3) := by decide +kernel
theorem dX7_advances_39 : decode cX7_advances 39 = .ok (.invokevirtual 73, 3) := by decide +kernel
theorem dX7_advances_42 : decode cX7_advances 42 = .ok (.istore_n 1, 1) := by decide +kernel
theorem dX7_advances_43 : decode cX7_advances 43 = .ok (.iload_n 1, 1) := by decide +kernel
theorem dX7_advances_44 : decode cX7_advances 44 = .ok (.ifCond .ge 11, 3) := by decide +kernel
theorem dX7_advances_47 : decode cX7_advances 47 = .ok (.aload_n 0, 1) := by decide +kernel
theorem dX7_advances_48 : decode cX7_advances 48 = .ok (.iconst 0, 1) := by decide +kernel
theorem dX7_advances_49 : decode cX7_advances 49 = .ok (.putfield 80, 3) := by decide +kernel
theorem dX7_advances_52 : decode cX7_advances 52 = .ok (.goto 170, 3) := by decide +kernel
theorem dX7_advances_55 : decode cX7_advances 55 = .ok (.iload_n 1, 1) := by decide +kernel
theorem dX7_advances_56 : decode cX7_advances 56 = .ok (.bipush 48, 2) := by decide +kernel
theorem dX7_advances_58 : decode cX7_advances 58 = .ok (.bipush 57, 2) := by decide +kernel
theorem dX7_advances_60 : decode cX7_advances 60 = .ok (.invokestatic 63, 3) := by decide +kernel
theorem dX7_advances_63 : decode cX7_advances 63 = .ok (.ifCond .eq 118, 3) := by decide +kernel
theorem dX7_advances_66 : decode cX7_advances 66 = .ok (.aload_n 0, 1) := by decide +kernel
theorem dX7_advances_67 : decode cX7_advances 67 = .ok (.iconst 0, 1) := by decide +kernel
theorem dX7_advances_68 : decode cX7_advances 68 = .ok (.putfield 83, 3) := by decide +kernel
theorem dX7_advances_71 : decode cX7_advances 71 = .ok (.aload_n 0, 1) := by decide +kernel
theorem dX7_advances_72 : decode cX7_advances 72 = .ok (.aload_n 0, 1) := by decide +kernel
theorem dX7_advances_73 : decode cX7_advances 73 = .ok (.getfield 70, 3) := by decide +kernel
theorem dX7_advances_76 : decode cX7_advances 76 = .ok (.invokevirtual 73, 3) := by decide +kernel
theorem dX7_advances_79 : decode cX7_advances 79 = .ok (.bipush 48, 2) := by decide +kernel
theorem dX7_advances_81 : decode cX7_advances 81 = .ok (.bipush 57, 2) := by decide +kernel
theorem dX7_advances_83 : decode cX7_advances 83 = .ok (.invokestatic 63, 3) := by decide +kernel
theorem dX7_advances_86 : decode cX7_advances 86 = .ok (.ifCond .eq 55, 3) := by decide +kernel
theorem dX7_advances_89 : decode cX7_advances 89 = .ok (.aload_n 0, 1) := by decide +kernel
theorem dX7_advances_90 : decode cX7_advances 90 = .ok (.aload_n 0, 1) := by decide +kernel
theorem dX7_advances_91 : decode cX7_advances 91 = .ok (.getfield 83, 3) := by decide +kernel
theorem dX7_advances_94 : decode cX7_advances 94 = .ok (.bipush 99, 2) := by decide +kernel
theorem dX7_advances_96 : decode cX7_advances 96 = .ok (.if_icmp .le 10, 3) := by decide +kernel
theorem dX7_advances_99 : decode cX7_advances 99 = .ok (.aload_n 0, 1) := by decide +kernel
theorem dX7_advances_100 : decode cX7_advances 100 = .ok (.getfield 83, 3) := by decide +kernel
theorem dX7_advances_103 : decode cX7_advances 103 = .ok (.goto 22, 3) := by decide +kernel
theorem dX7_advances_106 : decode cX7_advances 106 = .ok (.bipush 10, 2) := by decide +kernel
theorem dX7_advances_108 : decode cX7_advances 108 = .ok (.aload_n 0, 1) := by decide +kernel
theorem dX7_advances_109 : decode cX7_advances 109 = .ok (.getfield 83, 3) := by decide +kernel
theorem dX7_advances_112 : decode cX7_advances 112 = .ok (.imul, 1) := by decide +kernel
theorem dX7_advances_113 : decode cX7_advances 113 = .ok (.aload_n 0, 1) := by decide +kernel
theorem dX7_advances_114 : decode cX7_advances 114 = .ok (.aload_n 0, 1) := by decide +kernel
theorem dX7_advances_115 : decode cX7_advances 115 = .ok (.getfield 70, 3) := by decide +kernel
theorem dX7_advances_118 : decode cX7_advances 118 = .ok (.invokevirtual 73, 3) := by decide +kernel
theorem dX7_advances_121 : decode cX7_advances 121 = .ok (.iadd, 1) := by decide +kernel
theorem dX7_advances_122 : decode cX7_advances 122 = .ok (.bipush 48, 2) := by decide +kernel
theorem dX7_advances_124 : decode cX7_advances 124 = .ok (.isub, 1) := by decide +kernel
theorem dX7_advances_125 : decode cX7_advances 125 = .ok (.putfield 83, 3) := by decide +kernel
theorem dX7_advances_128 : decode cX7_advances 128 = .ok (.aload_n 0, 1) := by decide +kernel
theorem dX7_advances_129 : decode cX7_advances 129 = .ok (.dup, 1) := by decide +kernel
theorem dX7_advances_130 : decode cX7_advances 130 = .ok (.getfield 70, 3) := by decide +kernel
theorem dX7_advances_133 : decode cX7_advances 133 = .ok (.iconst 1, 1) := by decide +kernel
theorem dX7_advances_134 : decode cX7_advances 134 = .ok (.iadd, 1) := by decide +kernel
theorem dX7_advances_135 : decode cX7_advances 135 = .ok (.putfield 70, 3) := by decide +kernel
theorem dX7_advances_138 : decode cX7_advances 138 = .ok (.goto (-67), 3) := by decide +kernel
theorem dX7_advances_141 : decode cX7_advances 141 = .ok (.aload_n 0, 1) := by decide +kernel
theorem dX7_advances_142 : decode cX7_advances 142 = .ok (.aload_n 0, 1) := by decide +kernel
theorem dX7_advances_143 : decode cX7_advances 143 = .ok (.getfield 83, 3) := by decide +kernel
theorem dX7_advances_146 : decode cX7_advances 146 = .ok (.bipush 99, 2) := by decide +kernel
theorem dX7_advances_148 : decode cX7_advances 148 = .ok (.if_icmp .gt 22, 3) := by decide +kernel
theorem dX7_advances_151 : decode cX7_advances 151 = .ok (.iload_n 1, 1) := by decide +kernel
theorem dX7_advances_152 : decode cX7_advances 152 = .ok (.bipush 48, 2) := by decide +kernel
theorem dX7_advances_154 : decode cX7_advances 154 = .ok (.if_icmp .ne 20, 3) := by decide +kernel
theorem dX7_advances_157 : decode cX7_advances 157 = .ok (.aload_n 0, 1) := by decide +kernel
theorem dX7_advances_158 : decode cX7_advances 158 = .ok (.getfield 70, 3) := by decide +kernel
theorem dX7_advances_161 : decode cX7_advances 161 = .ok (.aload_n 0, 1) := by decide +kernel
theorem dX7_advances_162 : decode cX7_advances 162 = .ok (.getfield 77, 3) := by decide +kernel
theorem dX7_advances_165 : decode cX7_advances 165 = .ok (.isub, 1) := by decide +kernel
theorem dX7_advances_166 : decode cX7_advances 166 = .ok (.iconst 1, 1) := by decide +kernel
theorem dX7_advances_167 : decode cX7_advances 167 = .ok (.if_icmp .le 7, 3) := by decide +kernel
theorem dX7_advances_170 : decode cX7_advances 170 = .ok (.iconst 4, 1) := by decide +kernel
theorem dX7_advances_171 : decode cX7_advances 171 = .ok (.goto 4, 3) := by decide +kernel
theorem dX7_advances_174 : decode cX7_advances 174 = .ok (.iconst 2, 1) := by decide +kernel
theorem dX7_advances_175 : decode cX7_advances 175 = .ok (.putfield 80, 3) := by decide +kernel
theorem dX7_advances_178 : decode cX7_advances 178 = .ok (.goto 44, 3) := by decide +kernel
theorem dX7_advances_181 : decode cX7_advances 181 = .ok (.aload_n 0, 1) := by decide +kernel
theorem dX7_advances_182 : decode cX7_advances 182 = .ok (.dup, 1) := by decide +kernel
theorem dX7_advances_183 : decode cX7_advances 183 = .ok (.getfield 70, 3) := by decide +kernel
theorem dX7_advances_186 : decode cX7_advances 186 = .ok (.iconst 1, 1) := by decide +kernel
theorem dX7_advances_187 : decode cX7_advances 187 = .ok (.iadd, 1) := by decide +kernel
theorem dX7_advances_188 : decode cX7_advances 188 = .ok (.putfield 70, 3) := by decide +kernel
theorem dX7_advances_191 : decode cX7_advances 191 = .ok (.aload_n 0, 1) := by decide +kernel
theorem dX7_advances_192 : decode cX7_advances 192 = .ok (.iload_n 1, 1) := by decide +kernel
theorem dX7_advances_193 : decode cX7_advances 193 = .ok (.putfield 83, 3) := by decide +kernel
theorem dX7_advances_196 : decode cX7_advances 196 = .ok (.aload_n 0, 1) := by decide +kernel
theorem dX7_advances_197 : decode cX7_advances 197 = .ok (.iload_n 1, 1) := by decide +kernel
theorem dX7_advances_198 : decode cX7_advances 198 = .ok (.bipush 59, 2) := by decide +kernel
theorem dX7_advances_200 : decode cX7_advances 200 = .ok (.if_icmp .ne 7, 3) := by decide +kernel
theorem dX7_advances_203 : decode cX7_advances 203 = .ok (.iconst 3, 1) := by decide +kernel
theorem dX7_advances_204 : decode cX7_advances 204 = .ok (.goto 15, 3) := by decide +kernel
theorem dX7_advances_207 : decode cX7_advances 207 = .ok (.iload_n 1, 1) := by decide +kernel
theorem dX7_advances_208 : decode cX7_advances 208 = .ok (.invokestatic 86, 3) := by decide +kernel
theorem dX7_advances_211 : decode cX7_advances 211 = .ok (.ifCond .eq 7, 3) := by decide +kernel
theorem dX7_advances_214 : decode cX7_advances 214 = .ok (.iconst 1, 1) := by decide +kernel
theorem dX7_advances_215 : decode cX7_advances 215 = .ok (.goto 4, 3) := by decide +kernel
theorem dX7_advances_218 : decode cX7_advances 218 = .ok (.iconst 4, 1) := by decide +kernel
theorem dX7_advances_219 : decode cX7_advances 219 = .ok (.putfield 80, 3) := by decide +kernel
theorem dX7_advances_222 : decode cX7_advances 222 = .ok (.return_, 1) := by decide +kernel
theorem dX7_isWell_0 : decode cX7_isWell 0 = .ok (.aload_n 0, 1) := by decide +kernel
theorem dX7_isWell_1 : decode cX7_isWell 1 = .ok (.getfield 90, 3) := by decide +kernel
theorem dX7_isWell_4 : decode cX7_isWell 4 = .ok (.ifCond .ge 7, 3) := by decide +kernel
theorem dX7_isWell_7 : decode cX7_isWell 7 = .ok (.iconst 1, 1) := by decide +kernel
theorem dX7_isWell_8 : decode cX7_isWell 8 = .ok (.goto 4, 3) := by decide +kernel
theorem dX7_isWell_11 : decode cX7_isWell 11 = .ok (.iconst 0, 1) := by decide +kernel
theorem dX7_isWell_12 : decode cX7_isWell 12 = .ok (.ireturn, 1) := by decide +kernel
theorem dX7_takes_0 : decode cX7_takes 0 = .ok (.aload_n 0, 1) := by decide +kernel
theorem dX7_takes_1 : decode cX7_takes 1 = .ok (.invokevirtual 93, 3) := by decide +kernel
theorem dX7_takes_4 : decode cX7_takes 4 = .ok (.ifCond .ne 5, 3) := by decide +kernel
theorem dX7_takes_7 : decode cX7_takes 7 = .ok (.iconst 0, 1) := by decide +kernel
theorem dX7_takes_8 : decode cX7_takes 8 = .ok (.ireturn, 1) := by decide +kernel
theorem dX7_takes_9 : decode cX7_takes 9 = .ok (.iload_n 1, 1) := by decide +kernel
theorem dX7_takes_10 : decode cX7_takes 10 = .ok (.ifCond .ne 13, 3) := by decide +kernel
theorem dX7_takes_13 : decode cX7_takes 13 = .ok (.aload_n 0, 1) := by decide +kernel
theorem dX7_takes_14 : decode cX7_takes 14 = .ok (.aload_n 0, 1) := by decide +kernel
theorem dX7_takes_15 : decode cX7_takes 15 = .ok (.getfield 77, 3) := by decide +kernel
theorem dX7_takes_18 : decode cX7_takes 18 = .ok (.putfield 90, 3) := by decide +kernel
theorem dX7_takes_21 : decode cX7_takes 21 = .ok (.iconst 0, 1) := by decide +kernel
theorem dX7_takes_22 : decode cX7_takes 22 = .ok (.ireturn, 1) := by decide +kernel
theorem dX7_takes_23 : decode cX7_takes 23 = .ok (.aload_n 0, 1) := by decide +kernel
theorem dX7_takes_24 : decode cX7_takes 24 = .ok (.getfield 83, 3) := by decide +kernel
theorem dX7_takes_27 : decode cX7_takes 27 = .ok (.istore_n 2, 1) := by decide +kernel
theorem dX7_takes_28 : decode cX7_takes 28 = .ok (.aload_n 0, 1) := by decide +kernel
theorem dX7_takes_29 : decode cX7_takes 29 = .ok (.invokevirtual 97, 3) := by decide +kernel
theorem dX7_takes_32 : decode cX7_takes 32 = .ok (.iload_n 2, 1) := by decide +kernel
theorem dX7_takes_33 : decode cX7_takes 33 = .ok (.ireturn, 1) := by decide +kernel
theorem dX7_number_0 : decode cX7_number 0 = .ok (.aload_n 0, 1) := by decide +kernel
theorem dX7_number_1 : decode cX7_number 1 = .ok (.aload_n 0, 1) := by decide +kernel
theorem dX7_number_2 : decode cX7_number 2 = .ok (.getfield 80, 3) := by decide +kernel
theorem dX7_number_5 : decode cX7_number 5 = .ok (.iconst 2, 1) := by decide +kernel
theorem dX7_number_6 : decode cX7_number 6 = .ok (.if_icmp .ne 19, 3) := by decide +kernel
theorem dX7_number_9 : decode cX7_number 9 = .ok (.aload_n 0, 1) := by decide +kernel
theorem dX7_number_10 : decode cX7_number 10 = .ok (.getfield 83, 3) := by decide +kernel
theorem dX7_number_13 : decode cX7_number 13 = .ok (.iload_n 1, 1) := by decide +kernel
theorem dX7_number_14 : decode cX7_number 14 = .ok (.iload_n 2, 1) := by decide +kernel
theorem dX7_number_15 : decode cX7_number 15 = .ok (.invokestatic 63, 3) := by decide +kernel
theorem dX7_number_18 : decode cX7_number 18 = .ok (.ifCond .eq 7, 3) := by decide +kernel
theorem dX7_number_21 : decode cX7_number 21 = .ok (.iconst 1, 1) := by decide +kernel
theorem dX7_number_22 : decode cX7_number 22 = .ok (.goto 4, 3) := by decide +kernel
theorem dX7_number_25 : decode cX7_number 25 = .ok (.iconst 0, 1) := by decide +kernel
theorem dX7_number_26 : decode cX7_number 26 = .ok (.invokevirtual 100, 3) := by decide +kernel
theorem dX7_number_29 : decode cX7_number 29 = .ok (.ireturn, 1) := by decide +kernel
theorem dX7_begins_0 : decode cX7_begins 0 = .ok (.aload_n 0, 1) := by decide +kernel
theorem dX7_begins_1 : decode cX7_begins 1 = .ok (.iconst 0, 1) := by decide +kernel
theorem dX7_begins_2 : decode cX7_begins 2 = .ok (.putfield 104, 3) := by decide +kernel
theorem dX7_begins_5 : decode cX7_begins 5 = .ok (.aload_n 0, 1) := by decide +kernel
theorem dX7_begins_6 : decode cX7_begins 6 = .ok (.getfield 13, 3) := by decide +kernel
theorem dX7_begins_9 : decode cX7_begins 9 = .ok (.iconst 4, 1) := by decide +kernel
theorem dX7_begins_10 : decode cX7_begins 10 = .ok (.iconst 0, 1) := by decide +kernel
theorem dX7_begins_11 : decode cX7_begins 11 = .ok (.iastore, 1) := by decide +kernel
theorem dX7_begins_12 : decode cX7_begins 12 = .ok (.aload_n 0, 1) := by decide +kernel
theorem dX7_begins_13 : decode cX7_begins 13 = .ok (.getfield 13, 3) := by decide +kernel
theorem dX7_begins_16 : decode cX7_begins 16 = .ok (.iconst 5, 1) := by decide +kernel
theorem dX7_begins_17 : decode cX7_begins 17 = .ok (.iconst 3, 1) := by decide +kernel
theorem dX7_begins_18 : decode cX7_begins 18 = .ok (.iastore, 1) := by decide +kernel
theorem dX7_begins_19 : decode cX7_begins 19 = .ok (.aload_n 0, 1) := by decide +kernel
theorem dX7_begins_20 : decode cX7_begins 20 = .ok (.getfield 13, 3) := by decide +kernel
theorem dX7_begins_23 : decode cX7_begins 23 = .ok (.bipush 6, 2) := by decide +kernel
theorem dX7_begins_25 : decode cX7_begins 25 = .ok (.iconst 0, 1) := by decide +kernel
theorem dX7_begins_26 : decode cX7_begins 26 = .ok (.iastore, 1) := by decide +kernel
theorem dX7_begins_27 : decode cX7_begins 27 = .ok (.aload_n 0, 1) := by decide +kernel
theorem dX7_begins_28 : decode cX7_begins 28 = .ok (.getfield 13, 3) := by decide +kernel
theorem dX7_begins_31 : decode cX7_begins 31 = .ok (.bipush 7, 2) := by decide +kernel
theorem dX7_begins_33 : decode cX7_begins 33 = .ok (.bipush 70, 2) := by decide +kernel
theorem dX7_begins_35 : decode cX7_begins 35 = .ok (.iastore, 1) := by decide +kernel
theorem dX7_begins_36 : decode cX7_begins 36 = .ok (.return_, 1) := by decide +kernel
theorem dX7_mayBegin_0 : decode cX7_mayBegin 0 = .ok (.aload_n 0, 1) := by decide +kernel
theorem dX7_mayBegin_1 : decode cX7_mayBegin 1 = .ok (.getfield 83, 3) := by decide +kernel
theorem dX7_mayBegin_4 : decode cX7_mayBegin 4 = .ok (.bipush 97, 2) := by decide +kernel
theorem dX7_mayBegin_6 : decode cX7_mayBegin 6 = .ok (.if_icmp .eq 12, 3) := by decide +kernel
theorem dX7_mayBegin_9 : decode cX7_mayBegin 9 = .ok (.aload_n 0, 1) := by decide +kernel
theorem dX7_mayBegin_10 : decode cX7_mayBegin 10 = .ok (.getfield 83, 3) := by decide +kernel
theorem dX7_mayBegin_13 : decode cX7_mayBegin 13 = .ok (.bipush 119, 2) := by decide +kernel
theorem dX7_mayBegin_15 : decode cX7_mayBegin 15 = .ok (.if_icmp .ne 48, 3) := by decide +kernel
theorem dX7_mayBegin_18 : decode cX7_mayBegin 18 = .ok (.aload_n 0, 1) := by decide +kernel
theorem dX7_mayBegin_19 : decode cX7_mayBegin 19 = .ok (.getfield 83, 3) := by decide +kernel
theorem dX7_mayBegin_22 : decode cX7_mayBegin 22 = .ok (.bipush 97, 2) := by decide +kernel
theorem dX7_mayBegin_24 : decode cX7_mayBegin 24 = .ok (.if_icmp .ne 22, 3) := by decide +kernel
theorem dX7_mayBegin_27 : decode cX7_mayBegin 27 = .ok (.aload_n 0, 1) := by decide +kernel
theorem dX7_mayBegin_28 : decode cX7_mayBegin 28 = .ok (.getfield 13, 3) := by decide +kernel
theorem dX7_mayBegin_31 : decode cX7_mayBegin 31 = .ok (.iconst 4, 1) := by decide +kernel
theorem dX7_mayBegin_32 : decode cX7_mayBegin 32 = .ok (.iaload, 1) := by decide +kernel
theorem dX7_mayBegin_33 : decode cX7_mayBegin 33 = .ok (.bipush 6, 2) := by decide +kernel
theorem dX7_mayBegin_35 : decode cX7_mayBegin 35 = .ok (.if_icmp .ge 7, 3) := by decide +kernel
theorem dX7_mayBegin_38 : decode cX7_mayBegin 38 = .ok (.iconst 1, 1) := by decide +kernel
theorem dX7_mayBegin_39 : decode cX7_mayBegin 39 = .ok (.goto 23, 3) := by decide +kernel
theorem dX7_mayBegin_42 : decode cX7_mayBegin 42 = .ok (.iconst 0, 1) := by decide +kernel
theorem dX7_mayBegin_43 : decode cX7_mayBegin 43 = .ok (.goto 19, 3) := by decide +kernel
theorem dX7_mayBegin_46 : decode cX7_mayBegin 46 = .ok (.aload_n 0, 1) := by decide +kernel
theorem dX7_mayBegin_47 : decode cX7_mayBegin 47 = .ok (.getfield 13, 3) := by decide +kernel
theorem dX7_mayBegin_50 : decode cX7_mayBegin 50 = .ok (.bipush 6, 2) := by decide +kernel
theorem dX7_mayBegin_52 : decode cX7_mayBegin 52 = .ok (.iaload, 1) := by decide +kernel
theorem dX7_mayBegin_53 : decode cX7_mayBegin 53 = .ok (.iconst 5, 1) := by decide +kernel
theorem dX7_mayBegin_54 : decode cX7_mayBegin 54 = .ok (.if_icmp .ge 7, 3) := by decide +kernel
theorem dX7_mayBegin_57 : decode cX7_mayBegin 57 = .ok (.iconst 1, 1) := by decide +kernel
theorem dX7_mayBegin_58 : decode cX7_mayBegin 58 = .ok (.goto 4, 3) := by decide +kernel
theorem dX7_mayBegin_61 : decode cX7_mayBegin 61 = .ok (.iconst 0, 1) := by decide +kernel
theorem dX7_mayBegin_62 : decode cX7_mayBegin 62 = .ok (.ireturn, 1) := by decide +kernel
theorem dX7_mayBegin_63 : decode cX7_mayBegin 63 = .ok (.aload_n 0, 1) := by decide +kernel
theorem dX7_mayBegin_64 : decode cX7_mayBegin 64 = .ok (.getfield 104, 3) := by decide +kernel
theorem dX7_mayBegin_67 : decode cX7_mayBegin 67 = .ok (.aload_n 0, 1) := by decide +kernel
theorem dX7_mayBegin_68 : decode cX7_mayBegin 68 = .ok (.getfield 83, 3) := by decide +kernel
theorem dX7_mayBegin_71 : decode cX7_mayBegin 71 = .ok (.bipush 109, 2) := by decide +kernel
theorem dX7_mayBegin_73 : decode cX7_mayBegin 73 = .ok (.if_icmp .ne 7, 3) := by decide +kernel
theorem dX7_mayBegin_76 : decode cX7_mayBegin 76 = .ok (.iconst 1, 1) := by decide +kernel
theorem dX7_mayBegin_77 : decode cX7_mayBegin 77 = .ok (.goto 4, 3) := by decide +kernel
theorem dX7_mayBegin_80 : decode cX7_mayBegin 80 = .ok (.iconst 2, 1) := by decide +kernel
theorem dX7_mayBegin_81 : decode cX7_mayBegin 81 = .ok (.iand, 1) := by decide +kernel
theorem dX7_mayBegin_82 : decode cX7_mayBegin 82 = .ok (.ifCond .ne 7, 3) := by decide +kernel
theorem dX7_mayBegin_85 : decode cX7_mayBegin 85 = .ok (.iconst 1, 1) := by decide +kernel
theorem dX7_mayBegin_86 : decode cX7_mayBegin 86 = .ok (.goto 4, 3) := by decide +kernel
theorem dX7_mayBegin_89 : decode cX7_mayBegin 89 = .ok (.iconst 0, 1) := by decide +kernel
theorem dX7_mayBegin_90 : decode cX7_mayBegin 90 = .ok (.ireturn, 1) := by decide +kernel
theorem dX7_readsItem_0 : decode cX7_readsItem 0 = .ok (.iload_n 1, 1) := by decide +kernel
theorem dX7_readsItem_1 : decode cX7_readsItem 1 = .ok (.bipush 97, 2) := by decide +kernel
theorem dX7_readsItem_3 : decode cX7_readsItem 3 = .ok (.if_icmp .ne 34, 3) := by decide +kernel
theorem dX7_readsItem_6 : decode cX7_readsItem 6 = .ok (.aload_n 0, 1) := by decide +kernel
theorem dX7_readsItem_7 : decode cX7_readsItem 7 = .ok (.getfield 16, 3) := by decide +kernel
theorem dX7_readsItem_10 : decode cX7_readsItem 10 = .ok (.aload_n 0, 1) := by decide +kernel
theorem dX7_readsItem_11 : decode cX7_readsItem 11 = .ok (.getfield 13, 3) := by decide +kernel
theorem dX7_readsItem_14 : decode cX7_readsItem 14 = .ok (.iconst 4, 1) := by decide +kernel
theorem dX7_readsItem_15 : decode cX7_readsItem 15 = .ok (.iaload, 1) := by decide +kernel
theorem dX7_readsItem_16 : decode cX7_readsItem 16 = .ok (.aload_n 0, 1) := by decide +kernel
theorem dX7_readsItem_17 : decode cX7_readsItem 17 = .ok (.iconst 0, 1) := by decide +kernel
theorem dX7_readsItem_18 : decode cX7_readsItem 18 = .ok (.bipush 99, 2) := by decide +kernel
theorem dX7_readsItem_20 : decode cX7_readsItem 20 = .ok (.invokevirtual 107, 3) := by decide +kernel
theorem dX7_readsItem_23 : decode cX7_readsItem 23 = .ok (.iastore, 1) := by decide +kernel
theorem dX7_readsItem_24 : decode cX7_readsItem 24 = .ok (.aload_n 0, 1) := by decide +kernel
theorem dX7_readsItem_25 : decode cX7_readsItem 25 = .ok (.getfield 13, 3) := by decide +kernel
theorem dX7_readsItem_28 : decode cX7_readsItem 28 = .ok (.iconst 4, 1) := by decide +kernel
theorem dX7_readsItem_29 : decode cX7_readsItem 29 = .ok (.dup2, 1) := by decide +kernel
theorem dX7_readsItem_30 : decode cX7_readsItem 30 = .ok (.iaload, 1) := by decide +kernel
theorem dX7_readsItem_31 : decode cX7_readsItem 31 = .ok (.iconst 1, 1) := by decide +kernel
theorem dX7_readsItem_32 : decode cX7_readsItem 32 = .ok (.iadd, 1) := by decide +kernel
theorem dX7_readsItem_33 : decode cX7_readsItem 33 = .ok (.iastore, 1) := by decide +kernel
theorem dX7_readsItem_34 : decode cX7_readsItem 34 = .ok (.goto 121, 3) := by decide +kernel
theorem dX7_readsItem_37 : decode cX7_readsItem 37 = .ok (.iload_n 1, 1) := by decide +kernel
theorem dX7_readsItem_38 : decode cX7_readsItem 38 = .ok (.bipush 119, 2) := by decide +kernel
theorem dX7_readsItem_40 : decode cX7_readsItem 40 = .ok (.if_icmp .ne 58, 3) := by decide +kernel
theorem dX7_readsItem_43 : decode cX7_readsItem 43 = .ok (.iconst 5, 1) := by decide +kernel
theorem dX7_readsItem_44 : decode cX7_readsItem 44 = .ok (.aload_n 0, 1) := by decide +kernel
theorem dX7_readsItem_45 : decode cX7_readsItem 45 = .ok (.getfield 13, 3) := by decide +kernel
theorem dX7_readsItem_48 : decode cX7_readsItem 48 = .ok (.bipush 6, 2) := by decide +kernel
theorem dX7_readsItem_50 : decode cX7_readsItem 50 = .ok (.iaload, 1) := by decide +kernel
theorem dX7_readsItem_51 : decode cX7_readsItem 51 = .ok (.iadd, 1) := by decide +kernel
theorem dX7_readsItem_52 : decode cX7_readsItem 52 = .ok (.istore_n 2, 1) := by decide +kernel
theorem dX7_readsItem_53 : decode cX7_readsItem 53 = .ok (.aload_n 0, 1) := by decide +kernel
theorem dX7_readsItem_54 : decode cX7_readsItem 54 = .ok (.getfield 19, 3) := by decide +kernel
theorem dX7_readsItem_57 : decode cX7_readsItem 57 = .ok (.iload_n 2, 1) := by decide +kernel
theorem dX7_readsItem_58 : decode cX7_readsItem 58 = .ok (.aload_n 0, 1) := by decide +kernel
theorem dX7_readsItem_59 : decode cX7_readsItem 59 = .ok (.iconst 0, 1) := by decide +kernel
theorem dX7_readsItem_60 : decode cX7_readsItem 60 = .ok (.bipush 99, 2) := by decide +kernel
theorem dX7_readsItem_62 : decode cX7_readsItem 62 = .ok (.invokevirtual 107, 3) := by decide +kernel
theorem dX7_readsItem_65 : decode cX7_readsItem 65 = .ok (.iastore, 1) := by decide +kernel
theorem dX7_readsItem_66 : decode cX7_readsItem 66 = .ok (.aload_n 0, 1) := by decide +kernel
theorem dX7_readsItem_67 : decode cX7_readsItem 67 = .ok (.getfield 22, 3) := by decide +kernel
theorem dX7_readsItem_70 : decode cX7_readsItem 70 = .ok (.iload_n 2, 1) := by decide +kernel
theorem dX7_readsItem_71 : decode cX7_readsItem 71 = .ok (.aload_n 0, 1) := by decide +kernel
theorem dX7_readsItem_72 : decode cX7_readsItem 72 = .ok (.aload_n 0, 1) := by decide +kernel
theorem dX7_readsItem_73 : decode cX7_readsItem 73 = .ok (.getfield 19, 3) := by decide +kernel
theorem dX7_readsItem_76 : decode cX7_readsItem 76 = .ok (.iload_n 2, 1) := by decide +kernel
theorem dX7_readsItem_77 : decode cX7_readsItem 77 = .ok (.iaload, 1) := by decide +kernel
theorem dX7_readsItem_78 : decode cX7_readsItem 78 = .ok (.bipush 99, 2) := by decide +kernel
theorem dX7_readsItem_80 : decode cX7_readsItem 80 = .ok (.invokevirtual 107, 3) := by decide +kernel
theorem dX7_readsItem_83 : decode cX7_readsItem 83 = .ok (.iastore, 1) := by decide +kernel
theorem dX7_readsItem_84 : decode cX7_readsItem 84 = .ok (.aload_n 0, 1) := by decide +kernel
theorem dX7_readsItem_85 : decode cX7_readsItem 85 = .ok (.getfield 13, 3) := by decide +kernel
theorem dX7_readsItem_88 : decode cX7_readsItem 88 = .ok (.bipush 6, 2) := by decide +kernel
theorem dX7_readsItem_90 : decode cX7_readsItem 90 = .ok (.dup2, 1) := by decide +kernel
theorem dX7_readsItem_91 : decode cX7_readsItem 91 = .ok (.iaload, 1) := by decide +kernel
theorem dX7_readsItem_92 : decode cX7_readsItem 92 = .ok (.iconst 1, 1) := by decide +kernel
theorem dX7_readsItem_93 : decode cX7_readsItem 93 = .ok (.iadd, 1) := by decide +kernel
theorem dX7_readsItem_94 : decode cX7_readsItem 94 = .ok (.iastore, 1) := by decide +kernel
theorem dX7_readsItem_95 : decode cX7_readsItem 95 = .ok (.goto 60, 3) := by decide +kernel
theorem dX7_readsItem_98 : decode cX7_readsItem 98 = .ok (.iload_n 1, 1) := by decide +kernel
theorem dX7_readsItem_99 : decode cX7_readsItem 99 = .ok (.bipush 109, 2) := by decide +kernel
theorem dX7_readsItem_101 : decode cX7_readsItem 101 = .ok (.if_icmp .ne 29, 3) := by decide +kernel
theorem dX7_readsItem_104 : decode cX7_readsItem 104 = .ok (.aload_n 0, 1) := by decide +kernel
theorem dX7_readsItem_105 : decode cX7_readsItem 105 = .ok (.getfield 13, 3) := by decide +kernel
theorem dX7_readsItem_108 : decode cX7_readsItem 108 = .ok (.iconst 5, 1) := by decide +kernel
theorem dX7_readsItem_109 : decode cX7_readsItem 109 = .ok (.aload_n 0, 1) := by decide +kernel
theorem dX7_readsItem_110 : decode cX7_readsItem 110 = .ok (.iconst 1, 1) := by decide +kernel
theorem dX7_readsItem_111 : decode cX7_readsItem 111 = .ok (.bipush 6, 2) := by decide +kernel
theorem dX7_readsItem_113 : decode cX7_readsItem 113 = .ok (.invokevirtual 107, 3) := by decide +kernel
theorem dX7_readsItem_116 : decode cX7_readsItem 116 = .ok (.iastore, 1) := by decide +kernel
theorem dX7_readsItem_117 : decode cX7_readsItem 117 = .ok (.aload_n 0, 1) := by decide +kernel
theorem dX7_readsItem_118 : decode cX7_readsItem 118 = .ok (.dup, 1) := by decide +kernel
theorem dX7_readsItem_119 : decode cX7_readsItem 119 = .ok (.getfield 104, 3) := by decide +kernel
theorem dX7_readsItem_122 : decode cX7_readsItem 122 = .ok (.iconst 1, 1) := by decide +kernel
theorem dX7_readsItem_123 : decode cX7_readsItem 123 = .ok (.ior, 1) := by decide +kernel
theorem dX7_readsItem_124 : decode cX7_readsItem 124 = .ok (.putfield 104, 3) := by decide +kernel
theorem dX7_readsItem_127 : decode cX7_readsItem 127 = .ok (.goto 28, 3) := by decide +kernel
theorem dX7_readsItem_130 : decode cX7_readsItem 130 = .ok (.aload_n 0, 1) := by decide +kernel
theorem dX7_readsItem_131 : decode cX7_readsItem 131 = .ok (.getfield 13, 3) := by decide +kernel
theorem dX7_readsItem_134 : decode cX7_readsItem 134 = .ok (.bipush 7, 2) := by decide +kernel
theorem dX7_readsItem_136 : decode cX7_readsItem 136 = .ok (.aload_n 0, 1) := by decide +kernel
theorem dX7_readsItem_137 : decode cX7_readsItem 137 = .ok (.bipush 10, 2) := by decide +kernel
theorem dX7_readsItem_139 : decode cX7_readsItem 139 = .ok (.bipush 99, 2) := by decide +kernel
theorem dX7_readsItem_141 : decode cX7_readsItem 141 = .ok (.invokevirtual 107, 3) := by decide +kernel
theorem dX7_readsItem_144 : decode cX7_readsItem 144 = .ok (.iastore, 1) := by decide +kernel
theorem dX7_readsItem_145 : decode cX7_readsItem 145 = .ok (.aload_n 0, 1) := by decide +kernel
theorem dX7_readsItem_146 : decode cX7_readsItem 146 = .ok (.dup, 1) := by decide +kernel
theorem dX7_readsItem_147 : decode cX7_readsItem 147 = .ok (.getfield 104, 3) := by decide +kernel
theorem dX7_readsItem_150 : decode cX7_readsItem 150 = .ok (.iconst 2, 1) := by decide +kernel
theorem dX7_readsItem_151 : decode cX7_readsItem 151 = .ok (.ior, 1) := by decide +kernel
theorem dX7_readsItem_152 : decode cX7_readsItem 152 = .ok (.putfield 104, 3) := by decide +kernel
theorem dX7_readsItem_155 : decode cX7_readsItem 155 = .ok (.return_, 1) := by decide +kernel
theorem dX7_town_0 : decode cX7_town 0 = .ok (.aload_n 0, 1) := by decide +kernel
theorem dX7_town_1 : decode cX7_town 1 = .ok (.iconst 0, 1) := by decide +kernel
theorem dX7_town_2 : decode cX7_town 2 = .ok (.putfield 59, 3) := by decide +kernel
theorem dX7_town_5 : decode cX7_town 5 = .ok (.aload_n 0, 1) := by decide +kernel
theorem dX7_town_6 : decode cX7_town 6 = .ok (.iconst (-1), 1) := by decide +kernel
theorem dX7_town_7 : decode cX7_town 7 = .ok (.putfield 90, 3) := by decide +kernel
theorem dX7_town_10 : decode cX7_town 10 = .ok (.aload_n 0, 1) := by decide +kernel
theorem dX7_town_11 : decode cX7_town 11 = .ok (.iconst 0, 1) := by decide +kernel
theorem dX7_town_12 : decode cX7_town 12 = .ok (.putfield 70, 3) := by decide +kernel
theorem dX7_town_15 : decode cX7_town 15 = .ok (.aload_n 0, 1) := by decide +kernel
theorem dX7_town_16 : decode cX7_town 16 = .ok (.invokevirtual 53, 3) := by decide +kernel
theorem dX7_town_19 : decode cX7_town 19 = .ok (.iconst 0, 1) := by decide +kernel
theorem dX7_town_20 : decode cX7_town 20 = .ok (.istore_n 1, 1) := by decide +kernel
theorem dX7_town_21 : decode cX7_town 21 = .ok (.aload_n 0, 1) := by decide +kernel
theorem dX7_town_22 : decode cX7_town 22 = .ok (.invokevirtual 97, 3) := by decide +kernel
theorem dX7_town_25 : decode cX7_town 25 = .ok (.aload_n 0, 1) := by decide +kernel
theorem dX7_town_26 : decode cX7_town 26 = .ok (.invokevirtual 93, 3) := by decide +kernel
theorem dX7_town_29 : decode cX7_town 29 = .ok (.ifCond .eq 71, 3) := by decide +kernel
theorem dX7_town_32 : decode cX7_town 32 = .ok (.aload_n 0, 1) := by decide +kernel
theorem dX7_town_33 : decode cX7_town 33 = .ok (.getfield 80, 3) := by decide +kernel
theorem dX7_town_36 : decode cX7_town 36 = .ok (.ifCond .eq 64, 3) := by decide +kernel
theorem dX7_town_39 : decode cX7_town 39 = .ok (.aload_n 0, 1) := by decide +kernel
theorem dX7_town_40 : decode cX7_town 40 = .ok (.aload_n 0, 1) := by decide +kernel
theorem dX7_town_41 : decode cX7_town 41 = .ok (.getfield 80, 3) := by decide +kernel
theorem dX7_town_44 : decode cX7_town 44 = .ok (.iconst 1, 1) := by decide +kernel
theorem dX7_town_45 : decode cX7_town 45 = .ok (.if_icmp .ne 14, 3) := by decide +kernel
theorem dX7_town_48 : decode cX7_town 48 = .ok (.aload_n 0, 1) := by decide +kernel
theorem dX7_town_49 : decode cX7_town 49 = .ok (.invokevirtual 111, 3) := by decide +kernel
theorem dX7_town_52 : decode cX7_town 52 = .ok (.ifCond .eq 7, 3) := by decide +kernel
theorem dX7_town_55 : decode cX7_town 55 = .ok (.iconst 1, 1) := by decide +kernel
theorem dX7_town_56 : decode cX7_town 56 = .ok (.goto 4, 3) := by decide +kernel
theorem dX7_town_59 : decode cX7_town 59 = .ok (.iconst 0, 1) := by decide +kernel
theorem dX7_town_60 : decode cX7_town 60 = .ok (.invokevirtual 100, 3) := by decide +kernel
theorem dX7_town_63 : decode cX7_town 63 = .ok (.istore_n 2, 1) := by decide +kernel
theorem dX7_town_64 : decode cX7_town 64 = .ok (.aload_n 0, 1) := by decide +kernel
theorem dX7_town_65 : decode cX7_town 65 = .ok (.invokevirtual 93, 3) := by decide +kernel
theorem dX7_town_68 : decode cX7_town 68 = .ok (.ifCond .eq 8, 3) := by decide +kernel
theorem dX7_town_71 : decode cX7_town 71 = .ok (.aload_n 0, 1) := by decide +kernel
theorem dX7_town_72 : decode cX7_town 72 = .ok (.iload_n 2, 1) := by decide +kernel
theorem dX7_town_73 : decode cX7_town 73 = .ok (.invokevirtual 114, 3) := by decide +kernel
theorem dX7_town_76 : decode cX7_town 76 = .ok (.aload_n 0, 1) := by decide +kernel
theorem dX7_town_77 : decode cX7_town 77 = .ok (.aload_n 0, 1) := by decide +kernel
theorem dX7_town_78 : decode cX7_town 78 = .ok (.getfield 80, 3) := by decide +kernel
theorem dX7_town_81 : decode cX7_town 81 = .ok (.iconst 3, 1) := by decide +kernel
theorem dX7_town_82 : decode cX7_town 82 = .ok (.if_icmp .ne 7, 3) := by decide +kernel
theorem dX7_town_85 : decode cX7_town 85 = .ok (.iconst 1, 1) := by decide +kernel
theorem dX7_town_86 : decode cX7_town 86 = .ok (.goto 4, 3) := by decide +kernel
theorem dX7_town_89 : decode cX7_town 89 = .ok (.iconst 0, 1) := by decide +kernel
theorem dX7_town_90 : decode cX7_town 90 = .ok (.invokevirtual 100, 3) := by decide +kernel
theorem dX7_town_93 : decode cX7_town 93 = .ok (.pop, 1) := by decide +kernel
theorem dX7_town_94 : decode cX7_town 94 = .ok (.iinc 1 1, 3) := by decide +kernel
theorem dX7_town_97 : decode cX7_town 97 = .ok (.goto (-72), 3) := by decide +kernel
theorem dX7_town_100 : decode cX7_town 100 = .ok (.aload_n 0, 1) := by decide +kernel
theorem dX7_town_101 : decode cX7_town 101 = .ok (.invokevirtual 93, 3) := by decide +kernel
theorem dX7_town_104 : decode cX7_town 104 = .ok (.ifCond .ne 11, 3) := by decide +kernel
theorem dX7_town_107 : decode cX7_town 107 = .ok (.bipush (-10), 2) := by decide +kernel
theorem dX7_town_109 : decode cX7_town 109 = .ok (.aload_n 0, 1) := by decide +kernel
theorem dX7_town_110 : decode cX7_town 110 = .ok (.getfield 90, 3) := by decide +kernel
theorem dX7_town_113 : decode cX7_town 113 = .ok (.isub, 1) := by decide +kernel
theorem dX7_town_114 : decode cX7_town 114 = .ok (.ireturn, 1) := by decide +kernel
theorem dX7_town_115 : decode cX7_town 115 = .ok (.aload_n 0, 1) := by decide +kernel
theorem dX7_town_116 : decode cX7_town 116 = .ok (.invokevirtual 56, 3) := by decide +kernel
theorem dX7_town_119 : decode cX7_town 119 = .ok (.iload_n 1, 1) := by decide +kernel
theorem dX7_town_120 : decode cX7_town 120 = .ok (.ireturn, 1) := by decide +kernel
theorem dX7_settles_0 : decode cX7_settles 0 = .ok (.iconst 0, 1) := by decide +kernel
theorem dX7_settles_1 : decode cX7_settles 1 = .ok (.istore_n 1, 1) := by decide +kernel
theorem dX7_settles_2 : decode cX7_settles 2 = .ok (.iload_n 1, 1) := by decide +kernel
theorem dX7_settles_3 : decode cX7_settles 3 = .ok (.iconst 4, 1) := by decide +kernel
theorem dX7_settles_4 : decode cX7_settles 4 = .ok (.if_icmp .ge 23, 3) := by decide +kernel
theorem dX7_settles_7 : decode cX7_settles 7 = .ok (.aload_n 0, 1) := by decide +kernel
theorem dX7_settles_8 : decode cX7_settles 8 = .ok (.getfield 13, 3) := by decide +kernel
theorem dX7_settles_11 : decode cX7_settles 11 = .ok (.iload_n 1, 1) := by decide +kernel
theorem dX7_settles_12 : decode cX7_settles 12 = .ok (.aload_n 0, 1) := by decide +kernel
theorem dX7_settles_13 : decode cX7_settles 13 = .ok (.getfield 13, 3) := by decide +kernel
theorem dX7_settles_16 : decode cX7_settles 16 = .ok (.iconst 4, 1) := by decide +kernel
theorem dX7_settles_17 : decode cX7_settles 17 = .ok (.iload_n 1, 1) := by decide +kernel
theorem dX7_settles_18 : decode cX7_settles 18 = .ok (.iadd, 1) := by decide +kernel
theorem dX7_settles_19 : decode cX7_settles 19 = .ok (.iaload, 1) := by decide +kernel
theorem dX7_settles_20 : decode cX7_settles 20 = .ok (.iastore, 1) := by decide +kernel
theorem dX7_settles_21 : decode cX7_settles 21 = .ok (.iinc 1 1, 3) := by decide +kernel
theorem dX7_settles_24 : decode cX7_settles 24 = .ok (.goto (-22), 3) := by decide +kernel
theorem dX7_settles_27 : decode cX7_settles 27 = .ok (.iconst 0, 1) := by decide +kernel
theorem dX7_settles_28 : decode cX7_settles 28 = .ok (.istore_n 1, 1) := by decide +kernel
theorem dX7_settles_29 : decode cX7_settles 29 = .ok (.iload_n 1, 1) := by decide +kernel
theorem dX7_settles_30 : decode cX7_settles 30 = .ok (.iconst 5, 1) := by decide +kernel
theorem dX7_settles_31 : decode cX7_settles 31 = .ok (.if_icmp .ge 37, 3) := by decide +kernel
theorem dX7_settles_34 : decode cX7_settles 34 = .ok (.aload_n 0, 1) := by decide +kernel
theorem dX7_settles_35 : decode cX7_settles 35 = .ok (.getfield 19, 3) := by decide +kernel
theorem dX7_settles_38 : decode cX7_settles 38 = .ok (.iload_n 1, 1) := by decide +kernel
theorem dX7_settles_39 : decode cX7_settles 39 = .ok (.aload_n 0, 1) := by decide +kernel
theorem dX7_settles_40 : decode cX7_settles 40 = .ok (.getfield 19, 3) := by decide +kernel
theorem dX7_settles_43 : decode cX7_settles 43 = .ok (.iconst 5, 1) := by decide +kernel
theorem dX7_settles_44 : decode cX7_settles 44 = .ok (.iload_n 1, 1) := by decide +kernel
theorem dX7_settles_45 : decode cX7_settles 45 = .ok (.iadd, 1) := by decide +kernel
theorem dX7_settles_46 : decode cX7_settles 46 = .ok (.iaload, 1) := by decide +kernel
theorem dX7_settles_47 : decode cX7_settles 47 = .ok (.iastore, 1) := by decide +kernel
theorem dX7_settles_48 : decode cX7_settles 48 = .ok (.aload_n 0, 1) := by decide +kernel
theorem dX7_settles_49 : decode cX7_settles 49 = .ok (.getfield 22, 3) := by decide +kernel
theorem dX7_settles_52 : decode cX7_settles 52 = .ok (.iload_n 1, 1) := by decide +kernel
theorem dX7_settles_53 : decode cX7_settles 53 = .ok (.aload_n 0, 1) := by decide +kernel
theorem dX7_settles_54 : decode cX7_settles 54 = .ok (.getfield 22, 3) := by decide +kernel
theorem dX7_settles_57 : decode cX7_settles 57 = .ok (.iconst 5, 1) := by decide +kernel
theorem dX7_settles_58 : decode cX7_settles 58 = .ok (.iload_n 1, 1) := by decide +kernel
theorem dX7_settles_59 : decode cX7_settles 59 = .ok (.iadd, 1) := by decide +kernel
theorem dX7_settles_60 : decode cX7_settles 60 = .ok (.iaload, 1) := by decide +kernel
theorem dX7_settles_61 : decode cX7_settles 61 = .ok (.iastore, 1) := by decide +kernel
theorem dX7_settles_62 : decode cX7_settles 62 = .ok (.iinc 1 1, 3) := by decide +kernel
theorem dX7_settles_65 : decode cX7_settles 65 = .ok (.goto (-36), 3) := by decide +kernel
theorem dX7_settles_68 : decode cX7_settles 68 = .ok (.iconst 0, 1) := by decide +kernel
theorem dX7_settles_69 : decode cX7_settles 69 = .ok (.istore_n 1, 1) := by decide +kernel
theorem dX7_settles_70 : decode cX7_settles 70 = .ok (.iload_n 1, 1) := by decide +kernel
theorem dX7_settles_71 : decode cX7_settles 71 = .ok (.bipush 21, 2) := by decide +kernel
theorem dX7_settles_73 : decode cX7_settles 73 = .ok (.if_icmp .ge 16, 3) := by decide +kernel
theorem dX7_settles_76 : decode cX7_settles 76 = .ok (.aload_n 0, 1) := by decide +kernel
theorem dX7_settles_77 : decode cX7_settles 77 = .ok (.getfield 25, 3) := by decide +kernel
theorem dX7_settles_80 : decode cX7_settles 80 = .ok (.iload_n 1, 1) := by decide +kernel
theorem dX7_settles_81 : decode cX7_settles 81 = .ok (.iconst 0, 1) := by decide +kernel
theorem dX7_settles_82 : decode cX7_settles 82 = .ok (.iastore, 1) := by decide +kernel
theorem dX7_settles_83 : decode cX7_settles 83 = .ok (.iinc 1 1, 3) := by decide +kernel
theorem dX7_settles_86 : decode cX7_settles 86 = .ok (.goto (-16), 3) := by decide +kernel
theorem dX7_settles_89 : decode cX7_settles 89 = .ok (.iconst 0, 1) := by decide +kernel
theorem dX7_settles_90 : decode cX7_settles 90 = .ok (.istore_n 1, 1) := by decide +kernel
theorem dX7_settles_91 : decode cX7_settles 91 = .ok (.iload_n 1, 1) := by decide +kernel
theorem dX7_settles_92 : decode cX7_settles 92 = .ok (.bipush 6, 2) := by decide +kernel
theorem dX7_settles_94 : decode cX7_settles 94 = .ok (.if_icmp .ge 47, 3) := by decide +kernel
theorem dX7_settles_97 : decode cX7_settles 97 = .ok (.aload_n 0, 1) := by decide +kernel
theorem dX7_settles_98 : decode cX7_settles 98 = .ok (.getfield 25, 3) := by decide +kernel
theorem dX7_settles_101 : decode cX7_settles 101 = .ok (.iconst 1, 1) := by decide +kernel
theorem dX7_settles_102 : decode cX7_settles 102 = .ok (.iload_n 1, 1) := by decide +kernel
theorem dX7_settles_103 : decode cX7_settles 103 = .ok (.iadd, 1) := by decide +kernel
theorem dX7_settles_104 : decode cX7_settles 104 = .ok (.iload_n 1, 1) := by decide +kernel
theorem dX7_settles_105 : decode cX7_settles 105 = .ok (.aload_n 0, 1) := by decide +kernel
theorem dX7_settles_106 : decode cX7_settles 106 = .ok (.getfield 13, 3) := by decide +kernel
theorem dX7_settles_109 : decode cX7_settles 109 = .ok (.iconst 0, 1) := by decide +kernel
theorem dX7_settles_110 : decode cX7_settles 110 = .ok (.iaload, 1) := by decide +kernel
theorem dX7_settles_111 : decode cX7_settles 111 = .ok (.if_icmp .ge 12, 3) := by decide +kernel
theorem dX7_settles_114 : decode cX7_settles 114 = .ok (.aload_n 0, 1) := by decide +kernel
theorem dX7_settles_115 : decode cX7_settles 115 = .ok (.getfield 16, 3) := by decide +kernel
theorem dX7_settles_118 : decode cX7_settles 118 = .ok (.iload_n 1, 1) := by decide +kernel
theorem dX7_settles_119 : decode cX7_settles 119 = .ok (.iaload, 1) := by decide +kernel
theorem dX7_settles_120 : decode cX7_settles 120 = .ok (.goto 4, 3) := by decide +kernel
theorem dX7_settles_123 : decode cX7_settles 123 = .ok (.iconst 0, 1) := by decide +kernel
theorem dX7_settles_124 : decode cX7_settles 124 = .ok (.iastore, 1) := by decide +kernel
theorem dX7_settles_125 : decode cX7_settles 125 = .ok (.aload_n 0, 1) := by decide +kernel
theorem dX7_settles_126 : decode cX7_settles 126 = .ok (.getfield 25, 3) := by decide +kernel
theorem dX7_settles_129 : decode cX7_settles 129 = .ok (.bipush 7, 2) := by decide +kernel
theorem dX7_settles_131 : decode cX7_settles 131 = .ok (.iload_n 1, 1) := by decide +kernel
theorem dX7_settles_132 : decode cX7_settles 132 = .ok (.iadd, 1) := by decide +kernel
theorem dX7_settles_133 : decode cX7_settles 133 = .ok (.iload_n 1, 1) := by decide +kernel
theorem dX7_settles_134 : decode cX7_settles 134 = .ok (.iastore, 1) := by decide +kernel
theorem dX7_settles_135 : decode cX7_settles 135 = .ok (.iinc 1 1, 3) := by decide +kernel
theorem dX7_settles_138 : decode cX7_settles 138 = .ok (.goto (-47), 3) := by decide +kernel
theorem dX7_settles_141 : decode cX7_settles 141 = .ok (.aload_n 0, 1) := by decide +kernel
theorem dX7_settles_142 : decode cX7_settles 142 = .ok (.iconst 0, 1) := by decide +kernel
theorem dX7_settles_143 : decode cX7_settles 143 = .ok (.putfield 67, 3) := by decide +kernel
theorem dX7_settles_146 : decode cX7_settles 146 = .ok (.aload_n 0, 1) := by decide +kernel
theorem dX7_settles_147 : decode cX7_settles 147 = .ok (.iconst 0, 1) := by decide +kernel
theorem dX7_settles_148 : decode cX7_settles 148 = .ok (.putfield 118, 3) := by decide +kernel
theorem dX7_settles_151 : decode cX7_settles 151 = .ok (.aload_n 0, 1) := by decide +kernel
theorem dX7_settles_152 : decode cX7_settles 152 = .ok (.iconst 0, 1) := by decide +kernel
theorem dX7_settles_153 : decode cX7_settles 153 = .ok (.putfield 121, 3) := by decide +kernel
theorem dX7_settles_156 : decode cX7_settles 156 = .ok (.aload_n 0, 1) := by decide +kernel
theorem dX7_settles_157 : decode cX7_settles 157 = .ok (.getfield 31, 3) := by decide +kernel
theorem dX7_settles_160 : decode cX7_settles 160 = .ok (.iconst 0, 1) := by decide +kernel
theorem dX7_settles_161 : decode cX7_settles 161 = .ok (.iconst 0, 1) := by decide +kernel
theorem dX7_settles_162 : decode cX7_settles 162 = .ok (.bastore, 1) := by decide +kernel
theorem dX7_settles_163 : decode cX7_settles 163 = .ok (.aload_n 0, 1) := by decide +kernel
theorem dX7_settles_164 : decode cX7_settles 164 = .ok (.getfield 31, 3) := by decide +kernel
theorem dX7_settles_167 : decode cX7_settles 167 = .ok (.iconst 1, 1) := by decide +kernel
theorem dX7_settles_168 : decode cX7_settles 168 = .ok (.iconst 0, 1) := by decide +kernel
theorem dX7_settles_169 : decode cX7_settles 169 = .ok (.bastore, 1) := by decide +kernel
theorem dX7_settles_170 : decode cX7_settles 170 = .ok (.return_, 1) := by decide +kernel
theorem dX7_isRoom_0 : decode cX7_isRoom 0 = .ok (.iload_n 1, 1) := by decide +kernel
theorem dX7_isRoom_1 : decode cX7_isRoom 1 = .ok (.iconst 0, 1) := by decide +kernel
theorem dX7_isRoom_2 : decode cX7_isRoom 2 = .ok (.aload_n 0, 1) := by decide +kernel
theorem dX7_isRoom_3 : decode cX7_isRoom 3 = .ok (.getfield 13, 3) := by decide +kernel
theorem dX7_isRoom_6 : decode cX7_isRoom 6 = .ok (.iconst 0, 1) := by decide +kernel
theorem dX7_isRoom_7 : decode cX7_isRoom 7 = .ok (.iaload, 1) := by decide +kernel
theorem dX7_isRoom_8 : decode cX7_isRoom 8 = .ok (.iconst 1, 1) := by decide +kernel
theorem dX7_isRoom_9 : decode cX7_isRoom 9 = .ok (.isub, 1) := by decide +kernel
theorem dX7_isRoom_10 : decode cX7_isRoom 10 = .ok (.invokestatic 63, 3) := by decide +kernel
theorem dX7_isRoom_13 : decode cX7_isRoom 13 = .ok (.ireturn, 1) := by decide +kernel
theorem dX7_isChild_0 : decode cX7_isChild 0 = .ok (.iload_n 1, 1) := by decide +kernel
theorem dX7_isChild_1 : decode cX7_isChild 1 = .ok (.iconst 0, 1) := by decide +kernel
theorem dX7_isChild_2 : decode cX7_isChild 2 = .ok (.aload_n 0, 1) := by decide +kernel
theorem dX7_isChild_3 : decode cX7_isChild 3 = .ok (.getfield 13, 3) := by decide +kernel
theorem dX7_isChild_6 : decode cX7_isChild 6 = .ok (.iconst 1, 1) := by decide +kernel
theorem dX7_isChild_7 : decode cX7_isChild 7 = .ok (.iaload, 1) := by decide +kernel
theorem dX7_isChild_8 : decode cX7_isChild 8 = .ok (.iconst 1, 1) := by decide +kernel
theorem dX7_isChild_9 : decode cX7_isChild 9 = .ok (.isub, 1) := by decide +kernel
theorem dX7_isChild_10 : decode cX7_isChild 10 = .ok (.invokestatic 63, 3) := by decide +kernel
theorem dX7_isChild_13 : decode cX7_isChild 13 = .ok (.ireturn, 1) := by decide +kernel
theorem dX7_isWork_0 : decode cX7_isWork 0 = .ok (.iload_n 1, 1) := by decide +kernel
theorem dX7_isWork_1 : decode cX7_isWork 1 = .ok (.iconst 0, 1) := by decide +kernel
theorem dX7_isWork_2 : decode cX7_isWork 2 = .ok (.aload_n 0, 1) := by decide +kernel
theorem dX7_isWork_3 : decode cX7_isWork 3 = .ok (.getfield 13, 3) := by decide +kernel
theorem dX7_isWork_6 : decode cX7_isWork 6 = .ok (.iconst 2, 1) := by decide +kernel
theorem dX7_isWork_7 : decode cX7_isWork 7 = .ok (.iaload, 1) := by decide +kernel
theorem dX7_isWork_8 : decode cX7_isWork 8 = .ok (.iconst 1, 1) := by decide +kernel
theorem dX7_isWork_9 : decode cX7_isWork 9 = .ok (.isub, 1) := by decide +kernel
theorem dX7_isWork_10 : decode cX7_isWork 10 = .ok (.invokestatic 63, 3) := by decide +kernel
theorem dX7_isWork_13 : decode cX7_isWork 13 = .ok (.ireturn, 1) := by decide +kernel
theorem dX7_joinedWith_0 : decode cX7_joinedWith 0 = .ok (.iconst 0, 1) := by decide +kernel
theorem dX7_joinedWith_1 : decode cX7_joinedWith 1 = .ok (.istore_n 2, 1) := by decide +kernel
theorem dX7_joinedWith_2 : decode cX7_joinedWith 2 = .ok (.iconst 0, 1) := by decide +kernel
theorem dX7_joinedWith_3 : decode cX7_joinedWith 3 = .ok (.istore_n 3, 1) := by decide +kernel
theorem dX7_joinedWith_4 : decode cX7_joinedWith 4 = .ok (.iload_n 3, 1) := by decide +kernel
theorem dX7_joinedWith_5 : decode cX7_joinedWith 5 = .ok (.aload_n 0, 1) := by decide +kernel
theorem dX7_joinedWith_6 : decode cX7_joinedWith 6 = .ok (.getfield 13, 3) := by decide +kernel
theorem dX7_joinedWith_9 : decode cX7_joinedWith 9 = .ok (.iconst 0, 1) := by decide +kernel
theorem dX7_joinedWith_10 : decode cX7_joinedWith 10 = .ok (.iaload, 1) := by decide +kernel
theorem dX7_joinedWith_11 : decode cX7_joinedWith 11 = .ok (.if_icmp .ge 40, 3) := by decide +kernel
theorem dX7_joinedWith_14 : decode cX7_joinedWith 14 = .ok (.iload_n 2, 1) := by decide +kernel
theorem dX7_joinedWith_15 : decode cX7_joinedWith 15 = .ok (.aload_n 0, 1) := by decide +kernel
theorem dX7_joinedWith_16 : decode cX7_joinedWith 16 = .ok (.getfield 25, 3) := by decide +kernel
theorem dX7_joinedWith_19 : decode cX7_joinedWith 19 = .ok (.bipush 7, 2) := by decide +kernel
theorem dX7_joinedWith_21 : decode cX7_joinedWith 21 = .ok (.iload_n 3, 1) := by decide +kernel
theorem dX7_joinedWith_22 : decode cX7_joinedWith 22 = .ok (.iadd, 1) := by decide +kernel
theorem dX7_joinedWith_23 : decode cX7_joinedWith 23 = .ok (.iaload, 1) := by decide +kernel
theorem dX7_joinedWith_24 : decode cX7_joinedWith 24 = .ok (.aload_n 0, 1) := by decide +kernel
theorem dX7_joinedWith_25 : decode cX7_joinedWith 25 = .ok (.getfield 25, 3) := by decide +kernel
theorem dX7_joinedWith_28 : decode cX7_joinedWith 28 = .ok (.bipush 7, 2) := by decide +kernel
theorem dX7_joinedWith_30 : decode cX7_joinedWith 30 = .ok (.iload_n 1, 1) := by decide +kernel
theorem dX7_joinedWith_31 : decode cX7_joinedWith 31 = .ok (.iadd, 1) := by decide +kernel
theorem dX7_joinedWith_32 : decode cX7_joinedWith 32 = .ok (.iaload, 1) := by decide +kernel
theorem dX7_joinedWith_33 : decode cX7_joinedWith 33 = .ok (.if_icmp .ne 9, 3) := by decide +kernel
theorem dX7_joinedWith_36 : decode cX7_joinedWith 36 = .ok (.iconst 1, 1) := by decide +kernel
theorem dX7_joinedWith_37 : decode cX7_joinedWith 37 = .ok (.iload_n 3, 1) := by decide +kernel
theorem dX7_joinedWith_38 : decode cX7_joinedWith 38 = .ok (.ishl, 1) := by decide +kernel
theorem dX7_joinedWith_39 : decode cX7_joinedWith 39 = .ok (.goto 4, 3) := by decide +kernel
theorem dX7_joinedWith_42 : decode cX7_joinedWith 42 = .ok (.iconst 0, 1) := by decide +kernel
theorem dX7_joinedWith_43 : decode cX7_joinedWith 43 = .ok (.ior, 1) := by decide +kernel
theorem dX7_joinedWith_44 : decode cX7_joinedWith 44 = .ok (.istore_n 2, 1) := by decide +kernel
theorem dX7_joinedWith_45 : decode cX7_joinedWith 45 = .ok (.iinc 3 1, 3) := by decide +kernel
theorem dX7_joinedWith_48 : decode cX7_joinedWith 48 = .ok (.goto (-44), 3) := by decide +kernel
theorem dX7_joinedWith_51 : decode cX7_joinedWith 51 = .ok (.iload_n 2, 1) := by decide +kernel
theorem dX7_joinedWith_52 : decode cX7_joinedWith 52 = .ok (.ireturn, 1) := by decide +kernel
theorem dX7_ageBy_0 : decode cX7_ageBy 0 = .ok (.iconst 0, 1) := by decide +kernel
theorem dX7_ageBy_1 : decode cX7_ageBy 1 = .ok (.istore_n 2, 1) := by decide +kernel
theorem dX7_ageBy_2 : decode cX7_ageBy 2 = .ok (.iconst 0, 1) := by decide +kernel
theorem dX7_ageBy_3 : decode cX7_ageBy 3 = .ok (.istore_n 3, 1) := by decide +kernel
theorem dX7_ageBy_4 : decode cX7_ageBy 4 = .ok (.iload_n 3, 1) := by decide +kernel
theorem dX7_ageBy_5 : decode cX7_ageBy 5 = .ok (.aload_n 0, 1) := by decide +kernel
theorem dX7_ageBy_6 : decode cX7_ageBy 6 = .ok (.getfield 13, 3) := by decide +kernel
theorem dX7_ageBy_9 : decode cX7_ageBy 9 = .ok (.iconst 0, 1) := by decide +kernel
theorem dX7_ageBy_10 : decode cX7_ageBy 10 = .ok (.iaload, 1) := by decide +kernel
theorem dX7_ageBy_11 : decode cX7_ageBy 11 = .ok (.if_icmp .ge 32, 3) := by decide +kernel
theorem dX7_ageBy_14 : decode cX7_ageBy 14 = .ok (.iload_n 2, 1) := by decide +kernel
theorem dX7_ageBy_15 : decode cX7_ageBy 15 = .ok (.iload_n 1, 1) := by decide +kernel
theorem dX7_ageBy_16 : decode cX7_ageBy 16 = .ok (.iload_n 3, 1) := by decide +kernel
theorem dX7_ageBy_17 : decode cX7_ageBy 17 = .ok (.invokestatic 124, 3) := by decide +kernel
theorem dX7_ageBy_20 : decode cX7_ageBy 20 = .ok (.ifCond .eq 14, 3) := by decide +kernel
theorem dX7_ageBy_23 : decode cX7_ageBy 23 = .ok (.aload_n 0, 1) := by decide +kernel
theorem dX7_ageBy_24 : decode cX7_ageBy 24 = .ok (.getfield 25, 3) := by decide +kernel
theorem dX7_ageBy_27 : decode cX7_ageBy 27 = .ok (.iconst 1, 1) := by decide +kernel
theorem dX7_ageBy_28 : decode cX7_ageBy 28 = .ok (.iload_n 3, 1) := by decide +kernel
theorem dX7_ageBy_29 : decode cX7_ageBy 29 = .ok (.iadd, 1) := by decide +kernel
theorem dX7_ageBy_30 : decode cX7_ageBy 30 = .ok (.iaload, 1) := by decide +kernel
theorem dX7_ageBy_31 : decode cX7_ageBy 31 = .ok (.goto 4, 3) := by decide +kernel
theorem dX7_ageBy_34 : decode cX7_ageBy 34 = .ok (.iconst 0, 1) := by decide +kernel
theorem dX7_ageBy_35 : decode cX7_ageBy 35 = .ok (.iadd, 1) := by decide +kernel
theorem dX7_ageBy_36 : decode cX7_ageBy 36 = .ok (.istore_n 2, 1) := by decide +kernel
theorem dX7_ageBy_37 : decode cX7_ageBy 37 = .ok (.iinc 3 1, 3) := by decide +kernel
theorem dX7_ageBy_40 : decode cX7_ageBy 40 = .ok (.goto (-36), 3) := by decide +kernel
theorem dX7_ageBy_43 : decode cX7_ageBy 43 = .ok (.iload_n 2, 1) := by decide +kernel
theorem dX7_ageBy_44 : decode cX7_ageBy 44 = .ok (.iload_n 1, 1) := by decide +kernel
theorem dX7_ageBy_45 : decode cX7_ageBy 45 = .ok (.invokestatic 128, 3) := by decide +kernel
theorem dX7_ageBy_48 : decode cX7_ageBy 48 = .ok (.idiv, 1) := by decide +kernel
theorem dX7_ageBy_49 : decode cX7_ageBy 49 = .ok (.ireturn, 1) := by decide +kernel
theorem dX7_ageOf_0 : decode cX7_ageOf 0 = .ok (.aload_n 0, 1) := by decide +kernel
theorem dX7_ageOf_1 : decode cX7_ageOf 1 = .ok (.aload_n 0, 1) := by decide +kernel
theorem dX7_ageOf_2 : decode cX7_ageOf 2 = .ok (.iload_n 1, 1) := by decide +kernel
theorem dX7_ageOf_3 : decode cX7_ageOf 3 = .ok (.invokevirtual 131, 3) := by decide +kernel
theorem dX7_ageOf_6 : decode cX7_ageOf 6 = .ok (.invokevirtual 134, 3) := by decide +kernel
theorem dX7_ageOf_9 : decode cX7_ageOf 9 = .ok (.ireturn, 1) := by decide +kernel
theorem dX7_worksAt_0 : decode cX7_worksAt 0 = .ok (.iconst 0, 1) := by decide +kernel
theorem dX7_worksAt_1 : decode cX7_worksAt 1 = .ok (.istore_n 2, 1) := by decide +kernel
theorem dX7_worksAt_2 : decode cX7_worksAt 2 = .ok (.iconst 0, 1) := by decide +kernel
theorem dX7_worksAt_3 : decode cX7_worksAt 3 = .ok (.istore_n 3, 1) := by decide +kernel
theorem dX7_worksAt_4 : decode cX7_worksAt 4 = .ok (.iload_n 3, 1) := by decide +kernel
theorem dX7_worksAt_5 : decode cX7_worksAt 5 = .ok (.aload_n 0, 1) := by decide +kernel
theorem dX7_worksAt_6 : decode cX7_worksAt 6 = .ok (.getfield 13, 3) := by decide +kernel
theorem dX7_worksAt_9 : decode cX7_worksAt 9 = .ok (.iconst 2, 1) := by decide +kernel
theorem dX7_worksAt_10 : decode cX7_worksAt 10 = .ok (.iaload, 1) := by decide +kernel
theorem dX7_worksAt_11 : decode cX7_worksAt 11 = .ok (.if_icmp .ge 38, 3) := by decide +kernel
theorem dX7_worksAt_14 : decode cX7_worksAt 14 = .ok (.iload_n 2, 1) := by decide +kernel
theorem dX7_worksAt_15 : decode cX7_worksAt 15 = .ok (.iload_n 1, 1) := by decide +kernel
theorem dX7_worksAt_16 : decode cX7_worksAt 16 = .ok (.aload_n 0, 1) := by decide +kernel
theorem dX7_worksAt_17 : decode cX7_worksAt 17 = .ok (.getfield 19, 3) := by decide +kernel
theorem dX7_worksAt_20 : decode cX7_worksAt 20 = .ok (.iload_n 3, 1) := by decide +kernel
theorem dX7_worksAt_21 : decode cX7_worksAt 21 = .ok (.iaload, 1) := by decide +kernel
theorem dX7_worksAt_22 : decode cX7_worksAt 22 = .ok (.aload_n 0, 1) := by decide +kernel
theorem dX7_worksAt_23 : decode cX7_worksAt 23 = .ok (.getfield 22, 3) := by decide +kernel
theorem dX7_worksAt_26 : decode cX7_worksAt 26 = .ok (.iload_n 3, 1) := by decide +kernel
theorem dX7_worksAt_27 : decode cX7_worksAt 27 = .ok (.iaload, 1) := by decide +kernel
theorem dX7_worksAt_28 : decode cX7_worksAt 28 = .ok (.invokestatic 63, 3) := by decide +kernel
theorem dX7_worksAt_31 : decode cX7_worksAt 31 = .ok (.ifCond .eq 9, 3) := by decide +kernel
theorem dX7_worksAt_34 : decode cX7_worksAt 34 = .ok (.iconst 1, 1) := by decide +kernel
theorem dX7_worksAt_35 : decode cX7_worksAt 35 = .ok (.iload_n 3, 1) := by decide +kernel
theorem dX7_worksAt_36 : decode cX7_worksAt 36 = .ok (.ishl, 1) := by decide +kernel
theorem dX7_worksAt_37 : decode cX7_worksAt 37 = .ok (.goto 4, 3) := by decide +kernel
theorem dX7_worksAt_40 : decode cX7_worksAt 40 = .ok (.iconst 0, 1) := by decide +kernel
theorem dX7_worksAt_41 : decode cX7_worksAt 41 = .ok (.ior, 1) := by decide +kernel
theorem dX7_worksAt_42 : decode cX7_worksAt 42 = .ok (.istore_n 2, 1) := by decide +kernel
theorem dX7_worksAt_43 : decode cX7_worksAt 43 = .ok (.iinc 3 1, 3) := by decide +kernel
theorem dX7_worksAt_46 : decode cX7_worksAt 46 = .ok (.goto (-42), 3) := by decide +kernel
theorem dX7_worksAt_49 : decode cX7_worksAt 49 = .ok (.iload_n 2, 1) := by decide +kernel
theorem dX7_worksAt_50 : decode cX7_worksAt 50 = .ok (.ireturn, 1) := by decide +kernel
theorem dX7_worksOf_0 : decode cX7_worksOf 0 = .ok (.aload_n 0, 1) := by decide +kernel
theorem dX7_worksOf_1 : decode cX7_worksOf 1 = .ok (.getfield 25, 3) := by decide +kernel
theorem dX7_worksOf_4 : decode cX7_worksOf 4 = .ok (.bipush 14, 2) := by decide +kernel
theorem dX7_worksOf_6 : decode cX7_worksOf 6 = .ok (.iaload, 1) := by decide +kernel
theorem dX7_worksOf_7 : decode cX7_worksOf 7 = .ok (.iload_n 1, 1) := by decide +kernel
theorem dX7_worksOf_8 : decode cX7_worksOf 8 = .ok (.invokestatic 124, 3) := by decide +kernel
theorem dX7_worksOf_11 : decode cX7_worksOf 11 = .ok (.ifCond .eq 19, 3) := by decide +kernel
theorem dX7_worksOf_14 : decode cX7_worksOf 14 = .ok (.aload_n 0, 1) := by decide +kernel
theorem dX7_worksOf_15 : decode cX7_worksOf 15 = .ok (.aload_n 0, 1) := by decide +kernel
theorem dX7_worksOf_16 : decode cX7_worksOf 16 = .ok (.getfield 25, 3) := by decide +kernel
theorem dX7_worksOf_19 : decode cX7_worksOf 19 = .ok (.bipush 15, 2) := by decide +kernel
theorem dX7_worksOf_21 : decode cX7_worksOf 21 = .ok (.iload_n 1, 1) := by decide +kernel
theorem dX7_worksOf_22 : decode cX7_worksOf 22 = .ok (.iadd, 1) := by decide +kernel
theorem dX7_worksOf_23 : decode cX7_worksOf 23 = .ok (.iaload, 1) := by decide +kernel
theorem dX7_worksOf_24 : decode cX7_worksOf 24 = .ok (.invokevirtual 137, 3) := by decide +kernel
theorem dX7_worksOf_27 : decode cX7_worksOf 27 = .ok (.goto 4, 3) := by decide +kernel
theorem dX7_worksOf_30 : decode cX7_worksOf 30 = .ok (.iconst 0, 1) := by decide +kernel
theorem dX7_worksOf_31 : decode cX7_worksOf 31 = .ok (.ireturn, 1) := by decide +kernel
theorem dX7_whoCan_0 : decode cX7_whoCan 0 = .ok (.iconst 0, 1) := by decide +kernel
theorem dX7_whoCan_1 : decode cX7_whoCan 1 = .ok (.istore_n 2, 1) := by decide +kernel
theorem dX7_whoCan_2 : decode cX7_whoCan 2 = .ok (.iconst 0, 1) := by decide +kernel
theorem dX7_whoCan_3 : decode cX7_whoCan 3 = .ok (.istore_n 3, 1) := by decide +kernel
theorem dX7_whoCan_4 : decode cX7_whoCan 4 = .ok (.iload_n 3, 1) := by decide +kernel
theorem dX7_whoCan_5 : decode cX7_whoCan 5 = .ok (.aload_n 0, 1) := by decide +kernel
theorem dX7_whoCan_6 : decode cX7_whoCan 6 = .ok (.getfield 13, 3) := by decide +kernel
theorem dX7_whoCan_9 : decode cX7_whoCan 9 = .ok (.iconst 1, 1) := by decide +kernel
theorem dX7_whoCan_10 : decode cX7_whoCan 10 = .ok (.iaload, 1) := by decide +kernel
theorem dX7_whoCan_11 : decode cX7_whoCan 11 = .ok (.if_icmp .ge 31, 3) := by decide +kernel
theorem dX7_whoCan_14 : decode cX7_whoCan 14 = .ok (.iload_n 2, 1) := by decide +kernel
theorem dX7_whoCan_15 : decode cX7_whoCan 15 = .ok (.aload_n 0, 1) := by decide +kernel
theorem dX7_whoCan_16 : decode cX7_whoCan 16 = .ok (.iload_n 3, 1) := by decide +kernel
theorem dX7_whoCan_17 : decode cX7_whoCan 17 = .ok (.invokevirtual 140, 3) := by decide +kernel
theorem dX7_whoCan_20 : decode cX7_whoCan 20 = .ok (.iload_n 1, 1) := by decide +kernel
theorem dX7_whoCan_21 : decode cX7_whoCan 21 = .ok (.invokestatic 124, 3) := by decide +kernel
theorem dX7_whoCan_24 : decode cX7_whoCan 24 = .ok (.ifCond .eq 9, 3) := by decide +kernel
theorem dX7_whoCan_27 : decode cX7_whoCan 27 = .ok (.iconst 1, 1) := by decide +kernel
theorem dX7_whoCan_28 : decode cX7_whoCan 28 = .ok (.iload_n 3, 1) := by decide +kernel
theorem dX7_whoCan_29 : decode cX7_whoCan 29 = .ok (.ishl, 1) := by decide +kernel
theorem dX7_whoCan_30 : decode cX7_whoCan 30 = .ok (.goto 4, 3) := by decide +kernel
theorem dX7_whoCan_33 : decode cX7_whoCan 33 = .ok (.iconst 0, 1) := by decide +kernel
theorem dX7_whoCan_34 : decode cX7_whoCan 34 = .ok (.ior, 1) := by decide +kernel
theorem dX7_whoCan_35 : decode cX7_whoCan 35 = .ok (.istore_n 2, 1) := by decide +kernel
theorem dX7_whoCan_36 : decode cX7_whoCan 36 = .ok (.iinc 3 1, 3) := by decide +kernel
theorem dX7_whoCan_39 : decode cX7_whoCan 39 = .ok (.goto (-35), 3) := by decide +kernel
theorem dX7_whoCan_42 : decode cX7_whoCan 42 = .ok (.iload_n 2, 1) := by decide +kernel
theorem dX7_whoCan_43 : decode cX7_whoCan 43 = .ok (.ireturn, 1) := by decide +kernel
theorem dX7_isDoneIn_0 : decode cX7_isDoneIn 0 = .ok (.iconst 0, 1) := by decide +kernel
theorem dX7_isDoneIn_1 : decode cX7_isDoneIn 1 = .ok (.istore_n 3, 1) := by decide +kernel
theorem dX7_isDoneIn_2 : decode cX7_isDoneIn 2 = .ok (.iconst 0, 1) := by decide +kernel
theorem dX7_isDoneIn_3 : decode cX7_isDoneIn 3 = .ok (.istore 4, 2) := by decide +kernel
theorem dX7_isDoneIn_5 : decode cX7_isDoneIn 5 = .ok (.iload 4, 2) := by decide +kernel
theorem dX7_isDoneIn_7 : decode cX7_isDoneIn 7 = .ok (.aload_n 0, 1) := by decide +kernel
theorem dX7_isDoneIn_8 : decode cX7_isDoneIn 8 = .ok (.getfield 13, 3) := by decide +kernel
theorem dX7_isDoneIn_11 : decode cX7_isDoneIn 11 = .ok (.iconst 1, 1) := by decide +kernel
theorem dX7_isDoneIn_12 : decode cX7_isDoneIn 12 = .ok (.iaload, 1) := by decide +kernel
theorem dX7_isDoneIn_13 : decode cX7_isDoneIn 13 = .ok (.if_icmp .ge 79, 3) := by decide +kernel
theorem dX7_isDoneIn_16 : decode cX7_isDoneIn 16 = .ok (.aload_n 0, 1) := by decide +kernel
theorem dX7_isDoneIn_17 : decode cX7_isDoneIn 17 = .ok (.getfield 25, 3) := by decide +kernel
theorem dX7_isDoneIn_20 : decode cX7_isDoneIn 20 = .ok (.bipush 15, 2) := by decide +kernel
theorem dX7_isDoneIn_22 : decode cX7_isDoneIn 22 = .ok (.iload 4, 2) := by decide +kernel
theorem dX7_isDoneIn_24 : decode cX7_isDoneIn 24 = .ok (.iadd, 1) := by decide +kernel
theorem dX7_isDoneIn_25 : decode cX7_isDoneIn 25 = .ok (.iaload, 1) := by decide +kernel
theorem dX7_isDoneIn_26 : decode cX7_isDoneIn 26 = .ok (.iload_n 2, 1) := by decide +kernel
theorem dX7_isDoneIn_27 : decode cX7_isDoneIn 27 = .ok (.iadd, 1) := by decide +kernel
theorem dX7_isDoneIn_28 : decode cX7_isDoneIn 28 = .ok (.istore 5, 2) := by decide +kernel
theorem dX7_isDoneIn_30 : decode cX7_isDoneIn 30 = .ok (.iload_n 3, 1) := by decide +kernel
theorem dX7_isDoneIn_31 : decode cX7_isDoneIn 31 = .ok (.ifCond .ne 49, 3) := by decide +kernel
theorem dX7_isDoneIn_34 : decode cX7_isDoneIn 34 = .ok (.aload_n 0, 1) := by decide +kernel
theorem dX7_isDoneIn_35 : decode cX7_isDoneIn 35 = .ok (.getfield 25, 3) := by decide +kernel
theorem dX7_isDoneIn_38 : decode cX7_isDoneIn 38 = .ok (.bipush 14, 2) := by decide +kernel
theorem dX7_isDoneIn_40 : decode cX7_isDoneIn 40 = .ok (.iaload, 1) := by decide +kernel
theorem dX7_isDoneIn_41 : decode cX7_isDoneIn 41 = .ok (.iload 4, 2) := by decide +kernel
theorem dX7_isDoneIn_43 : decode cX7_isDoneIn 43 = .ok (.invokestatic 124, 3) := by decide +kernel
theorem dX7_isDoneIn_46 : decode cX7_isDoneIn 46 = .ok (.ifCond .eq 38, 3) := by decide +kernel
theorem dX7_isDoneIn_49 : decode cX7_isDoneIn 49 = .ok (.iload 5, 2) := by decide +kernel
theorem dX7_isDoneIn_51 : decode cX7_isDoneIn 51 = .ok (.aload_n 0, 1) := by decide +kernel
theorem dX7_isDoneIn_52 : decode cX7_isDoneIn 52 = .ok (.getfield 13, 3) := by decide +kernel
theorem dX7_isDoneIn_55 : decode cX7_isDoneIn 55 = .ok (.iconst 3, 1) := by decide +kernel
theorem dX7_isDoneIn_56 : decode cX7_isDoneIn 56 = .ok (.iaload, 1) := by decide +kernel
theorem dX7_isDoneIn_57 : decode cX7_isDoneIn 57 = .ok (.if_icmp .ge 27, 3) := by decide +kernel
theorem dX7_isDoneIn_60 : decode cX7_isDoneIn 60 = .ok (.iload 5, 2) := by decide +kernel
theorem dX7_isDoneIn_62 : decode cX7_isDoneIn 62 = .ok (.aload_n 0, 1) := by decide +kernel
theorem dX7_isDoneIn_63 : decode cX7_isDoneIn 63 = .ok (.getfield 19, 3) := by decide +kernel
theorem dX7_isDoneIn_66 : decode cX7_isDoneIn 66 = .ok (.iload_n 1, 1) := by decide +kernel
theorem dX7_isDoneIn_67 : decode cX7_isDoneIn 67 = .ok (.iaload, 1) := by decide +kernel
theorem dX7_isDoneIn_68 : decode cX7_isDoneIn 68 = .ok (.aload_n 0, 1) := by decide +kernel
theorem dX7_isDoneIn_69 : decode cX7_isDoneIn 69 = .ok (.getfield 22, 3) := by decide +kernel
theorem dX7_isDoneIn_72 : decode cX7_isDoneIn 72 = .ok (.iload_n 1, 1) := by decide +kernel
theorem dX7_isDoneIn_73 : decode cX7_isDoneIn 73 = .ok (.iaload, 1) := by decide +kernel
theorem dX7_isDoneIn_74 : decode cX7_isDoneIn 74 = .ok (.invokestatic 63, 3) := by decide +kernel
theorem dX7_isDoneIn_77 : decode cX7_isDoneIn 77 = .ok (.ifCond .eq 7, 3) := by decide +kernel
theorem dX7_isDoneIn_80 : decode cX7_isDoneIn 80 = .ok (.iconst 1, 1) := by decide +kernel
theorem dX7_isDoneIn_81 : decode cX7_isDoneIn 81 = .ok (.goto 4, 3) := by decide +kernel
theorem dX7_isDoneIn_84 : decode cX7_isDoneIn 84 = .ok (.iconst 0, 1) := by decide +kernel
theorem dX7_isDoneIn_85 : decode cX7_isDoneIn 85 = .ok (.istore_n 3, 1) := by decide +kernel
theorem dX7_isDoneIn_86 : decode cX7_isDoneIn 86 = .ok (.iinc 4 1, 3) := by decide +kernel
theorem dX7_isDoneIn_89 : decode cX7_isDoneIn 89 = .ok (.goto (-84), 3) := by decide +kernel
theorem dX7_isDoneIn_92 : decode cX7_isDoneIn 92 = .ok (.iload_n 3, 1) := by decide +kernel
theorem dX7_isDoneIn_93 : decode cX7_isDoneIn 93 = .ok (.ireturn, 1) := by decide +kernel
theorem dX7_lastsOf_0 : decode cX7_lastsOf 0 = .ok (.iconst 0, 1) := by decide +kernel
theorem dX7_lastsOf_1 : decode cX7_lastsOf 1 = .ok (.istore_n 2, 1) := by decide +kernel
theorem dX7_lastsOf_2 : decode cX7_lastsOf 2 = .ok (.iload_n 2, 1) := by decide +kernel
theorem dX7_lastsOf_3 : decode cX7_lastsOf 3 = .ok (.bipush 60, 2) := by decide +kernel
theorem dX7_lastsOf_5 : decode cX7_lastsOf 5 = .ok (.if_icmp .gt 20, 3) := by decide +kernel
theorem dX7_lastsOf_8 : decode cX7_lastsOf 8 = .ok (.aload_n 0, 1) := by decide +kernel
theorem dX7_lastsOf_9 : decode cX7_lastsOf 9 = .ok (.iload_n 1, 1) := by decide +kernel
theorem dX7_lastsOf_10 : decode cX7_lastsOf 10 = .ok (.iload_n 2, 1) := by decide +kernel
theorem dX7_lastsOf_11 : decode cX7_lastsOf 11 = .ok (.invokevirtual 143, 3) := by decide +kernel
theorem dX7_lastsOf_14 : decode cX7_lastsOf 14 = .ok (.ifCond .ne 5, 3) := by decide +kernel
theorem dX7_lastsOf_17 : decode cX7_lastsOf 17 = .ok (.iload_n 2, 1) := by decide +kernel
theorem dX7_lastsOf_18 : decode cX7_lastsOf 18 = .ok (.ireturn, 1) := by decide +kernel
theorem dX7_lastsOf_19 : decode cX7_lastsOf 19 = .ok (.iinc 2 1, 3) := by decide +kernel
theorem dX7_lastsOf_22 : decode cX7_lastsOf 22 = .ok (.goto (-20), 3) := by decide +kernel
theorem dX7_lastsOf_25 : decode cX7_lastsOf 25 = .ok (.bipush (-9), 2) := by decide +kernel
theorem dX7_lastsOf_27 : decode cX7_lastsOf 27 = .ok (.ireturn, 1) := by decide +kernel
theorem dX7_room_0 : decode cX7_room 0 = .ok (.aload_n 0, 1) := by decide +kernel
theorem dX7_room_1 : decode cX7_room 1 = .ok (.iconst 0, 1) := by decide +kernel
theorem dX7_room_2 : decode cX7_room 2 = .ok (.putfield 59, 3) := by decide +kernel
theorem dX7_room_5 : decode cX7_room 5 = .ok (.aload_n 0, 1) := by decide +kernel
theorem dX7_room_6 : decode cX7_room 6 = .ok (.iload_n 1, 1) := by decide +kernel
theorem dX7_room_7 : decode cX7_room 7 = .ok (.invokevirtual 146, 3) := by decide +kernel
theorem dX7_room_10 : decode cX7_room 10 = .ok (.ifCond .eq 12, 3) := by decide +kernel
theorem dX7_room_13 : decode cX7_room 13 = .ok (.iload_n 2, 1) := by decide +kernel
theorem dX7_room_14 : decode cX7_room 14 = .ok (.iconst 0, 1) := by decide +kernel
theorem dX7_room_15 : decode cX7_room 15 = .ok (.iconst 2, 1) := by decide +kernel
theorem dX7_room_16 : decode cX7_room 16 = .ok (.invokestatic 63, 3) := by decide +kernel
theorem dX7_room_19 : decode cX7_room 19 = .ok (.ifCond .ne 5, 3) := by decide +kernel
theorem dX7_room_22 : decode cX7_room 22 = .ok (.iconst (-1), 1) := by decide +kernel
theorem dX7_room_23 : decode cX7_room 23 = .ok (.ireturn, 1) := by decide +kernel
theorem dX7_room_24 : decode cX7_room 24 = .ok (.iload_n 2, 1) := by decide +kernel
theorem dX7_room_25 : decode cX7_room 25 = .ok (.ifCond .ne 14, 3) := by decide +kernel
theorem dX7_room_28 : decode cX7_room 28 = .ok (.aload_n 0, 1) := by decide +kernel
theorem dX7_room_29 : decode cX7_room 29 = .ok (.getfield 25, 3) := by decide +kernel
theorem dX7_room_32 : decode cX7_room 32 = .ok (.iconst 1, 1) := by decide +kernel
theorem dX7_room_33 : decode cX7_room 33 = .ok (.iload_n 1, 1) := by decide +kernel
theorem dX7_room_34 : decode cX7_room 34 = .ok (.iadd, 1) := by decide +kernel
theorem dX7_room_35 : decode cX7_room 35 = .ok (.iaload, 1) := by decide +kernel
theorem dX7_room_36 : decode cX7_room 36 = .ok (.goto 21, 3) := by decide +kernel
theorem dX7_room_39 : decode cX7_room 39 = .ok (.iload_n 2, 1) := by decide +kernel
theorem dX7_room_40 : decode cX7_room 40 = .ok (.iconst 1, 1) := by decide +kernel
theorem dX7_room_41 : decode cX7_room 41 = .ok (.if_icmp .ne 11, 3) := by decide +kernel
theorem dX7_room_44 : decode cX7_room 44 = .ok (.aload_n 0, 1) := by decide +kernel
theorem dX7_room_45 : decode cX7_room 45 = .ok (.iload_n 1, 1) := by decide +kernel
theorem dX7_room_46 : decode cX7_room 46 = .ok (.invokevirtual 149, 3) := by decide +kernel
theorem dX7_room_49 : decode cX7_room 49 = .ok (.goto 8, 3) := by decide +kernel
theorem dX7_room_52 : decode cX7_room 52 = .ok (.aload_n 0, 1) := by decide +kernel
theorem dX7_room_53 : decode cX7_room 53 = .ok (.iload_n 1, 1) := by decide +kernel
theorem dX7_room_54 : decode cX7_room 54 = .ok (.invokevirtual 131, 3) := by decide +kernel
theorem dX7_room_57 : decode cX7_room 57 = .ok (.ireturn, 1) := by decide +kernel
theorem dX7_child_0 : decode cX7_child 0 = .ok (.aload_n 0, 1) := by decide +kernel
theorem dX7_child_1 : decode cX7_child 1 = .ok (.iconst 0, 1) := by decide +kernel
theorem dX7_child_2 : decode cX7_child 2 = .ok (.putfield 59, 3) := by decide +kernel
theorem dX7_child_5 : decode cX7_child 5 = .ok (.aload_n 0, 1) := by decide +kernel
theorem dX7_child_6 : decode cX7_child 6 = .ok (.iload_n 1, 1) := by decide +kernel
theorem dX7_child_7 : decode cX7_child 7 = .ok (.invokevirtual 152, 3) := by decide +kernel
theorem dX7_child_10 : decode cX7_child 10 = .ok (.ifCond .eq 12, 3) := by decide +kernel
theorem dX7_child_13 : decode cX7_child 13 = .ok (.iload_n 2, 1) := by decide +kernel
theorem dX7_child_14 : decode cX7_child 14 = .ok (.iconst 0, 1) := by decide +kernel
theorem dX7_child_15 : decode cX7_child 15 = .ok (.iconst 3, 1) := by decide +kernel
theorem dX7_child_16 : decode cX7_child 16 = .ok (.invokestatic 63, 3) := by decide +kernel
theorem dX7_child_19 : decode cX7_child 19 = .ok (.ifCond .ne 5, 3) := by decide +kernel
theorem dX7_child_22 : decode cX7_child 22 = .ok (.iconst (-1), 1) := by decide +kernel
theorem dX7_child_23 : decode cX7_child 23 = .ok (.ireturn, 1) := by decide +kernel
theorem dX7_child_24 : decode cX7_child 24 = .ok (.iload_n 2, 1) := by decide +kernel
theorem dX7_child_25 : decode cX7_child 25 = .ok (.iconst 2, 1) := by decide +kernel
theorem dX7_child_26 : decode cX7_child 26 = .ok (.if_icmp .ge 29, 3) := by decide +kernel
theorem dX7_child_29 : decode cX7_child 29 = .ok (.iload_n 2, 1) := by decide +kernel
theorem dX7_child_30 : decode cX7_child 30 = .ok (.ifCond .ne 13, 3) := by decide +kernel
theorem dX7_child_33 : decode cX7_child 33 = .ok (.aload_n 0, 1) := by decide +kernel
theorem dX7_child_34 : decode cX7_child 34 = .ok (.getfield 25, 3) := by decide +kernel
theorem dX7_child_37 : decode cX7_child 37 = .ok (.bipush 13, 2) := by decide +kernel
theorem dX7_child_39 : decode cX7_child 39 = .ok (.iaload, 1) := by decide +kernel
theorem dX7_child_40 : decode cX7_child 40 = .ok (.goto 10, 3) := by decide +kernel
theorem dX7_child_43 : decode cX7_child 43 = .ok (.aload_n 0, 1) := by decide +kernel
theorem dX7_child_44 : decode cX7_child 44 = .ok (.getfield 25, 3) := by decide +kernel
theorem dX7_child_47 : decode cX7_child 47 = .ok (.bipush 14, 2) := by decide +kernel
theorem dX7_child_49 : decode cX7_child 49 = .ok (.iaload, 1) := by decide +kernel
theorem dX7_child_50 : decode cX7_child 50 = .ok (.iload_n 1, 1) := by decide +kernel
theorem dX7_child_51 : decode cX7_child 51 = .ok (.ishr, 1) := by decide +kernel
theorem dX7_child_52 : decode cX7_child 52 = .ok (.iconst 1, 1) := by decide +kernel
theorem dX7_child_53 : decode cX7_child 53 = .ok (.iand, 1) := by decide +kernel
theorem dX7_child_54 : decode cX7_child 54 = .ok (.ireturn, 1) := by decide +kernel
theorem dX7_child_55 : decode cX7_child 55 = .ok (.iload_n 2, 1) := by decide +kernel
theorem dX7_child_56 : decode cX7_child 56 = .ok (.iconst 3, 1) := by decide +kernel
theorem dX7_child_57 : decode cX7_child 57 = .ok (.if_icmp .ne 11, 3) := by decide +kernel
theorem dX7_child_60 : decode cX7_child 60 = .ok (.aload_n 0, 1) := by decide +kernel
theorem dX7_child_61 : decode cX7_child 61 = .ok (.iload_n 1, 1) := by decide +kernel
theorem dX7_child_62 : decode cX7_child 62 = .ok (.invokevirtual 140, 3) := by decide +kernel
theorem dX7_child_65 : decode cX7_child 65 = .ok (.goto 31, 3) := by decide +kernel
theorem dX7_child_68 : decode cX7_child 68 = .ok (.aload_n 0, 1) := by decide +kernel
theorem dX7_child_69 : decode cX7_child 69 = .ok (.getfield 25, 3) := by decide +kernel
theorem dX7_child_72 : decode cX7_child 72 = .ok (.bipush 14, 2) := by decide +kernel
theorem dX7_child_74 : decode cX7_child 74 = .ok (.iaload, 1) := by decide +kernel
theorem dX7_child_75 : decode cX7_child 75 = .ok (.iload_n 1, 1) := by decide +kernel
theorem dX7_child_76 : decode cX7_child 76 = .ok (.invokestatic 124, 3) := by decide +kernel
theorem dX7_child_79 : decode cX7_child 79 = .ok (.ifCond .eq 15, 3) := by decide +kernel
theorem dX7_child_82 : decode cX7_child 82 = .ok (.aload_n 0, 1) := by decide +kernel
theorem dX7_child_83 : decode cX7_child 83 = .ok (.getfield 25, 3) := by decide +kernel
theorem dX7_child_86 : decode cX7_child 86 = .ok (.bipush 15, 2) := by decide +kernel
theorem dX7_child_88 : decode cX7_child 88 = .ok (.iload_n 1, 1) := by decide +kernel
theorem dX7_child_89 : decode cX7_child 89 = .ok (.iadd, 1) := by decide +kernel
theorem dX7_child_90 : decode cX7_child 90 = .ok (.iaload, 1) := by decide +kernel
theorem dX7_child_91 : decode cX7_child 91 = .ok (.goto 5, 3) := by decide +kernel
theorem dX7_child_94 : decode cX7_child 94 = .ok (.bipush (-9), 2) := by decide +kernel
theorem dX7_child_96 : decode cX7_child 96 = .ok (.ireturn, 1) := by decide +kernel
theorem dX7_work_0 : decode cX7_work 0 = .ok (.aload_n 0, 1) := by decide +kernel
theorem dX7_work_1 : decode cX7_work 1 = .ok (.iconst 0, 1) := by decide +kernel
theorem dX7_work_2 : decode cX7_work 2 = .ok (.putfield 59, 3) := by decide +kernel
theorem dX7_work_5 : decode cX7_work 5 = .ok (.aload_n 0, 1) := by decide +kernel
theorem dX7_work_6 : decode cX7_work 6 = .ok (.iload_n 1, 1) := by decide +kernel
theorem dX7_work_7 : decode cX7_work 7 = .ok (.invokevirtual 155, 3) := by decide +kernel
theorem dX7_work_10 : decode cX7_work 10 = .ok (.ifCond .eq 12, 3) := by decide +kernel
theorem dX7_work_13 : decode cX7_work 13 = .ok (.iload_n 2, 1) := by decide +kernel
theorem dX7_work_14 : decode cX7_work 14 = .ok (.iconst 0, 1) := by decide +kernel
theorem dX7_work_15 : decode cX7_work 15 = .ok (.iconst 3, 1) := by decide +kernel
theorem dX7_work_16 : decode cX7_work 16 = .ok (.invokestatic 63, 3) := by decide +kernel
theorem dX7_work_19 : decode cX7_work 19 = .ok (.ifCond .ne 5, 3) := by decide +kernel
theorem dX7_work_22 : decode cX7_work 22 = .ok (.iconst (-1), 1) := by decide +kernel
theorem dX7_work_23 : decode cX7_work 23 = .ok (.ireturn, 1) := by decide +kernel
theorem dX7_work_24 : decode cX7_work 24 = .ok (.iload_n 2, 1) := by decide +kernel
theorem dX7_work_25 : decode cX7_work 25 = .ok (.ifCond .ne 12, 3) := by decide +kernel
theorem dX7_work_28 : decode cX7_work 28 = .ok (.aload_n 0, 1) := by decide +kernel
theorem dX7_work_29 : decode cX7_work 29 = .ok (.getfield 19, 3) := by decide +kernel
theorem dX7_work_32 : decode cX7_work 32 = .ok (.iload_n 1, 1) := by decide +kernel
theorem dX7_work_33 : decode cX7_work 33 = .ok (.iaload, 1) := by decide +kernel
theorem dX7_work_34 : decode cX7_work 34 = .ok (.goto 35, 3) := by decide +kernel
theorem dX7_work_37 : decode cX7_work 37 = .ok (.iload_n 2, 1) := by decide +kernel
theorem dX7_work_38 : decode cX7_work 38 = .ok (.iconst 1, 1) := by decide +kernel
theorem dX7_work_39 : decode cX7_work 39 = .ok (.if_icmp .ne 12, 3) := by decide +kernel
theorem dX7_work_42 : decode cX7_work 42 = .ok (.aload_n 0, 1) := by decide +kernel
theorem dX7_work_43 : decode cX7_work 43 = .ok (.getfield 22, 3) := by decide +kernel
theorem dX7_work_46 : decode cX7_work 46 = .ok (.iload_n 1, 1) := by decide +kernel
theorem dX7_work_47 : decode cX7_work 47 = .ok (.iaload, 1) := by decide +kernel
theorem dX7_work_48 : decode cX7_work 48 = .ok (.goto 21, 3) := by decide +kernel
theorem dX7_work_51 : decode cX7_work 51 = .ok (.iload_n 2, 1) := by decide +kernel
theorem dX7_work_52 : decode cX7_work 52 = .ok (.iconst 2, 1) := by decide +kernel
theorem dX7_work_53 : decode cX7_work 53 = .ok (.if_icmp .ne 11, 3) := by decide +kernel
theorem dX7_work_56 : decode cX7_work 56 = .ok (.aload_n 0, 1) := by decide +kernel
theorem dX7_work_57 : decode cX7_work 57 = .ok (.iload_n 1, 1) := by decide +kernel
theorem dX7_work_58 : decode cX7_work 58 = .ok (.invokevirtual 158, 3) := by decide +kernel
theorem dX7_work_61 : decode cX7_work 61 = .ok (.goto 8, 3) := by decide +kernel
theorem dX7_work_64 : decode cX7_work 64 = .ok (.aload_n 0, 1) := by decide +kernel
theorem dX7_work_65 : decode cX7_work 65 = .ok (.iload_n 1, 1) := by decide +kernel
theorem dX7_work_66 : decode cX7_work 66 = .ok (.invokevirtual 161, 3) := by decide +kernel
theorem dX7_work_69 : decode cX7_work 69 = .ok (.ireturn, 1) := by decide +kernel
theorem dX7_asNow_0 : decode cX7_asNow 0 = .ok (.iconst 0, 1) := by decide +kernel
theorem dX7_asNow_1 : decode cX7_asNow 1 = .ok (.istore_n 1, 1) := by decide +kernel
theorem dX7_asNow_2 : decode cX7_asNow 2 = .ok (.iload_n 1, 1) := by decide +kernel
theorem dX7_asNow_3 : decode cX7_asNow 3 = .ok (.bipush 6, 2) := by decide +kernel
theorem dX7_asNow_5 : decode cX7_asNow 5 = .ok (.if_icmp .ge 34, 3) := by decide +kernel
theorem dX7_asNow_8 : decode cX7_asNow 8 = .ok (.aload_n 0, 1) := by decide +kernel
theorem dX7_asNow_9 : decode cX7_asNow 9 = .ok (.getfield 44, 3) := by decide +kernel
theorem dX7_asNow_12 : decode cX7_asNow 12 = .ok (.iload_n 1, 1) := by decide +kernel
theorem dX7_asNow_13 : decode cX7_asNow 13 = .ok (.iload_n 1, 1) := by decide +kernel
theorem dX7_asNow_14 : decode cX7_asNow 14 = .ok (.aload_n 0, 1) := by decide +kernel
theorem dX7_asNow_15 : decode cX7_asNow 15 = .ok (.getfield 13, 3) := by decide +kernel
theorem dX7_asNow_18 : decode cX7_asNow 18 = .ok (.iconst 1, 1) := by decide +kernel
theorem dX7_asNow_19 : decode cX7_asNow 19 = .ok (.iaload, 1) := by decide +kernel
theorem dX7_asNow_20 : decode cX7_asNow 20 = .ok (.if_icmp .ge 11, 3) := by decide +kernel
theorem dX7_asNow_23 : decode cX7_asNow 23 = .ok (.aload_n 0, 1) := by decide +kernel
theorem dX7_asNow_24 : decode cX7_asNow 24 = .ok (.iload_n 1, 1) := by decide +kernel
theorem dX7_asNow_25 : decode cX7_asNow 25 = .ok (.invokevirtual 140, 3) := by decide +kernel
theorem dX7_asNow_28 : decode cX7_asNow 28 = .ok (.goto 4, 3) := by decide +kernel
theorem dX7_asNow_31 : decode cX7_asNow 31 = .ok (.iconst 0, 1) := by decide +kernel
theorem dX7_asNow_32 : decode cX7_asNow 32 = .ok (.iastore, 1) := by decide +kernel
theorem dX7_asNow_33 : decode cX7_asNow 33 = .ok (.iinc 1 1, 3) := by decide +kernel
theorem dX7_asNow_36 : decode cX7_asNow 36 = .ok (.goto (-34), 3) := by decide +kernel
theorem dX7_asNow_39 : decode cX7_asNow 39 = .ok (.return_, 1) := by decide +kernel
theorem dX7_sixes_0 : decode cX7_sixes 0 = .ok (.iconst 1, 1) := by decide +kernel
theorem dX7_sixes_1 : decode cX7_sixes 1 = .ok (.istore_n 2, 1) := by decide +kernel
theorem dX7_sixes_2 : decode cX7_sixes 2 = .ok (.iconst 0, 1) := by decide +kernel
theorem dX7_sixes_3 : decode cX7_sixes 3 = .ok (.istore_n 3, 1) := by decide +kernel
theorem dX7_sixes_4 : decode cX7_sixes 4 = .ok (.iload_n 3, 1) := by decide +kernel
theorem dX7_sixes_5 : decode cX7_sixes 5 = .ok (.iload_n 1, 1) := by decide +kernel
theorem dX7_sixes_6 : decode cX7_sixes 6 = .ok (.if_icmp .ge 14, 3) := by decide +kernel
theorem dX7_sixes_9 : decode cX7_sixes 9 = .ok (.iload_n 2, 1) := by decide +kernel
theorem dX7_sixes_10 : decode cX7_sixes 10 = .ok (.bipush 6, 2) := by decide +kernel
theorem dX7_sixes_12 : decode cX7_sixes 12 = .ok (.imul, 1) := by decide +kernel
theorem dX7_sixes_13 : decode cX7_sixes 13 = .ok (.istore_n 2, 1) := by decide +kernel
theorem dX7_sixes_14 : decode cX7_sixes 14 = .ok (.iinc 3 1, 3) := by decide +kernel
theorem dX7_sixes_17 : decode cX7_sixes 17 = .ok (.goto (-13), 3) := by decide +kernel
theorem dX7_sixes_20 : decode cX7_sixes 20 = .ok (.iload_n 2, 1) := by decide +kernel
theorem dX7_sixes_21 : decode cX7_sixes 21 = .ok (.ireturn, 1) := by decide +kernel
theorem dX7_doing_0 : decode cX7_doing 0 = .ok (.iload_n 1, 1) := by decide +kernel
theorem dX7_doing_1 : decode cX7_doing 1 = .ok (.istore_n 2, 1) := by decide +kernel
theorem dX7_doing_2 : decode cX7_doing 2 = .ok (.iconst 0, 1) := by decide +kernel
theorem dX7_doing_3 : decode cX7_doing 3 = .ok (.istore_n 3, 1) := by decide +kernel
theorem dX7_doing_4 : decode cX7_doing 4 = .ok (.iconst 0, 1) := by decide +kernel
theorem dX7_doing_5 : decode cX7_doing 5 = .ok (.istore 4, 2) := by decide +kernel
theorem dX7_doing_7 : decode cX7_doing 7 = .ok (.aload_n 0, 1) := by decide +kernel
theorem dX7_doing_8 : decode cX7_doing 8 = .ok (.getfield 13, 3) := by decide +kernel
theorem dX7_doing_11 : decode cX7_doing 11 = .ok (.iconst 1, 1) := by decide +kernel
theorem dX7_doing_12 : decode cX7_doing 12 = .ok (.iaload, 1) := by decide +kernel
theorem dX7_doing_13 : decode cX7_doing 13 = .ok (.iconst 1, 1) := by decide +kernel
theorem dX7_doing_14 : decode cX7_doing 14 = .ok (.isub, 1) := by decide +kernel
theorem dX7_doing_15 : decode cX7_doing 15 = .ok (.istore 5, 2) := by decide +kernel
theorem dX7_doing_17 : decode cX7_doing 17 = .ok (.iload 5, 2) := by decide +kernel
theorem dX7_doing_19 : decode cX7_doing 19 = .ok (.ifCond .lt 75, 3) := by decide +kernel
theorem dX7_doing_22 : decode cX7_doing 22 = .ok (.iload_n 2, 1) := by decide +kernel
theorem dX7_doing_23 : decode cX7_doing 23 = .ok (.bipush 6, 2) := by decide +kernel
theorem dX7_doing_25 : decode cX7_doing 25 = .ok (.irem, 1) := by decide +kernel
theorem dX7_doing_26 : decode cX7_doing 26 = .ok (.istore 6, 2) := by decide +kernel
theorem dX7_doing_28 : decode cX7_doing 28 = .ok (.iload_n 2, 1) := by decide +kernel
theorem dX7_doing_29 : decode cX7_doing 29 = .ok (.bipush 6, 2) := by decide +kernel
theorem dX7_doing_31 : decode cX7_doing 31 = .ok (.idiv, 1) := by decide +kernel
theorem dX7_doing_32 : decode cX7_doing 32 = .ok (.istore_n 2, 1) := by decide +kernel
theorem dX7_doing_33 : decode cX7_doing 33 = .ok (.aload_n 0, 1) := by decide +kernel
theorem dX7_doing_34 : decode cX7_doing 34 = .ok (.getfield 47, 3) := by decide +kernel
theorem dX7_doing_37 : decode cX7_doing 37 = .ok (.iload 5, 2) := by decide +kernel
theorem dX7_doing_39 : decode cX7_doing 39 = .ok (.iload 6, 2) := by decide +kernel
theorem dX7_doing_41 : decode cX7_doing 41 = .ok (.iastore, 1) := by decide +kernel
theorem dX7_doing_42 : decode cX7_doing 42 = .ok (.iload 6, 2) := by decide +kernel
theorem dX7_doing_44 : decode cX7_doing 44 = .ok (.iconst 5, 1) := by decide +kernel
theorem dX7_doing_45 : decode cX7_doing 45 = .ok (.if_icmp .ge 43, 3) := by decide +kernel
theorem dX7_doing_48 : decode cX7_doing 48 = .ok (.aload_n 0, 1) := by decide +kernel
theorem dX7_doing_49 : decode cX7_doing 49 = .ok (.getfield 44, 3) := by decide +kernel
theorem dX7_doing_52 : decode cX7_doing 52 = .ok (.iload 5, 2) := by decide +kernel
theorem dX7_doing_54 : decode cX7_doing 54 = .ok (.iaload, 1) := by decide +kernel
theorem dX7_doing_55 : decode cX7_doing 55 = .ok (.iload 6, 2) := by decide +kernel
theorem dX7_doing_57 : decode cX7_doing 57 = .ok (.invokestatic 124, 3) := by decide +kernel
theorem dX7_doing_60 : decode cX7_doing 60 = .ok (.ifCond .eq 13, 3) := by decide +kernel
theorem dX7_doing_63 : decode cX7_doing 63 = .ok (.iload 4, 2) := by decide +kernel
theorem dX7_doing_65 : decode cX7_doing 65 = .ok (.iload 6, 2) := by decide +kernel
theorem dX7_doing_67 : decode cX7_doing 67 = .ok (.invokestatic 124, 3) := by decide +kernel
theorem dX7_doing_70 : decode cX7_doing 70 = .ok (.ifCond .eq 6, 3) := by decide +kernel
theorem dX7_doing_73 : decode cX7_doing 73 = .ok (.bipush (-9), 2) := by decide +kernel
theorem dX7_doing_75 : decode cX7_doing 75 = .ok (.ireturn, 1) := by decide +kernel
theorem dX7_doing_76 : decode cX7_doing 76 = .ok (.iload 4, 2) := by decide +kernel
theorem dX7_doing_78 : decode cX7_doing 78 = .ok (.iconst 1, 1) := by decide +kernel
theorem dX7_doing_79 : decode cX7_doing 79 = .ok (.iload 6, 2) := by decide +kernel
theorem dX7_doing_81 : decode cX7_doing 81 = .ok (.ishl, 1) := by decide +kernel
theorem dX7_doing_82 : decode cX7_doing 82 = .ok (.ior, 1) := by decide +kernel
theorem dX7_doing_83 : decode cX7_doing 83 = .ok (.istore 4, 2) := by decide +kernel
theorem dX7_doing_85 : decode cX7_doing 85 = .ok (.iinc 3 1, 3) := by decide +kernel
theorem dX7_doing_88 : decode cX7_doing 88 = .ok (.iinc 5 (-1), 3) := by decide +kernel
theorem dX7_doing_91 : decode cX7_doing 91 = .ok (.goto (-74), 3) := by decide +kernel
theorem dX7_doing_94 : decode cX7_doing 94 = .ok (.iload_n 3, 1) := by decide +kernel
theorem dX7_doing_95 : decode cX7_doing 95 = .ok (.ireturn, 1) := by decide +kernel
theorem dX7_filled_0 : decode cX7_filled 0 = .ok (.iconst (-1), 1) := by decide +kernel
theorem dX7_filled_1 : decode cX7_filled 1 = .ok (.istore_n 1, 1) := by decide +kernel
theorem dX7_filled_2 : decode cX7_filled 2 = .ok (.aload_n 0, 1) := by decide +kernel
theorem dX7_filled_3 : decode cX7_filled 3 = .ok (.aload_n 0, 1) := by decide +kernel
theorem dX7_filled_4 : decode cX7_filled 4 = .ok (.getfield 13, 3) := by decide +kernel
theorem dX7_filled_7 : decode cX7_filled 7 = .ok (.iconst 1, 1) := by decide +kernel
theorem dX7_filled_8 : decode cX7_filled 8 = .ok (.iaload, 1) := by decide +kernel
theorem dX7_filled_9 : decode cX7_filled 9 = .ok (.invokevirtual 164, 3) := by decide +kernel
theorem dX7_filled_12 : decode cX7_filled 12 = .ok (.istore_n 2, 1) := by decide +kernel
theorem dX7_filled_13 : decode cX7_filled 13 = .ok (.iconst 0, 1) := by decide +kernel
theorem dX7_filled_14 : decode cX7_filled 14 = .ok (.istore_n 3, 1) := by decide +kernel
theorem dX7_filled_15 : decode cX7_filled 15 = .ok (.iload_n 3, 1) := by decide +kernel
theorem dX7_filled_16 : decode cX7_filled 16 = .ok (.iload_n 2, 1) := by decide +kernel
theorem dX7_filled_17 : decode cX7_filled 17 = .ok (.if_icmp .ge 55, 3) := by decide +kernel
theorem dX7_filled_20 : decode cX7_filled 20 = .ok (.aload_n 0, 1) := by decide +kernel
theorem dX7_filled_21 : decode cX7_filled 21 = .ok (.iload_n 3, 1) := by decide +kernel
theorem dX7_filled_22 : decode cX7_filled 22 = .ok (.invokevirtual 167, 3) := by decide +kernel
theorem dX7_filled_25 : decode cX7_filled 25 = .ok (.istore 4, 2) := by decide +kernel
theorem dX7_filled_27 : decode cX7_filled 27 = .ok (.iload 4, 2) := by decide +kernel
theorem dX7_filled_29 : decode cX7_filled 29 = .ok (.iload_n 1, 1) := by decide +kernel
theorem dX7_filled_30 : decode cX7_filled 30 = .ok (.if_icmp .le 36, 3) := by decide +kernel
theorem dX7_filled_33 : decode cX7_filled 33 = .ok (.iload 4, 2) := by decide +kernel
theorem dX7_filled_35 : decode cX7_filled 35 = .ok (.istore_n 1, 1) := by decide +kernel
theorem dX7_filled_36 : decode cX7_filled 36 = .ok (.iconst 0, 1) := by decide +kernel
theorem dX7_filled_37 : decode cX7_filled 37 = .ok (.istore 5, 2) := by decide +kernel
theorem dX7_filled_39 : decode cX7_filled 39 = .ok (.iload 5, 2) := by decide +kernel
theorem dX7_filled_41 : decode cX7_filled 41 = .ok (.bipush 6, 2) := by decide +kernel
theorem dX7_filled_43 : decode cX7_filled 43 = .ok (.if_icmp .ge 23, 3) := by decide +kernel
theorem dX7_filled_46 : decode cX7_filled 46 = .ok (.aload_n 0, 1) := by decide +kernel
theorem dX7_filled_47 : decode cX7_filled 47 = .ok (.getfield 50, 3) := by decide +kernel
theorem dX7_filled_50 : decode cX7_filled 50 = .ok (.iload 5, 2) := by decide +kernel
theorem dX7_filled_52 : decode cX7_filled 52 = .ok (.aload_n 0, 1) := by decide +kernel
theorem dX7_filled_53 : decode cX7_filled 53 = .ok (.getfield 47, 3) := by decide +kernel
theorem dX7_filled_56 : decode cX7_filled 56 = .ok (.iload 5, 2) := by decide +kernel
theorem dX7_filled_58 : decode cX7_filled 58 = .ok (.iaload, 1) := by decide +kernel
theorem dX7_filled_59 : decode cX7_filled 59 = .ok (.iastore, 1) := by decide +kernel
theorem dX7_filled_60 : decode cX7_filled 60 = .ok (.iinc 5 1, 3) := by decide +kernel
theorem dX7_filled_63 : decode cX7_filled 63 = .ok (.goto (-24), 3) := by decide +kernel
theorem dX7_filled_66 : decode cX7_filled 66 = .ok (.iinc 3 1, 3) := by decide +kernel
theorem dX7_filled_69 : decode cX7_filled 69 = .ok (.goto (-54), 3) := by decide +kernel
theorem dX7_filled_72 : decode cX7_filled 72 = .ok (.iload_n 1, 1) := by decide +kernel
theorem dX7_filled_73 : decode cX7_filled 73 = .ok (.ireturn, 1) := by decide +kernel
theorem dX7_now_0 : decode cX7_now 0 = .ok (.aload_n 0, 1) := by decide +kernel
theorem dX7_now_1 : decode cX7_now 1 = .ok (.iconst 0, 1) := by decide +kernel
theorem dX7_now_2 : decode cX7_now 2 = .ok (.putfield 59, 3) := by decide +kernel
theorem dX7_now_5 : decode cX7_now 5 = .ok (.iload_n 1, 1) := by decide +kernel
theorem dX7_now_6 : decode cX7_now 6 = .ok (.iconst 0, 1) := by decide +kernel
theorem dX7_now_7 : decode cX7_now 7 = .ok (.iconst 4, 1) := by decide +kernel
theorem dX7_now_8 : decode cX7_now 8 = .ok (.invokestatic 63, 3) := by decide +kernel
theorem dX7_now_11 : decode cX7_now 11 = .ok (.ifCond .ne 5, 3) := by decide +kernel
theorem dX7_now_14 : decode cX7_now 14 = .ok (.iconst (-1), 1) := by decide +kernel
theorem dX7_now_15 : decode cX7_now 15 = .ok (.ireturn, 1) := by decide +kernel
theorem dX7_now_16 : decode cX7_now 16 = .ok (.iload_n 1, 1) := by decide +kernel
theorem dX7_now_17 : decode cX7_now 17 = .ok (.iconst 3, 1) := by decide +kernel
theorem dX7_now_18 : decode cX7_now 18 = .ok (.if_icmp .ge 39, 3) := by decide +kernel
theorem dX7_now_21 : decode cX7_now 21 = .ok (.iload_n 1, 1) := by decide +kernel
theorem dX7_now_22 : decode cX7_now 22 = .ok (.ifCond .ne 12, 3) := by decide +kernel
theorem dX7_now_25 : decode cX7_now 25 = .ok (.aload_n 0, 1) := by decide +kernel
theorem dX7_now_26 : decode cX7_now 26 = .ok (.getfield 25, 3) := by decide +kernel
theorem dX7_now_29 : decode cX7_now 29 = .ok (.iconst 0, 1) := by decide +kernel
theorem dX7_now_30 : decode cX7_now 30 = .ok (.iaload, 1) := by decide +kernel
theorem dX7_now_31 : decode cX7_now 31 = .ok (.goto 25, 3) := by decide +kernel
theorem dX7_now_34 : decode cX7_now 34 = .ok (.iload_n 1, 1) := by decide +kernel
theorem dX7_now_35 : decode cX7_now 35 = .ok (.iconst 1, 1) := by decide +kernel
theorem dX7_now_36 : decode cX7_now 36 = .ok (.if_icmp .ne 13, 3) := by decide +kernel
theorem dX7_now_39 : decode cX7_now 39 = .ok (.aload_n 0, 1) := by decide +kernel
theorem dX7_now_40 : decode cX7_now 40 = .ok (.getfield 25, 3) := by decide +kernel
theorem dX7_now_43 : decode cX7_now 43 = .ok (.bipush 14, 2) := by decide +kernel
theorem dX7_now_45 : decode cX7_now 45 = .ok (.iaload, 1) := by decide +kernel
theorem dX7_now_46 : decode cX7_now 46 = .ok (.goto 10, 3) := by decide +kernel
theorem dX7_now_49 : decode cX7_now 49 = .ok (.aload_n 0, 1) := by decide +kernel
theorem dX7_now_50 : decode cX7_now 50 = .ok (.getfield 25, 3) := by decide +kernel
theorem dX7_now_53 : decode cX7_now 53 = .ok (.bipush 13, 2) := by decide +kernel
theorem dX7_now_55 : decode cX7_now 55 = .ok (.iaload, 1) := by decide +kernel
theorem dX7_now_56 : decode cX7_now 56 = .ok (.ireturn, 1) := by decide +kernel
theorem dX7_now_57 : decode cX7_now 57 = .ok (.aload_n 0, 1) := by decide +kernel
theorem dX7_now_58 : decode cX7_now 58 = .ok (.invokevirtual 170, 3) := by decide +kernel
theorem dX7_now_61 : decode cX7_now 61 = .ok (.iload_n 1, 1) := by decide +kernel
theorem dX7_now_62 : decode cX7_now 62 = .ok (.iconst 3, 1) := by decide +kernel
theorem dX7_now_63 : decode cX7_now 63 = .ok (.if_icmp .ne 10, 3) := by decide +kernel
theorem dX7_now_66 : decode cX7_now 66 = .ok (.aload_n 0, 1) := by decide +kernel
theorem dX7_now_67 : decode cX7_now 67 = .ok (.invokevirtual 173, 3) := by decide +kernel
theorem dX7_now_70 : decode cX7_now 70 = .ok (.goto 7, 3) := by decide +kernel
theorem dX7_now_73 : decode cX7_now 73 = .ok (.aload_n 0, 1) := by decide +kernel
theorem dX7_now_74 : decode cX7_now 74 = .ok (.getfield 121, 3) := by decide +kernel
theorem dX7_now_77 : decode cX7_now 77 = .ok (.ireturn, 1) := by decide +kernel
theorem dX7_notes_0 : decode cX7_notes 0 = .ok (.aload_n 0, 1) := by decide +kernel
theorem dX7_notes_1 : decode cX7_notes 1 = .ok (.getfield 121, 3) := by decide +kernel
theorem dX7_notes_4 : decode cX7_notes 4 = .ok (.bipush 10, 2) := by decide +kernel
theorem dX7_notes_6 : decode cX7_notes 6 = .ok (.if_icmp .ne 39, 3) := by decide +kernel
theorem dX7_notes_9 : decode cX7_notes 9 = .ok (.iconst 0, 1) := by decide +kernel
theorem dX7_notes_10 : decode cX7_notes 10 = .ok (.istore_n 1, 1) := by decide +kernel
theorem dX7_notes_11 : decode cX7_notes 11 = .ok (.iload_n 1, 1) := by decide +kernel
theorem dX7_notes_12 : decode cX7_notes 12 = .ok (.sipush 189, 3) := by decide +kernel
theorem dX7_notes_15 : decode cX7_notes 15 = .ok (.if_icmp .ge 24, 3) := by decide +kernel
theorem dX7_notes_18 : decode cX7_notes 18 = .ok (.aload_n 0, 1) := by decide +kernel
theorem dX7_notes_19 : decode cX7_notes 19 = .ok (.getfield 35, 3) := by decide +kernel
theorem dX7_notes_22 : decode cX7_notes 22 = .ok (.iload_n 1, 1) := by decide +kernel
theorem dX7_notes_23 : decode cX7_notes 23 = .ok (.aload_n 0, 1) := by decide +kernel
theorem dX7_notes_24 : decode cX7_notes 24 = .ok (.getfield 35, 3) := by decide +kernel
theorem dX7_notes_27 : decode cX7_notes 27 = .ok (.iload_n 1, 1) := by decide +kernel
theorem dX7_notes_28 : decode cX7_notes 28 = .ok (.bipush 21, 2) := by decide +kernel
theorem dX7_notes_30 : decode cX7_notes 30 = .ok (.iadd, 1) := by decide +kernel
