theorem dX7_notes_31 : decode cX7_notes 31 = .ok (.iaload, 1) := by decide +kernel
theorem dX7_notes_32 : decode cX7_notes 32 = .ok (.iastore, 1) := by decide +kernel
theorem dX7_notes_33 : decode cX7_notes 33 = .ok (.iinc 1 1, 3) := by decide +kernel
theorem dX7_notes_36 : decode cX7_notes 36 = .ok (.goto (-25), 3) := by decide +kernel
theorem dX7_notes_39 : decode cX7_notes 39 = .ok (.aload_n 0, 1) := by decide +kernel
theorem dX7_notes_40 : decode cX7_notes 40 = .ok (.bipush 9, 2) := by decide +kernel
theorem dX7_notes_42 : decode cX7_notes 42 = .ok (.putfield 121, 3) := by decide +kernel
theorem dX7_notes_45 : decode cX7_notes 45 = .ok (.iconst 0, 1) := by decide +kernel
theorem dX7_notes_46 : decode cX7_notes 46 = .ok (.istore_n 1, 1) := by decide +kernel
theorem dX7_notes_47 : decode cX7_notes 47 = .ok (.iload_n 1, 1) := by decide +kernel
theorem dX7_notes_48 : decode cX7_notes 48 = .ok (.bipush 21, 2) := by decide +kernel
theorem dX7_notes_50 : decode cX7_notes 50 = .ok (.if_icmp .ge 29, 3) := by decide +kernel
theorem dX7_notes_53 : decode cX7_notes 53 = .ok (.aload_n 0, 1) := by decide +kernel
theorem dX7_notes_54 : decode cX7_notes 54 = .ok (.getfield 35, 3) := by decide +kernel
theorem dX7_notes_57 : decode cX7_notes 57 = .ok (.bipush 21, 2) := by decide +kernel
theorem dX7_notes_59 : decode cX7_notes 59 = .ok (.aload_n 0, 1) := by decide +kernel
theorem dX7_notes_60 : decode cX7_notes 60 = .ok (.getfield 121, 3) := by decide +kernel
theorem dX7_notes_63 : decode cX7_notes 63 = .ok (.imul, 1) := by decide +kernel
theorem dX7_notes_64 : decode cX7_notes 64 = .ok (.iload_n 1, 1) := by decide +kernel
theorem dX7_notes_65 : decode cX7_notes 65 = .ok (.iadd, 1) := by decide +kernel
theorem dX7_notes_66 : decode cX7_notes 66 = .ok (.aload_n 0, 1) := by decide +kernel
theorem dX7_notes_67 : decode cX7_notes 67 = .ok (.getfield 25, 3) := by decide +kernel
theorem dX7_notes_70 : decode cX7_notes 70 = .ok (.iload_n 1, 1) := by decide +kernel
theorem dX7_notes_71 : decode cX7_notes 71 = .ok (.iaload, 1) := by decide +kernel
theorem dX7_notes_72 : decode cX7_notes 72 = .ok (.iastore, 1) := by decide +kernel
theorem dX7_notes_73 : decode cX7_notes 73 = .ok (.iinc 1 1, 3) := by decide +kernel
theorem dX7_notes_76 : decode cX7_notes 76 = .ok (.goto (-29), 3) := by decide +kernel
theorem dX7_notes_79 : decode cX7_notes 79 = .ok (.aload_n 0, 1) := by decide +kernel
theorem dX7_notes_80 : decode cX7_notes 80 = .ok (.dup, 1) := by decide +kernel
theorem dX7_notes_81 : decode cX7_notes 81 = .ok (.getfield 121, 3) := by decide +kernel
theorem dX7_notes_84 : decode cX7_notes 84 = .ok (.iconst 1, 1) := by decide +kernel
theorem dX7_notes_85 : decode cX7_notes 85 = .ok (.iadd, 1) := by decide +kernel
theorem dX7_notes_86 : decode cX7_notes 86 = .ok (.putfield 121, 3) := by decide +kernel
theorem dX7_notes_89 : decode cX7_notes 89 = .ok (.return_, 1) := by decide +kernel
theorem dX7_bears_0 : decode cX7_bears 0 = .ok (.aload_n 0, 1) := by decide +kernel
theorem dX7_bears_1 : decode cX7_bears 1 = .ok (.iconst 0, 1) := by decide +kernel
theorem dX7_bears_2 : decode cX7_bears 2 = .ok (.putfield 59, 3) := by decide +kernel
theorem dX7_bears_5 : decode cX7_bears 5 = .ok (.aload_n 0, 1) := by decide +kernel
theorem dX7_bears_6 : decode cX7_bears 6 = .ok (.iload_n 1, 1) := by decide +kernel
theorem dX7_bears_7 : decode cX7_bears 7 = .ok (.invokevirtual 152, 3) := by decide +kernel
theorem dX7_bears_10 : decode cX7_bears 10 = .ok (.ifCond .eq 11, 3) := by decide +kernel
theorem dX7_bears_13 : decode cX7_bears 13 = .ok (.aload_n 0, 1) := by decide +kernel
theorem dX7_bears_14 : decode cX7_bears 14 = .ok (.iload_n 2, 1) := by decide +kernel
theorem dX7_bears_15 : decode cX7_bears 15 = .ok (.invokevirtual 146, 3) := by decide +kernel
theorem dX7_bears_18 : decode cX7_bears 18 = .ok (.ifCond .ne 5, 3) := by decide +kernel
theorem dX7_bears_21 : decode cX7_bears 21 = .ok (.iconst (-1), 1) := by decide +kernel
theorem dX7_bears_22 : decode cX7_bears 22 = .ok (.ireturn, 1) := by decide +kernel
theorem dX7_bears_23 : decode cX7_bears 23 = .ok (.aload_n 0, 1) := by decide +kernel
theorem dX7_bears_24 : decode cX7_bears 24 = .ok (.getfield 25, 3) := by decide +kernel
theorem dX7_bears_27 : decode cX7_bears 27 = .ok (.bipush 13, 2) := by decide +kernel
theorem dX7_bears_29 : decode cX7_bears 29 = .ok (.iaload, 1) := by decide +kernel
theorem dX7_bears_30 : decode cX7_bears 30 = .ok (.iload_n 1, 1) := by decide +kernel
theorem dX7_bears_31 : decode cX7_bears 31 = .ok (.invokestatic 124, 3) := by decide +kernel
theorem dX7_bears_34 : decode cX7_bears 34 = .ok (.ifCond .eq 6, 3) := by decide +kernel
theorem dX7_bears_37 : decode cX7_bears 37 = .ok (.bipush (-2), 2) := by decide +kernel
theorem dX7_bears_39 : decode cX7_bears 39 = .ok (.ireturn, 1) := by decide +kernel
theorem dX7_bears_40 : decode cX7_bears 40 = .ok (.aload_n 0, 1) := by decide +kernel
theorem dX7_bears_41 : decode cX7_bears 41 = .ok (.invokevirtual 177, 3) := by decide +kernel
theorem dX7_bears_44 : decode cX7_bears 44 = .ok (.aload_n 0, 1) := by decide +kernel
theorem dX7_bears_45 : decode cX7_bears 45 = .ok (.iload_n 2, 1) := by decide +kernel
theorem dX7_bears_46 : decode cX7_bears 46 = .ok (.invokevirtual 149, 3) := by decide +kernel
theorem dX7_bears_49 : decode cX7_bears 49 = .ok (.istore_n 3, 1) := by decide +kernel
theorem dX7_bears_50 : decode cX7_bears 50 = .ok (.aload_n 0, 1) := by decide +kernel
theorem dX7_bears_51 : decode cX7_bears 51 = .ok (.getfield 25, 3) := by decide +kernel
theorem dX7_bears_54 : decode cX7_bears 54 = .ok (.bipush 13, 2) := by decide +kernel
theorem dX7_bears_56 : decode cX7_bears 56 = .ok (.dup2, 1) := by decide +kernel
theorem dX7_bears_57 : decode cX7_bears 57 = .ok (.iaload, 1) := by decide +kernel
theorem dX7_bears_58 : decode cX7_bears 58 = .ok (.iconst 1, 1) := by decide +kernel
theorem dX7_bears_59 : decode cX7_bears 59 = .ok (.iload_n 1, 1) := by decide +kernel
theorem dX7_bears_60 : decode cX7_bears 60 = .ok (.ishl, 1) := by decide +kernel
theorem dX7_bears_61 : decode cX7_bears 61 = .ok (.ior, 1) := by decide +kernel
theorem dX7_bears_62 : decode cX7_bears 62 = .ok (.iastore, 1) := by decide +kernel
theorem dX7_bears_63 : decode cX7_bears 63 = .ok (.aload_n 0, 1) := by decide +kernel
theorem dX7_bears_64 : decode cX7_bears 64 = .ok (.getfield 25, 3) := by decide +kernel
theorem dX7_bears_67 : decode cX7_bears 67 = .ok (.bipush 14, 2) := by decide +kernel
theorem dX7_bears_69 : decode cX7_bears 69 = .ok (.dup2, 1) := by decide +kernel
theorem dX7_bears_70 : decode cX7_bears 70 = .ok (.iaload, 1) := by decide +kernel
theorem dX7_bears_71 : decode cX7_bears 71 = .ok (.iload_n 3, 1) := by decide +kernel
theorem dX7_bears_72 : decode cX7_bears 72 = .ok (.aload_n 0, 1) := by decide +kernel
theorem dX7_bears_73 : decode cX7_bears 73 = .ok (.getfield 13, 3) := by decide +kernel
theorem dX7_bears_76 : decode cX7_bears 76 = .ok (.iconst 3, 1) := by decide +kernel
theorem dX7_bears_77 : decode cX7_bears 77 = .ok (.iaload, 1) := by decide +kernel
theorem dX7_bears_78 : decode cX7_bears 78 = .ok (.if_icmp .ge 9, 3) := by decide +kernel
theorem dX7_bears_81 : decode cX7_bears 81 = .ok (.iconst 1, 1) := by decide +kernel
theorem dX7_bears_82 : decode cX7_bears 82 = .ok (.iload_n 1, 1) := by decide +kernel
theorem dX7_bears_83 : decode cX7_bears 83 = .ok (.ishl, 1) := by decide +kernel
theorem dX7_bears_84 : decode cX7_bears 84 = .ok (.goto 4, 3) := by decide +kernel
theorem dX7_bears_87 : decode cX7_bears 87 = .ok (.iconst 0, 1) := by decide +kernel
theorem dX7_bears_88 : decode cX7_bears 88 = .ok (.ior, 1) := by decide +kernel
theorem dX7_bears_89 : decode cX7_bears 89 = .ok (.iastore, 1) := by decide +kernel
theorem dX7_bears_90 : decode cX7_bears 90 = .ok (.aload_n 0, 1) := by decide +kernel
theorem dX7_bears_91 : decode cX7_bears 91 = .ok (.getfield 25, 3) := by decide +kernel
theorem dX7_bears_94 : decode cX7_bears 94 = .ok (.bipush 15, 2) := by decide +kernel
theorem dX7_bears_96 : decode cX7_bears 96 = .ok (.iload_n 1, 1) := by decide +kernel
theorem dX7_bears_97 : decode cX7_bears 97 = .ok (.iadd, 1) := by decide +kernel
theorem dX7_bears_98 : decode cX7_bears 98 = .ok (.iload_n 3, 1) := by decide +kernel
theorem dX7_bears_99 : decode cX7_bears 99 = .ok (.iastore, 1) := by decide +kernel
theorem dX7_bears_100 : decode cX7_bears 100 = .ok (.iload_n 3, 1) := by decide +kernel
theorem dX7_bears_101 : decode cX7_bears 101 = .ok (.ireturn, 1) := by decide +kernel
theorem dX7_year_0 : decode cX7_year 0 = .ok (.aload_n 0, 1) := by decide +kernel
theorem dX7_year_1 : decode cX7_year 1 = .ok (.iconst 0, 1) := by decide +kernel
theorem dX7_year_2 : decode cX7_year 2 = .ok (.putfield 59, 3) := by decide +kernel
theorem dX7_year_5 : decode cX7_year 5 = .ok (.aload_n 0, 1) := by decide +kernel
theorem dX7_year_6 : decode cX7_year 6 = .ok (.getfield 25, 3) := by decide +kernel
theorem dX7_year_9 : decode cX7_year 9 = .ok (.iconst 0, 1) := by decide +kernel
theorem dX7_year_10 : decode cX7_year 10 = .ok (.iaload, 1) := by decide +kernel
theorem dX7_year_11 : decode cX7_year 11 = .ok (.bipush 99, 2) := by decide +kernel
theorem dX7_year_13 : decode cX7_year 13 = .ok (.if_icmp .ne 6, 3) := by decide +kernel
theorem dX7_year_16 : decode cX7_year 16 = .ok (.bipush (-2), 2) := by decide +kernel
theorem dX7_year_18 : decode cX7_year 18 = .ok (.ireturn, 1) := by decide +kernel
theorem dX7_year_19 : decode cX7_year 19 = .ok (.aload_n 0, 1) := by decide +kernel
theorem dX7_year_20 : decode cX7_year 20 = .ok (.invokevirtual 177, 3) := by decide +kernel
theorem dX7_year_23 : decode cX7_year 23 = .ok (.aload_n 0, 1) := by decide +kernel
theorem dX7_year_24 : decode cX7_year 24 = .ok (.getfield 25, 3) := by decide +kernel
theorem dX7_year_27 : decode cX7_year 27 = .ok (.iconst 0, 1) := by decide +kernel
theorem dX7_year_28 : decode cX7_year 28 = .ok (.dup2, 1) := by decide +kernel
theorem dX7_year_29 : decode cX7_year 29 = .ok (.iaload, 1) := by decide +kernel
theorem dX7_year_30 : decode cX7_year 30 = .ok (.iconst 1, 1) := by decide +kernel
theorem dX7_year_31 : decode cX7_year 31 = .ok (.iadd, 1) := by decide +kernel
theorem dX7_year_32 : decode cX7_year 32 = .ok (.iastore, 1) := by decide +kernel
theorem dX7_year_33 : decode cX7_year 33 = .ok (.iconst 0, 1) := by decide +kernel
theorem dX7_year_34 : decode cX7_year 34 = .ok (.istore_n 1, 1) := by decide +kernel
theorem dX7_year_35 : decode cX7_year 35 = .ok (.iload_n 1, 1) := by decide +kernel
theorem dX7_year_36 : decode cX7_year 36 = .ok (.aload_n 0, 1) := by decide +kernel
theorem dX7_year_37 : decode cX7_year 37 = .ok (.getfield 13, 3) := by decide +kernel
theorem dX7_year_40 : decode cX7_year 40 = .ok (.iconst 0, 1) := by decide +kernel
theorem dX7_year_41 : decode cX7_year 41 = .ok (.iaload, 1) := by decide +kernel
theorem dX7_year_42 : decode cX7_year 42 = .ok (.if_icmp .ge 21, 3) := by decide +kernel
theorem dX7_year_45 : decode cX7_year 45 = .ok (.aload_n 0, 1) := by decide +kernel
theorem dX7_year_46 : decode cX7_year 46 = .ok (.getfield 25, 3) := by decide +kernel
theorem dX7_year_49 : decode cX7_year 49 = .ok (.iconst 1, 1) := by decide +kernel
theorem dX7_year_50 : decode cX7_year 50 = .ok (.iload_n 1, 1) := by decide +kernel
theorem dX7_year_51 : decode cX7_year 51 = .ok (.iadd, 1) := by decide +kernel
theorem dX7_year_52 : decode cX7_year 52 = .ok (.dup2, 1) := by decide +kernel
theorem dX7_year_53 : decode cX7_year 53 = .ok (.iaload, 1) := by decide +kernel
theorem dX7_year_54 : decode cX7_year 54 = .ok (.iconst 1, 1) := by decide +kernel
theorem dX7_year_55 : decode cX7_year 55 = .ok (.iadd, 1) := by decide +kernel
theorem dX7_year_56 : decode cX7_year 56 = .ok (.iastore, 1) := by decide +kernel
theorem dX7_year_57 : decode cX7_year 57 = .ok (.iinc 1 1, 3) := by decide +kernel
theorem dX7_year_60 : decode cX7_year 60 = .ok (.goto (-25), 3) := by decide +kernel
theorem dX7_year_63 : decode cX7_year 63 = .ok (.iconst 0, 1) := by decide +kernel
theorem dX7_year_64 : decode cX7_year 64 = .ok (.istore_n 1, 1) := by decide +kernel
theorem dX7_year_65 : decode cX7_year 65 = .ok (.iconst 0, 1) := by decide +kernel
theorem dX7_year_66 : decode cX7_year 66 = .ok (.istore_n 2, 1) := by decide +kernel
theorem dX7_year_67 : decode cX7_year 67 = .ok (.iload_n 2, 1) := by decide +kernel
theorem dX7_year_68 : decode cX7_year 68 = .ok (.aload_n 0, 1) := by decide +kernel
theorem dX7_year_69 : decode cX7_year 69 = .ok (.getfield 13, 3) := by decide +kernel
theorem dX7_year_72 : decode cX7_year 72 = .ok (.iconst 1, 1) := by decide +kernel
theorem dX7_year_73 : decode cX7_year 73 = .ok (.iaload, 1) := by decide +kernel
theorem dX7_year_74 : decode cX7_year 74 = .ok (.if_icmp .ge 95, 3) := by decide +kernel
theorem dX7_year_77 : decode cX7_year 77 = .ok (.aload_n 0, 1) := by decide +kernel
theorem dX7_year_78 : decode cX7_year 78 = .ok (.getfield 25, 3) := by decide +kernel
theorem dX7_year_81 : decode cX7_year 81 = .ok (.bipush 14, 2) := by decide +kernel
theorem dX7_year_83 : decode cX7_year 83 = .ok (.iaload, 1) := by decide +kernel
theorem dX7_year_84 : decode cX7_year 84 = .ok (.iload_n 2, 1) := by decide +kernel
theorem dX7_year_85 : decode cX7_year 85 = .ok (.invokestatic 124, 3) := by decide +kernel
theorem dX7_year_88 : decode cX7_year 88 = .ok (.ifCond .eq 75, 3) := by decide +kernel
theorem dX7_year_91 : decode cX7_year 91 = .ok (.aload_n 0, 1) := by decide +kernel
theorem dX7_year_92 : decode cX7_year 92 = .ok (.getfield 25, 3) := by decide +kernel
theorem dX7_year_95 : decode cX7_year 95 = .ok (.bipush 15, 2) := by decide +kernel
theorem dX7_year_97 : decode cX7_year 97 = .ok (.iload_n 2, 1) := by decide +kernel
theorem dX7_year_98 : decode cX7_year 98 = .ok (.iadd, 1) := by decide +kernel
theorem dX7_year_99 : decode cX7_year 99 = .ok (.dup2, 1) := by decide +kernel
theorem dX7_year_100 : decode cX7_year 100 = .ok (.iaload, 1) := by decide +kernel
theorem dX7_year_101 : decode cX7_year 101 = .ok (.iconst 1, 1) := by decide +kernel
theorem dX7_year_102 : decode cX7_year 102 = .ok (.iadd, 1) := by decide +kernel
theorem dX7_year_103 : decode cX7_year 103 = .ok (.iastore, 1) := by decide +kernel
theorem dX7_year_104 : decode cX7_year 104 = .ok (.aload_n 0, 1) := by decide +kernel
theorem dX7_year_105 : decode cX7_year 105 = .ok (.getfield 25, 3) := by decide +kernel
theorem dX7_year_108 : decode cX7_year 108 = .ok (.bipush 15, 2) := by decide +kernel
theorem dX7_year_110 : decode cX7_year 110 = .ok (.iload_n 2, 1) := by decide +kernel
theorem dX7_year_111 : decode cX7_year 111 = .ok (.iadd, 1) := by decide +kernel
theorem dX7_year_112 : decode cX7_year 112 = .ok (.iaload, 1) := by decide +kernel
theorem dX7_year_113 : decode cX7_year 113 = .ok (.aload_n 0, 1) := by decide +kernel
theorem dX7_year_114 : decode cX7_year 114 = .ok (.getfield 13, 3) := by decide +kernel
theorem dX7_year_117 : decode cX7_year 117 = .ok (.iconst 3, 1) := by decide +kernel
theorem dX7_year_118 : decode cX7_year 118 = .ok (.iaload, 1) := by decide +kernel
theorem dX7_year_119 : decode cX7_year 119 = .ok (.if_icmp .ne 7, 3) := by decide +kernel
theorem dX7_year_122 : decode cX7_year 122 = .ok (.iconst 1, 1) := by decide +kernel
theorem dX7_year_123 : decode cX7_year 123 = .ok (.goto 4, 3) := by decide +kernel
theorem dX7_year_126 : decode cX7_year 126 = .ok (.iconst 0, 1) := by decide +kernel
theorem dX7_year_127 : decode cX7_year 127 = .ok (.istore_n 3, 1) := by decide +kernel
theorem dX7_year_128 : decode cX7_year 128 = .ok (.aload_n 0, 1) := by decide +kernel
theorem dX7_year_129 : decode cX7_year 129 = .ok (.getfield 25, 3) := by decide +kernel
theorem dX7_year_132 : decode cX7_year 132 = .ok (.bipush 14, 2) := by decide +kernel
theorem dX7_year_134 : decode cX7_year 134 = .ok (.dup2, 1) := by decide +kernel
theorem dX7_year_135 : decode cX7_year 135 = .ok (.iaload, 1) := by decide +kernel
theorem dX7_year_136 : decode cX7_year 136 = .ok (.iload_n 3, 1) := by decide +kernel
theorem dX7_year_137 : decode cX7_year 137 = .ok (.ifCond .eq 11, 3) := by decide +kernel
theorem dX7_year_140 : decode cX7_year 140 = .ok (.iconst 1, 1) := by decide +kernel
theorem dX7_year_141 : decode cX7_year 141 = .ok (.iload_n 2, 1) := by decide +kernel
theorem dX7_year_142 : decode cX7_year 142 = .ok (.ishl, 1) := by decide +kernel
theorem dX7_year_143 : decode cX7_year 143 = .ok (.iconst (-1), 1) := by decide +kernel
theorem dX7_year_144 : decode cX7_year 144 = .ok (.ixor, 1) := by decide +kernel
theorem dX7_year_145 : decode cX7_year 145 = .ok (.goto 4, 3) := by decide +kernel
theorem dX7_year_148 : decode cX7_year 148 = .ok (.iconst (-1), 1) := by decide +kernel
theorem dX7_year_149 : decode cX7_year 149 = .ok (.iand, 1) := by decide +kernel
theorem dX7_year_150 : decode cX7_year 150 = .ok (.iastore, 1) := by decide +kernel
theorem dX7_year_151 : decode cX7_year 151 = .ok (.iload_n 1, 1) := by decide +kernel
theorem dX7_year_152 : decode cX7_year 152 = .ok (.iload_n 3, 1) := by decide +kernel
theorem dX7_year_153 : decode cX7_year 153 = .ok (.ifCond .eq 7, 3) := by decide +kernel
theorem dX7_year_156 : decode cX7_year 156 = .ok (.iconst 1, 1) := by decide +kernel
theorem dX7_year_157 : decode cX7_year 157 = .ok (.goto 4, 3) := by decide +kernel
theorem dX7_year_160 : decode cX7_year 160 = .ok (.iconst 0, 1) := by decide +kernel
theorem dX7_year_161 : decode cX7_year 161 = .ok (.iadd, 1) := by decide +kernel
theorem dX7_year_162 : decode cX7_year 162 = .ok (.istore_n 1, 1) := by decide +kernel
theorem dX7_year_163 : decode cX7_year 163 = .ok (.iinc 2 1, 3) := by decide +kernel
theorem dX7_year_166 : decode cX7_year 166 = .ok (.goto (-99), 3) := by decide +kernel
theorem dX7_year_169 : decode cX7_year 169 = .ok (.iload_n 1, 1) := by decide +kernel
theorem dX7_year_170 : decode cX7_year 170 = .ok (.ireturn, 1) := by decide +kernel
theorem dX7_joins_0 : decode cX7_joins 0 = .ok (.aload_n 0, 1) := by decide +kernel
theorem dX7_joins_1 : decode cX7_joins 1 = .ok (.iconst 0, 1) := by decide +kernel
theorem dX7_joins_2 : decode cX7_joins 2 = .ok (.putfield 59, 3) := by decide +kernel
theorem dX7_joins_5 : decode cX7_joins 5 = .ok (.aload_n 0, 1) := by decide +kernel
theorem dX7_joins_6 : decode cX7_joins 6 = .ok (.iload_n 1, 1) := by decide +kernel
theorem dX7_joins_7 : decode cX7_joins 7 = .ok (.invokevirtual 146, 3) := by decide +kernel
theorem dX7_joins_10 : decode cX7_joins 10 = .ok (.ifCond .eq 16, 3) := by decide +kernel
theorem dX7_joins_13 : decode cX7_joins 13 = .ok (.aload_n 0, 1) := by decide +kernel
theorem dX7_joins_14 : decode cX7_joins 14 = .ok (.iload_n 2, 1) := by decide +kernel
theorem dX7_joins_15 : decode cX7_joins 15 = .ok (.invokevirtual 146, 3) := by decide +kernel
theorem dX7_joins_18 : decode cX7_joins 18 = .ok (.ifCond .eq 8, 3) := by decide +kernel
theorem dX7_joins_21 : decode cX7_joins 21 = .ok (.iload_n 1, 1) := by decide +kernel
theorem dX7_joins_22 : decode cX7_joins 22 = .ok (.iload_n 2, 1) := by decide +kernel
theorem dX7_joins_23 : decode cX7_joins 23 = .ok (.if_icmp .ne 5, 3) := by decide +kernel
theorem dX7_joins_26 : decode cX7_joins 26 = .ok (.iconst (-1), 1) := by decide +kernel
theorem dX7_joins_27 : decode cX7_joins 27 = .ok (.ireturn, 1) := by decide +kernel
theorem dX7_joins_28 : decode cX7_joins 28 = .ok (.aload_n 0, 1) := by decide +kernel
theorem dX7_joins_29 : decode cX7_joins 29 = .ok (.getfield 25, 3) := by decide +kernel
theorem dX7_joins_32 : decode cX7_joins 32 = .ok (.bipush 7, 2) := by decide +kernel
theorem dX7_joins_34 : decode cX7_joins 34 = .ok (.iload_n 1, 1) := by decide +kernel
theorem dX7_joins_35 : decode cX7_joins 35 = .ok (.iadd, 1) := by decide +kernel
theorem dX7_joins_36 : decode cX7_joins 36 = .ok (.iaload, 1) := by decide +kernel
theorem dX7_joins_37 : decode cX7_joins 37 = .ok (.istore_n 3, 1) := by decide +kernel
theorem dX7_joins_38 : decode cX7_joins 38 = .ok (.aload_n 0, 1) := by decide +kernel
theorem dX7_joins_39 : decode cX7_joins 39 = .ok (.getfield 25, 3) := by decide +kernel
theorem dX7_joins_42 : decode cX7_joins 42 = .ok (.bipush 7, 2) := by decide +kernel
theorem dX7_joins_44 : decode cX7_joins 44 = .ok (.iload_n 2, 1) := by decide +kernel
theorem dX7_joins_45 : decode cX7_joins 45 = .ok (.iadd, 1) := by decide +kernel
theorem dX7_joins_46 : decode cX7_joins 46 = .ok (.iaload, 1) := by decide +kernel
theorem dX7_joins_47 : decode cX7_joins 47 = .ok (.istore 4, 2) := by decide +kernel
theorem dX7_joins_49 : decode cX7_joins 49 = .ok (.iload_n 3, 1) := by decide +kernel
theorem dX7_joins_50 : decode cX7_joins 50 = .ok (.iload 4, 2) := by decide +kernel
theorem dX7_joins_52 : decode cX7_joins 52 = .ok (.if_icmp .ne 6, 3) := by decide +kernel
theorem dX7_joins_55 : decode cX7_joins 55 = .ok (.bipush (-2), 2) := by decide +kernel
theorem dX7_joins_57 : decode cX7_joins 57 = .ok (.ireturn, 1) := by decide +kernel
theorem dX7_joins_58 : decode cX7_joins 58 = .ok (.aload_n 0, 1) := by decide +kernel
theorem dX7_joins_59 : decode cX7_joins 59 = .ok (.invokevirtual 177, 3) := by decide +kernel
theorem dX7_joins_62 : decode cX7_joins 62 = .ok (.iload_n 3, 1) := by decide +kernel
theorem dX7_joins_63 : decode cX7_joins 63 = .ok (.iload 4, 2) := by decide +kernel
theorem dX7_joins_65 : decode cX7_joins 65 = .ok (.if_icmp .ge 7, 3) := by decide +kernel
theorem dX7_joins_68 : decode cX7_joins 68 = .ok (.iload_n 3, 1) := by decide +kernel
theorem dX7_joins_69 : decode cX7_joins 69 = .ok (.goto 5, 3) := by decide +kernel
theorem dX7_joins_72 : decode cX7_joins 72 = .ok (.iload 4, 2) := by decide +kernel
theorem dX7_joins_74 : decode cX7_joins 74 = .ok (.istore 5, 2) := by decide +kernel
theorem dX7_joins_76 : decode cX7_joins 76 = .ok (.iconst 0, 1) := by decide +kernel
theorem dX7_joins_77 : decode cX7_joins 77 = .ok (.istore 6, 2) := by decide +kernel
theorem dX7_joins_79 : decode cX7_joins 79 = .ok (.iload 6, 2) := by decide +kernel
theorem dX7_joins_81 : decode cX7_joins 81 = .ok (.bipush 6, 2) := by decide +kernel
theorem dX7_joins_83 : decode cX7_joins 83 = .ok (.if_icmp .ge 51, 3) := by decide +kernel
theorem dX7_joins_86 : decode cX7_joins 86 = .ok (.aload_n 0, 1) := by decide +kernel
theorem dX7_joins_87 : decode cX7_joins 87 = .ok (.getfield 25, 3) := by decide +kernel
theorem dX7_joins_90 : decode cX7_joins 90 = .ok (.bipush 7, 2) := by decide +kernel
theorem dX7_joins_92 : decode cX7_joins 92 = .ok (.iload 6, 2) := by decide +kernel
theorem dX7_joins_94 : decode cX7_joins 94 = .ok (.iadd, 1) := by decide +kernel
theorem dX7_joins_95 : decode cX7_joins 95 = .ok (.iaload, 1) := by decide +kernel
theorem dX7_joins_96 : decode cX7_joins 96 = .ok (.istore 7, 2) := by decide +kernel
theorem dX7_joins_98 : decode cX7_joins 98 = .ok (.aload_n 0, 1) := by decide +kernel
theorem dX7_joins_99 : decode cX7_joins 99 = .ok (.getfield 25, 3) := by decide +kernel
theorem dX7_joins_102 : decode cX7_joins 102 = .ok (.bipush 7, 2) := by decide +kernel
theorem dX7_joins_104 : decode cX7_joins 104 = .ok (.iload 6, 2) := by decide +kernel
theorem dX7_joins_106 : decode cX7_joins 106 = .ok (.iadd, 1) := by decide +kernel
theorem dX7_joins_107 : decode cX7_joins 107 = .ok (.iload 7, 2) := by decide +kernel
theorem dX7_joins_109 : decode cX7_joins 109 = .ok (.iload_n 3, 1) := by decide +kernel
theorem dX7_joins_110 : decode cX7_joins 110 = .ok (.if_icmp .eq 10, 3) := by decide +kernel
theorem dX7_joins_113 : decode cX7_joins 113 = .ok (.iload 7, 2) := by decide +kernel
theorem dX7_joins_115 : decode cX7_joins 115 = .ok (.iload 4, 2) := by decide +kernel
theorem dX7_joins_117 : decode cX7_joins 117 = .ok (.if_icmp .ne 8, 3) := by decide +kernel
theorem dX7_joins_120 : decode cX7_joins 120 = .ok (.iload 5, 2) := by decide +kernel
theorem dX7_joins_122 : decode cX7_joins 122 = .ok (.goto 5, 3) := by decide +kernel
theorem dX7_joins_125 : decode cX7_joins 125 = .ok (.iload 7, 2) := by decide +kernel
theorem dX7_joins_127 : decode cX7_joins 127 = .ok (.iastore, 1) := by decide +kernel
theorem dX7_joins_128 : decode cX7_joins 128 = .ok (.iinc 6 1, 3) := by decide +kernel
theorem dX7_joins_131 : decode cX7_joins 131 = .ok (.goto (-52), 3) := by decide +kernel
theorem dX7_joins_134 : decode cX7_joins 134 = .ok (.aload_n 0, 1) := by decide +kernel
theorem dX7_joins_135 : decode cX7_joins 135 = .ok (.iload_n 1, 1) := by decide +kernel
theorem dX7_joins_136 : decode cX7_joins 136 = .ok (.invokevirtual 149, 3) := by decide +kernel
theorem dX7_joins_139 : decode cX7_joins 139 = .ok (.ireturn, 1) := by decide +kernel
theorem dX7_builds_0 : decode cX7_builds 0 = .ok (.aload_n 0, 1) := by decide +kernel
theorem dX7_builds_1 : decode cX7_builds 1 = .ok (.iconst 0, 1) := by decide +kernel
theorem dX7_builds_2 : decode cX7_builds 2 = .ok (.putfield 59, 3) := by decide +kernel
theorem dX7_builds_5 : decode cX7_builds 5 = .ok (.aload_n 0, 1) := by decide +kernel
theorem dX7_builds_6 : decode cX7_builds 6 = .ok (.iload_n 1, 1) := by decide +kernel
theorem dX7_builds_7 : decode cX7_builds 7 = .ok (.invokevirtual 146, 3) := by decide +kernel
theorem dX7_builds_10 : decode cX7_builds 10 = .ok (.ifCond .ne 5, 3) := by decide +kernel
theorem dX7_builds_13 : decode cX7_builds 13 = .ok (.iconst (-1), 1) := by decide +kernel
theorem dX7_builds_14 : decode cX7_builds 14 = .ok (.ireturn, 1) := by decide +kernel
theorem dX7_builds_15 : decode cX7_builds 15 = .ok (.aload_n 0, 1) := by decide +kernel
theorem dX7_builds_16 : decode cX7_builds 16 = .ok (.iload_n 1, 1) := by decide +kernel
theorem dX7_builds_17 : decode cX7_builds 17 = .ok (.invokevirtual 131, 3) := by decide +kernel
theorem dX7_builds_20 : decode cX7_builds 20 = .ok (.istore_n 2, 1) := by decide +kernel
theorem dX7_builds_21 : decode cX7_builds 21 = .ok (.aload_n 0, 1) := by decide +kernel
theorem dX7_builds_22 : decode cX7_builds 22 = .ok (.getfield 25, 3) := by decide +kernel
theorem dX7_builds_25 : decode cX7_builds 25 = .ok (.iconst 1, 1) := by decide +kernel
theorem dX7_builds_26 : decode cX7_builds 26 = .ok (.iload_n 1, 1) := by decide +kernel
theorem dX7_builds_27 : decode cX7_builds 27 = .ok (.iadd, 1) := by decide +kernel
theorem dX7_builds_28 : decode cX7_builds 28 = .ok (.iaload, 1) := by decide +kernel
theorem dX7_builds_29 : decode cX7_builds 29 = .ok (.istore_n 3, 1) := by decide +kernel
theorem dX7_builds_30 : decode cX7_builds 30 = .ok (.iload_n 3, 1) := by decide +kernel
theorem dX7_builds_31 : decode cX7_builds 31 = .ok (.ifCond .ne 14, 3) := by decide +kernel
theorem dX7_builds_34 : decode cX7_builds 34 = .ok (.iload_n 2, 1) := by decide +kernel
theorem dX7_builds_35 : decode cX7_builds 35 = .ok (.invokestatic 128, 3) := by decide +kernel
theorem dX7_builds_38 : decode cX7_builds 38 = .ok (.iconst 1, 1) := by decide +kernel
theorem dX7_builds_39 : decode cX7_builds 39 = .ok (.if_icmp .ne 6, 3) := by decide +kernel
theorem dX7_builds_42 : decode cX7_builds 42 = .ok (.bipush (-2), 2) := by decide +kernel
theorem dX7_builds_44 : decode cX7_builds 44 = .ok (.ireturn, 1) := by decide +kernel
theorem dX7_builds_45 : decode cX7_builds 45 = .ok (.aload_n 0, 1) := by decide +kernel
theorem dX7_builds_46 : decode cX7_builds 46 = .ok (.invokevirtual 177, 3) := by decide +kernel
theorem dX7_builds_49 : decode cX7_builds 49 = .ok (.aload_n 0, 1) := by decide +kernel
theorem dX7_builds_50 : decode cX7_builds 50 = .ok (.getfield 25, 3) := by decide +kernel
theorem dX7_builds_53 : decode cX7_builds 53 = .ok (.iconst 1, 1) := by decide +kernel
theorem dX7_builds_54 : decode cX7_builds 54 = .ok (.iload_n 1, 1) := by decide +kernel
theorem dX7_builds_55 : decode cX7_builds 55 = .ok (.iadd, 1) := by decide +kernel
theorem dX7_builds_56 : decode cX7_builds 56 = .ok (.iconst 0, 1) := by decide +kernel
theorem dX7_builds_57 : decode cX7_builds 57 = .ok (.iastore, 1) := by decide +kernel
theorem dX7_builds_58 : decode cX7_builds 58 = .ok (.iload_n 2, 1) := by decide +kernel
theorem dX7_builds_59 : decode cX7_builds 59 = .ok (.iconst 1, 1) := by decide +kernel
theorem dX7_builds_60 : decode cX7_builds 60 = .ok (.iload_n 1, 1) := by decide +kernel
theorem dX7_builds_61 : decode cX7_builds 61 = .ok (.ishl, 1) := by decide +kernel
theorem dX7_builds_62 : decode cX7_builds 62 = .ok (.iconst (-1), 1) := by decide +kernel
theorem dX7_builds_63 : decode cX7_builds 63 = .ok (.ixor, 1) := by decide +kernel
theorem dX7_builds_64 : decode cX7_builds 64 = .ok (.iand, 1) := by decide +kernel
theorem dX7_builds_65 : decode cX7_builds 65 = .ok (.istore 4, 2) := by decide +kernel
theorem dX7_builds_67 : decode cX7_builds 67 = .ok (.iconst 0, 1) := by decide +kernel
theorem dX7_builds_68 : decode cX7_builds 68 = .ok (.istore 5, 2) := by decide +kernel
theorem dX7_builds_70 : decode cX7_builds 70 = .ok (.iload 5, 2) := by decide +kernel
theorem dX7_builds_72 : decode cX7_builds 72 = .ok (.bipush 6, 2) := by decide +kernel
theorem dX7_builds_74 : decode cX7_builds 74 = .ok (.if_icmp .ge 19, 3) := by decide +kernel
theorem dX7_builds_77 : decode cX7_builds 77 = .ok (.iload 4, 2) := by decide +kernel
theorem dX7_builds_79 : decode cX7_builds 79 = .ok (.iload 5, 2) := by decide +kernel
theorem dX7_builds_81 : decode cX7_builds 81 = .ok (.invokestatic 124, 3) := by decide +kernel
theorem dX7_builds_84 : decode cX7_builds 84 = .ok (.ifCond .ne 9, 3) := by decide +kernel
theorem dX7_builds_87 : decode cX7_builds 87 = .ok (.iinc 5 1, 3) := by decide +kernel
theorem dX7_builds_90 : decode cX7_builds 90 = .ok (.goto (-20), 3) := by decide +kernel
theorem dX7_builds_93 : decode cX7_builds 93 = .ok (.iconst 0, 1) := by decide +kernel
theorem dX7_builds_94 : decode cX7_builds 94 = .ok (.istore 6, 2) := by decide +kernel
theorem dX7_builds_96 : decode cX7_builds 96 = .ok (.iload 6, 2) := by decide +kernel
theorem dX7_builds_98 : decode cX7_builds 98 = .ok (.bipush 6, 2) := by decide +kernel
theorem dX7_builds_100 : decode cX7_builds 100 = .ok (.if_icmp .ge 44, 3) := by decide +kernel
theorem dX7_builds_103 : decode cX7_builds 103 = .ok (.aload_n 0, 1) := by decide +kernel
theorem dX7_builds_104 : decode cX7_builds 104 = .ok (.getfield 25, 3) := by decide +kernel
theorem dX7_builds_107 : decode cX7_builds 107 = .ok (.bipush 7, 2) := by decide +kernel
theorem dX7_builds_109 : decode cX7_builds 109 = .ok (.iload 6, 2) := by decide +kernel
theorem dX7_builds_111 : decode cX7_builds 111 = .ok (.iadd, 1) := by decide +kernel
theorem dX7_builds_112 : decode cX7_builds 112 = .ok (.iload 4, 2) := by decide +kernel
theorem dX7_builds_114 : decode cX7_builds 114 = .ok (.iload 6, 2) := by decide +kernel
theorem dX7_builds_116 : decode cX7_builds 116 = .ok (.invokestatic 124, 3) := by decide +kernel
theorem dX7_builds_119 : decode cX7_builds 119 = .ok (.ifCond .eq 8, 3) := by decide +kernel
theorem dX7_builds_122 : decode cX7_builds 122 = .ok (.iload 5, 2) := by decide +kernel
theorem dX7_builds_124 : decode cX7_builds 124 = .ok (.goto 13, 3) := by decide +kernel
theorem dX7_builds_127 : decode cX7_builds 127 = .ok (.aload_n 0, 1) := by decide +kernel
theorem dX7_builds_128 : decode cX7_builds 128 = .ok (.getfield 25, 3) := by decide +kernel
theorem dX7_builds_131 : decode cX7_builds 131 = .ok (.bipush 7, 2) := by decide +kernel
theorem dX7_builds_133 : decode cX7_builds 133 = .ok (.iload 6, 2) := by decide +kernel
theorem dX7_builds_135 : decode cX7_builds 135 = .ok (.iadd, 1) := by decide +kernel
theorem dX7_builds_136 : decode cX7_builds 136 = .ok (.iaload, 1) := by decide +kernel
theorem dX7_builds_137 : decode cX7_builds 137 = .ok (.iastore, 1) := by decide +kernel
theorem dX7_builds_138 : decode cX7_builds 138 = .ok (.iinc 6 1, 3) := by decide +kernel
theorem dX7_builds_141 : decode cX7_builds 141 = .ok (.goto (-45), 3) := by decide +kernel
theorem dX7_builds_144 : decode cX7_builds 144 = .ok (.aload_n 0, 1) := by decide +kernel
theorem dX7_builds_145 : decode cX7_builds 145 = .ok (.getfield 25, 3) := by decide +kernel
theorem dX7_builds_148 : decode cX7_builds 148 = .ok (.bipush 7, 2) := by decide +kernel
theorem dX7_builds_150 : decode cX7_builds 150 = .ok (.iload_n 1, 1) := by decide +kernel
theorem dX7_builds_151 : decode cX7_builds 151 = .ok (.iadd, 1) := by decide +kernel
theorem dX7_builds_152 : decode cX7_builds 152 = .ok (.iload_n 1, 1) := by decide +kernel
theorem dX7_builds_153 : decode cX7_builds 153 = .ok (.iastore, 1) := by decide +kernel
theorem dX7_builds_154 : decode cX7_builds 154 = .ok (.iload_n 3, 1) := by decide +kernel
theorem dX7_builds_155 : decode cX7_builds 155 = .ok (.ireturn, 1) := by decide +kernel
theorem dX7_undo_0 : decode cX7_undo 0 = .ok (.aload_n 0, 1) := by decide +kernel
theorem dX7_undo_1 : decode cX7_undo 1 = .ok (.iconst 0, 1) := by decide +kernel
theorem dX7_undo_2 : decode cX7_undo 2 = .ok (.putfield 59, 3) := by decide +kernel
theorem dX7_undo_5 : decode cX7_undo 5 = .ok (.aload_n 0, 1) := by decide +kernel
theorem dX7_undo_6 : decode cX7_undo 6 = .ok (.getfield 121, 3) := by decide +kernel
theorem dX7_undo_9 : decode cX7_undo 9 = .ok (.ifCond .ne 6, 3) := by decide +kernel
theorem dX7_undo_12 : decode cX7_undo 12 = .ok (.bipush (-2), 2) := by decide +kernel
theorem dX7_undo_14 : decode cX7_undo 14 = .ok (.ireturn, 1) := by decide +kernel
theorem dX7_undo_15 : decode cX7_undo 15 = .ok (.aload_n 0, 1) := by decide +kernel
theorem dX7_undo_16 : decode cX7_undo 16 = .ok (.dup, 1) := by decide +kernel
theorem dX7_undo_17 : decode cX7_undo 17 = .ok (.getfield 121, 3) := by decide +kernel
theorem dX7_undo_20 : decode cX7_undo 20 = .ok (.iconst 1, 1) := by decide +kernel
theorem dX7_undo_21 : decode cX7_undo 21 = .ok (.isub, 1) := by decide +kernel
theorem dX7_undo_22 : decode cX7_undo 22 = .ok (.putfield 121, 3) := by decide +kernel
theorem dX7_undo_25 : decode cX7_undo 25 = .ok (.iconst 0, 1) := by decide +kernel
theorem dX7_undo_26 : decode cX7_undo 26 = .ok (.istore_n 1, 1) := by decide +kernel
theorem dX7_undo_27 : decode cX7_undo 27 = .ok (.iload_n 1, 1) := by decide +kernel
theorem dX7_undo_28 : decode cX7_undo 28 = .ok (.bipush 21, 2) := by decide +kernel
theorem dX7_undo_30 : decode cX7_undo 30 = .ok (.if_icmp .ge 29, 3) := by decide +kernel
theorem dX7_undo_33 : decode cX7_undo 33 = .ok (.aload_n 0, 1) := by decide +kernel
theorem dX7_undo_34 : decode cX7_undo 34 = .ok (.getfield 25, 3) := by decide +kernel
theorem dX7_undo_37 : decode cX7_undo 37 = .ok (.iload_n 1, 1) := by decide +kernel
theorem dX7_undo_38 : decode cX7_undo 38 = .ok (.aload_n 0, 1) := by decide +kernel
theorem dX7_undo_39 : decode cX7_undo 39 = .ok (.getfield 35, 3) := by decide +kernel
theorem dX7_undo_42 : decode cX7_undo 42 = .ok (.bipush 21, 2) := by decide +kernel
theorem dX7_undo_44 : decode cX7_undo 44 = .ok (.aload_n 0, 1) := by decide +kernel
theorem dX7_undo_45 : decode cX7_undo 45 = .ok (.getfield 121, 3) := by decide +kernel
theorem dX7_undo_48 : decode cX7_undo 48 = .ok (.imul, 1) := by decide +kernel
theorem dX7_undo_49 : decode cX7_undo 49 = .ok (.iload_n 1, 1) := by decide +kernel
theorem dX7_undo_50 : decode cX7_undo 50 = .ok (.iadd, 1) := by decide +kernel
theorem dX7_undo_51 : decode cX7_undo 51 = .ok (.iaload, 1) := by decide +kernel
theorem dX7_undo_52 : decode cX7_undo 52 = .ok (.iastore, 1) := by decide +kernel
theorem dX7_undo_53 : decode cX7_undo 53 = .ok (.iinc 1 1, 3) := by decide +kernel
theorem dX7_undo_56 : decode cX7_undo 56 = .ok (.goto (-29), 3) := by decide +kernel
theorem dX7_undo_59 : decode cX7_undo 59 = .ok (.aload_n 0, 1) := by decide +kernel
theorem dX7_undo_60 : decode cX7_undo 60 = .ok (.getfield 121, 3) := by decide +kernel
theorem dX7_undo_63 : decode cX7_undo 63 = .ok (.ireturn, 1) := by decide +kernel
theorem dX7_fills_0 : decode cX7_fills 0 = .ok (.aload_n 0, 1) := by decide +kernel
theorem dX7_fills_1 : decode cX7_fills 1 = .ok (.iconst 0, 1) := by decide +kernel
theorem dX7_fills_2 : decode cX7_fills 2 = .ok (.putfield 59, 3) := by decide +kernel
theorem dX7_fills_5 : decode cX7_fills 5 = .ok (.aload_n 0, 1) := by decide +kernel
theorem dX7_fills_6 : decode cX7_fills 6 = .ok (.iload_n 1, 1) := by decide +kernel
theorem dX7_fills_7 : decode cX7_fills 7 = .ok (.invokevirtual 152, 3) := by decide +kernel
theorem dX7_fills_10 : decode cX7_fills 10 = .ok (.ifCond .ne 5, 3) := by decide +kernel
theorem dX7_fills_13 : decode cX7_fills 13 = .ok (.iconst (-1), 1) := by decide +kernel
theorem dX7_fills_14 : decode cX7_fills 14 = .ok (.ireturn, 1) := by decide +kernel
theorem dX7_fills_15 : decode cX7_fills 15 = .ok (.aload_n 0, 1) := by decide +kernel
theorem dX7_fills_16 : decode cX7_fills 16 = .ok (.invokevirtual 170, 3) := by decide +kernel
theorem dX7_fills_19 : decode cX7_fills 19 = .ok (.aload_n 0, 1) := by decide +kernel
theorem dX7_fills_20 : decode cX7_fills 20 = .ok (.invokevirtual 173, 3) := by decide +kernel
theorem dX7_fills_23 : decode cX7_fills 23 = .ok (.pop, 1) := by decide +kernel
theorem dX7_fills_24 : decode cX7_fills 24 = .ok (.aload_n 0, 1) := by decide +kernel
theorem dX7_fills_25 : decode cX7_fills 25 = .ok (.getfield 50, 3) := by decide +kernel
theorem dX7_fills_28 : decode cX7_fills 28 = .ok (.iload_n 1, 1) := by decide +kernel
theorem dX7_fills_29 : decode cX7_fills 29 = .ok (.iaload, 1) := by decide +kernel
theorem dX7_fills_30 : decode cX7_fills 30 = .ok (.iconst 5, 1) := by decide +kernel
theorem dX7_fills_31 : decode cX7_fills 31 = .ok (.if_icmp .ne 8, 3) := by decide +kernel
theorem dX7_fills_34 : decode cX7_fills 34 = .ok (.bipush (-9), 2) := by decide +kernel
theorem dX7_fills_36 : decode cX7_fills 36 = .ok (.goto 9, 3) := by decide +kernel
theorem dX7_fills_39 : decode cX7_fills 39 = .ok (.aload_n 0, 1) := by decide +kernel
theorem dX7_fills_40 : decode cX7_fills 40 = .ok (.getfield 50, 3) := by decide +kernel
theorem dX7_fills_43 : decode cX7_fills 43 = .ok (.iload_n 1, 1) := by decide +kernel
theorem dX7_fills_44 : decode cX7_fills 44 = .ok (.iaload, 1) := by decide +kernel
theorem dX7_fills_45 : decode cX7_fills 45 = .ok (.ireturn, 1) := by decide +kernel
theorem dX7_carry_0 : decode cX7_carry 0 = .ok (.aload_n 0, 1) := by decide +kernel
theorem dX7_carry_1 : decode cX7_carry 1 = .ok (.iconst 0, 1) := by decide +kernel
theorem dX7_carry_2 : decode cX7_carry 2 = .ok (.putfield 59, 3) := by decide +kernel
theorem dX7_carry_5 : decode cX7_carry 5 = .ok (.aload_n 0, 1) := by decide +kernel
theorem dX7_carry_6 : decode cX7_carry 6 = .ok (.iload_n 1, 1) := by decide +kernel
theorem dX7_carry_7 : decode cX7_carry 7 = .ok (.invokevirtual 152, 3) := by decide +kernel
theorem dX7_carry_10 : decode cX7_carry 10 = .ok (.ifCond .eq 12, 3) := by decide +kernel
theorem dX7_carry_13 : decode cX7_carry 13 = .ok (.iload_n 2, 1) := by decide +kernel
theorem dX7_carry_14 : decode cX7_carry 14 = .ok (.iconst 0, 1) := by decide +kernel
theorem dX7_carry_15 : decode cX7_carry 15 = .ok (.iconst 1, 1) := by decide +kernel
theorem dX7_carry_16 : decode cX7_carry 16 = .ok (.invokestatic 63, 3) := by decide +kernel
theorem dX7_carry_19 : decode cX7_carry 19 = .ok (.ifCond .ne 5, 3) := by decide +kernel
theorem dX7_carry_22 : decode cX7_carry 22 = .ok (.iconst (-1), 1) := by decide +kernel
theorem dX7_carry_23 : decode cX7_carry 23 = .ok (.ireturn, 1) := by decide +kernel
theorem dX7_carry_24 : decode cX7_carry 24 = .ok (.aload_n 0, 1) := by decide +kernel
theorem dX7_carry_25 : decode cX7_carry 25 = .ok (.getfield 25, 3) := by decide +kernel
theorem dX7_carry_28 : decode cX7_carry 28 = .ok (.bipush 13, 2) := by decide +kernel
theorem dX7_carry_30 : decode cX7_carry 30 = .ok (.iaload, 1) := by decide +kernel
theorem dX7_carry_31 : decode cX7_carry 31 = .ok (.iload_n 1, 1) := by decide +kernel
theorem dX7_carry_32 : decode cX7_carry 32 = .ok (.invokestatic 124, 3) := by decide +kernel
theorem dX7_carry_35 : decode cX7_carry 35 = .ok (.ifCond .eq 6, 3) := by decide +kernel
theorem dX7_carry_38 : decode cX7_carry 38 = .ok (.bipush (-2), 2) := by decide +kernel
theorem dX7_carry_40 : decode cX7_carry 40 = .ok (.ireturn, 1) := by decide +kernel
theorem dX7_carry_41 : decode cX7_carry 41 = .ok (.bipush (-9), 2) := by decide +kernel
theorem dX7_carry_43 : decode cX7_carry 43 = .ok (.istore_n 3, 1) := by decide +kernel
theorem dX7_carry_44 : decode cX7_carry 44 = .ok (.bipush (-9), 2) := by decide +kernel
theorem dX7_carry_46 : decode cX7_carry 46 = .ok (.istore 4, 2) := by decide +kernel
theorem dX7_carry_48 : decode cX7_carry 48 = .ok (.iconst 0, 1) := by decide +kernel
theorem dX7_carry_49 : decode cX7_carry 49 = .ok (.istore 5, 2) := by decide +kernel
theorem dX7_carry_51 : decode cX7_carry 51 = .ok (.iload 5, 2) := by decide +kernel
theorem dX7_carry_53 : decode cX7_carry 53 = .ok (.aload_n 0, 1) := by decide +kernel
theorem dX7_carry_54 : decode cX7_carry 54 = .ok (.getfield 13, 3) := by decide +kernel
theorem dX7_carry_57 : decode cX7_carry 57 = .ok (.iconst 0, 1) := by decide +kernel
theorem dX7_carry_58 : decode cX7_carry 58 = .ok (.iaload, 1) := by decide +kernel
theorem dX7_carry_59 : decode cX7_carry 59 = .ok (.if_icmp .ge 84, 3) := by decide +kernel
theorem dX7_carry_62 : decode cX7_carry 62 = .ok (.aload_n 0, 1) := by decide +kernel
theorem dX7_carry_63 : decode cX7_carry 63 = .ok (.invokevirtual 170, 3) := by decide +kernel
theorem dX7_carry_66 : decode cX7_carry 66 = .ok (.aload_n 0, 1) := by decide +kernel
theorem dX7_carry_67 : decode cX7_carry 67 = .ok (.iload 5, 2) := by decide +kernel
theorem dX7_carry_69 : decode cX7_carry 69 = .ok (.invokevirtual 149, 3) := by decide +kernel
theorem dX7_carry_72 : decode cX7_carry 72 = .ok (.istore 6, 2) := by decide +kernel
theorem dX7_carry_74 : decode cX7_carry 74 = .ok (.aload_n 0, 1) := by decide +kernel
theorem dX7_carry_75 : decode cX7_carry 75 = .ok (.getfield 44, 3) := by decide +kernel
theorem dX7_carry_78 : decode cX7_carry 78 = .ok (.iload_n 1, 1) := by decide +kernel
theorem dX7_carry_79 : decode cX7_carry 79 = .ok (.iload 6, 2) := by decide +kernel
theorem dX7_carry_81 : decode cX7_carry 81 = .ok (.aload_n 0, 1) := by decide +kernel
theorem dX7_carry_82 : decode cX7_carry 82 = .ok (.getfield 13, 3) := by decide +kernel
theorem dX7_carry_85 : decode cX7_carry 85 = .ok (.iconst 3, 1) := by decide +kernel
theorem dX7_carry_86 : decode cX7_carry 86 = .ok (.iaload, 1) := by decide +kernel
theorem dX7_carry_87 : decode cX7_carry 87 = .ok (.if_icmp .ge 12, 3) := by decide +kernel
theorem dX7_carry_90 : decode cX7_carry 90 = .ok (.aload_n 0, 1) := by decide +kernel
theorem dX7_carry_91 : decode cX7_carry 91 = .ok (.iload 6, 2) := by decide +kernel
theorem dX7_carry_93 : decode cX7_carry 93 = .ok (.invokevirtual 137, 3) := by decide +kernel
theorem dX7_carry_96 : decode cX7_carry 96 = .ok (.goto 4, 3) := by decide +kernel
theorem dX7_carry_99 : decode cX7_carry 99 = .ok (.iconst 0, 1) := by decide +kernel
theorem dX7_carry_100 : decode cX7_carry 100 = .ok (.iastore, 1) := by decide +kernel
theorem dX7_carry_101 : decode cX7_carry 101 = .ok (.aload_n 0, 1) := by decide +kernel
theorem dX7_carry_102 : decode cX7_carry 102 = .ok (.invokevirtual 173, 3) := by decide +kernel
theorem dX7_carry_105 : decode cX7_carry 105 = .ok (.istore 7, 2) := by decide +kernel
theorem dX7_carry_107 : decode cX7_carry 107 = .ok (.iload 7, 2) := by decide +kernel
theorem dX7_carry_109 : decode cX7_carry 109 = .ok (.iload 4, 2) := by decide +kernel
theorem dX7_carry_111 : decode cX7_carry 111 = .ok (.if_icmp .le 8, 3) := by decide +kernel
theorem dX7_carry_114 : decode cX7_carry 114 = .ok (.iload 5, 2) := by decide +kernel
theorem dX7_carry_116 : decode cX7_carry 116 = .ok (.goto 4, 3) := by decide +kernel
theorem dX7_carry_119 : decode cX7_carry 119 = .ok (.iload_n 3, 1) := by decide +kernel
theorem dX7_carry_120 : decode cX7_carry 120 = .ok (.istore_n 3, 1) := by decide +kernel
theorem dX7_carry_121 : decode cX7_carry 121 = .ok (.iload 7, 2) := by decide +kernel
theorem dX7_carry_123 : decode cX7_carry 123 = .ok (.iload 4, 2) := by decide +kernel
theorem dX7_carry_125 : decode cX7_carry 125 = .ok (.if_icmp .le 8, 3) := by decide +kernel
theorem dX7_carry_128 : decode cX7_carry 128 = .ok (.iload 7, 2) := by decide +kernel
theorem dX7_carry_130 : decode cX7_carry 130 = .ok (.goto 5, 3) := by decide +kernel
theorem dX7_carry_133 : decode cX7_carry 133 = .ok (.iload 4, 2) := by decide +kernel
theorem dX7_carry_135 : decode cX7_carry 135 = .ok (.istore 4, 2) := by decide +kernel
theorem dX7_carry_137 : decode cX7_carry 137 = .ok (.iinc 5 1, 3) := by decide +kernel
theorem dX7_carry_140 : decode cX7_carry 140 = .ok (.goto (-89), 3) := by decide +kernel
theorem dX7_carry_143 : decode cX7_carry 143 = .ok (.iload_n 2, 1) := by decide +kernel
theorem dX7_carry_144 : decode cX7_carry 144 = .ok (.ifCond .ne 7, 3) := by decide +kernel
theorem dX7_carry_147 : decode cX7_carry 147 = .ok (.iload_n 3, 1) := by decide +kernel
theorem dX7_carry_148 : decode cX7_carry 148 = .ok (.goto 5, 3) := by decide +kernel
theorem dX7_carry_151 : decode cX7_carry 151 = .ok (.iload 4, 2) := by decide +kernel
theorem dX7_carry_153 : decode cX7_carry 153 = .ok (.ireturn, 1) := by decide +kernel
theorem dX7_join_0 : decode cX7_join 0 = .ok (.aload_n 0, 1) := by decide +kernel
theorem dX7_join_1 : decode cX7_join 1 = .ok (.iconst 0, 1) := by decide +kernel
theorem dX7_join_2 : decode cX7_join 2 = .ok (.putfield 59, 3) := by decide +kernel
theorem dX7_join_5 : decode cX7_join 5 = .ok (.iload_n 1, 1) := by decide +kernel
theorem dX7_join_6 : decode cX7_join 6 = .ok (.iconst 0, 1) := by decide +kernel
theorem dX7_join_7 : decode cX7_join 7 = .ok (.sipush 198, 3) := by decide +kernel
theorem dX7_join_10 : decode cX7_join 10 = .ok (.invokestatic 63, 3) := by decide +kernel
theorem dX7_join_13 : decode cX7_join 13 = .ok (.ifCond .ne 5, 3) := by decide +kernel
theorem dX7_join_16 : decode cX7_join 16 = .ok (.iconst (-1), 1) := by decide +kernel
theorem dX7_join_17 : decode cX7_join 17 = .ok (.ireturn, 1) := by decide +kernel
theorem dX7_join_18 : decode cX7_join 18 = .ok (.bipush (-9), 2) := by decide +kernel
theorem dX7_join_20 : decode cX7_join 20 = .ok (.istore_n 2, 1) := by decide +kernel
theorem dX7_join_21 : decode cX7_join 21 = .ok (.iconst 1, 1) := by decide +kernel
theorem dX7_join_22 : decode cX7_join 22 = .ok (.aload_n 0, 1) := by decide +kernel
theorem dX7_join_23 : decode cX7_join 23 = .ok (.getfield 13, 3) := by decide +kernel
theorem dX7_join_26 : decode cX7_join 26 = .ok (.iconst 0, 1) := by decide +kernel
theorem dX7_join_27 : decode cX7_join 27 = .ok (.iaload, 1) := by decide +kernel
theorem dX7_join_28 : decode cX7_join 28 = .ok (.ishl, 1) := by decide +kernel
theorem dX7_join_29 : decode cX7_join 29 = .ok (.iconst 1, 1) := by decide +kernel
theorem dX7_join_30 : decode cX7_join 30 = .ok (.isub, 1) := by decide +kernel
theorem dX7_join_31 : decode cX7_join 31 = .ok (.istore_n 3, 1) := by decide +kernel
theorem dX7_join_32 : decode cX7_join 32 = .ok (.iload_n 3, 1) := by decide +kernel
theorem dX7_join_33 : decode cX7_join 33 = .ok (.ifCond .le 41, 3) := by decide +kernel
theorem dX7_join_36 : decode cX7_join 36 = .ok (.aload_n 0, 1) := by decide +kernel
theorem dX7_join_37 : decode cX7_join 37 = .ok (.iload_n 3, 1) := by decide +kernel
theorem dX7_join_38 : decode cX7_join 38 = .ok (.invokevirtual 134, 3) := by decide +kernel
theorem dX7_join_41 : decode cX7_join 41 = .ok (.iload_n 1, 1) := by decide +kernel
theorem dX7_join_42 : decode cX7_join 42 = .ok (.if_icmp .ne 24, 3) := by decide +kernel
theorem dX7_join_45 : decode cX7_join 45 = .ok (.iload_n 2, 1) := by decide +kernel
theorem dX7_join_46 : decode cX7_join 46 = .ok (.bipush (-9), 2) := by decide +kernel
theorem dX7_join_48 : decode cX7_join 48 = .ok (.if_icmp .eq 14, 3) := by decide +kernel
theorem dX7_join_51 : decode cX7_join 51 = .ok (.iload_n 3, 1) := by decide +kernel
theorem dX7_join_52 : decode cX7_join 52 = .ok (.invokestatic 128, 3) := by decide +kernel
theorem dX7_join_55 : decode cX7_join 55 = .ok (.iload_n 2, 1) := by decide +kernel
theorem dX7_join_56 : decode cX7_join 56 = .ok (.invokestatic 128, 3) := by decide +kernel
theorem dX7_join_59 : decode cX7_join 59 = .ok (.if_icmp .gt 7, 3) := by decide +kernel
theorem dX7_join_62 : decode cX7_join 62 = .ok (.iload_n 3, 1) := by decide +kernel
theorem dX7_join_63 : decode cX7_join 63 = .ok (.goto 4, 3) := by decide +kernel
theorem dX7_join_66 : decode cX7_join 66 = .ok (.iload_n 2, 1) := by decide +kernel
theorem dX7_join_67 : decode cX7_join 67 = .ok (.istore_n 2, 1) := by decide +kernel
theorem dX7_join_68 : decode cX7_join 68 = .ok (.iinc 3 (-1), 3) := by decide +kernel
theorem dX7_join_71 : decode cX7_join 71 = .ok (.goto (-39), 3) := by decide +kernel
theorem dX7_join_74 : decode cX7_join 74 = .ok (.iload_n 2, 1) := by decide +kernel
theorem dX7_join_75 : decode cX7_join 75 = .ok (.ireturn, 1) := by decide +kernel
theorem dX7_elder_0 : decode cX7_elder 0 = .ok (.aload_n 0, 1) := by decide +kernel
theorem dX7_elder_1 : decode cX7_elder 1 = .ok (.iconst 0, 1) := by decide +kernel
theorem dX7_elder_2 : decode cX7_elder 2 = .ok (.putfield 59, 3) := by decide +kernel
theorem dX7_elder_5 : decode cX7_elder 5 = .ok (.iload_n 1, 1) := by decide +kernel
theorem dX7_elder_6 : decode cX7_elder 6 = .ok (.iconst 0, 1) := by decide +kernel
theorem dX7_elder_7 : decode cX7_elder 7 = .ok (.iconst 5, 1) := by decide +kernel
theorem dX7_elder_8 : decode cX7_elder 8 = .ok (.invokestatic 63, 3) := by decide +kernel
theorem dX7_elder_11 : decode cX7_elder 11 = .ok (.ifCond .ne 5, 3) := by decide +kernel
theorem dX7_elder_14 : decode cX7_elder 14 = .ok (.iconst (-1), 1) := by decide +kernel
theorem dX7_elder_15 : decode cX7_elder 15 = .ok (.ireturn, 1) := by decide +kernel
theorem dX7_elder_16 : decode cX7_elder 16 = .ok (.iconst 0, 1) := by decide +kernel
theorem dX7_elder_17 : decode cX7_elder 17 = .ok (.istore_n 2, 1) := by decide +kernel
theorem dX7_elder_18 : decode cX7_elder 18 = .ok (.iload_n 2, 1) := by decide +kernel
theorem dX7_elder_19 : decode cX7_elder 19 = .ok (.aload_n 0, 1) := by decide +kernel
theorem dX7_elder_20 : decode cX7_elder 20 = .ok (.getfield 13, 3) := by decide +kernel
theorem dX7_elder_23 : decode cX7_elder 23 = .ok (.iconst 1, 1) := by decide +kernel
theorem dX7_elder_24 : decode cX7_elder 24 = .ok (.iaload, 1) := by decide +kernel
theorem dX7_elder_25 : decode cX7_elder 25 = .ok (.if_icmp .ge 137, 3) := by decide +kernel
theorem dX7_elder_28 : decode cX7_elder 28 = .ok (.iconst 0, 1) := by decide +kernel
theorem dX7_elder_29 : decode cX7_elder 29 = .ok (.istore_n 3, 1) := by decide +kernel
theorem dX7_elder_30 : decode cX7_elder 30 = .ok (.iconst 0, 1) := by decide +kernel
theorem dX7_elder_31 : decode cX7_elder 31 = .ok (.istore 4, 2) := by decide +kernel
theorem dX7_elder_33 : decode cX7_elder 33 = .ok (.iload 4, 2) := by decide +kernel
theorem dX7_elder_35 : decode cX7_elder 35 = .ok (.aload_n 0, 1) := by decide +kernel
theorem dX7_elder_36 : decode cX7_elder 36 = .ok (.getfield 13, 3) := by decide +kernel
theorem dX7_elder_39 : decode cX7_elder 39 = .ok (.iconst 1, 1) := by decide +kernel
theorem dX7_elder_40 : decode cX7_elder 40 = .ok (.iaload, 1) := by decide +kernel
theorem dX7_elder_41 : decode cX7_elder 41 = .ok (.if_icmp .ge 94, 3) := by decide +kernel
theorem dX7_elder_44 : decode cX7_elder 44 = .ok (.aload_n 0, 1) := by decide +kernel
theorem dX7_elder_45 : decode cX7_elder 45 = .ok (.getfield 25, 3) := by decide +kernel
theorem dX7_elder_48 : decode cX7_elder 48 = .ok (.bipush 15, 2) := by decide +kernel
theorem dX7_elder_50 : decode cX7_elder 50 = .ok (.iload 4, 2) := by decide +kernel
theorem dX7_elder_52 : decode cX7_elder 52 = .ok (.iadd, 1) := by decide +kernel
theorem dX7_elder_53 : decode cX7_elder 53 = .ok (.iaload, 1) := by decide +kernel
theorem dX7_elder_54 : decode cX7_elder 54 = .ok (.aload_n 0, 1) := by decide +kernel
theorem dX7_elder_55 : decode cX7_elder 55 = .ok (.getfield 25, 3) := by decide +kernel
theorem dX7_elder_58 : decode cX7_elder 58 = .ok (.bipush 15, 2) := by decide +kernel
theorem dX7_elder_60 : decode cX7_elder 60 = .ok (.iload_n 2, 1) := by decide +kernel
theorem dX7_elder_61 : decode cX7_elder 61 = .ok (.iadd, 1) := by decide +kernel
theorem dX7_elder_62 : decode cX7_elder 62 = .ok (.iaload, 1) := by decide +kernel
theorem dX7_elder_63 : decode cX7_elder 63 = .ok (.if_icmp .gt 31, 3) := by decide +kernel
theorem dX7_elder_66 : decode cX7_elder 66 = .ok (.aload_n 0, 1) := by decide +kernel
theorem dX7_elder_67 : decode cX7_elder 67 = .ok (.getfield 25, 3) := by decide +kernel
theorem dX7_elder_70 : decode cX7_elder 70 = .ok (.bipush 15, 2) := by decide +kernel
theorem dX7_elder_72 : decode cX7_elder 72 = .ok (.iload 4, 2) := by decide +kernel
theorem dX7_elder_74 : decode cX7_elder 74 = .ok (.iadd, 1) := by decide +kernel
theorem dX7_elder_75 : decode cX7_elder 75 = .ok (.iaload, 1) := by decide +kernel
theorem dX7_elder_76 : decode cX7_elder 76 = .ok (.aload_n 0, 1) := by decide +kernel
theorem dX7_elder_77 : decode cX7_elder 77 = .ok (.getfield 25, 3) := by decide +kernel
theorem dX7_elder_80 : decode cX7_elder 80 = .ok (.bipush 15, 2) := by decide +kernel
theorem dX7_elder_82 : decode cX7_elder 82 = .ok (.iload_n 2, 1) := by decide +kernel
theorem dX7_elder_83 : decode cX7_elder 83 = .ok (.iadd, 1) := by decide +kernel
theorem dX7_elder_84 : decode cX7_elder 84 = .ok (.iaload, 1) := by decide +kernel
theorem dX7_elder_85 : decode cX7_elder 85 = .ok (.if_icmp .ne 13, 3) := by decide +kernel
theorem dX7_elder_88 : decode cX7_elder 88 = .ok (.iload 4, 2) := by decide +kernel
theorem dX7_elder_90 : decode cX7_elder 90 = .ok (.iload_n 2, 1) := by decide +kernel
theorem dX7_elder_91 : decode cX7_elder 91 = .ok (.if_icmp .ge 7, 3) := by decide +kernel
theorem dX7_elder_94 : decode cX7_elder 94 = .ok (.iconst 1, 1) := by decide +kernel
theorem dX7_elder_95 : decode cX7_elder 95 = .ok (.goto 4, 3) := by decide +kernel
theorem dX7_elder_98 : decode cX7_elder 98 = .ok (.iconst 0, 1) := by decide +kernel
theorem dX7_elder_99 : decode cX7_elder 99 = .ok (.istore 5, 2) := by decide +kernel
theorem dX7_elder_101 : decode cX7_elder 101 = .ok (.iload_n 3, 1) := by decide +kernel
theorem dX7_elder_102 : decode cX7_elder 102 = .ok (.aload_n 0, 1) := by decide +kernel
theorem dX7_elder_103 : decode cX7_elder 103 = .ok (.getfield 25, 3) := by decide +kernel
theorem dX7_elder_106 : decode cX7_elder 106 = .ok (.bipush 14, 2) := by decide +kernel
theorem dX7_elder_108 : decode cX7_elder 108 = .ok (.iaload, 1) := by decide +kernel
theorem dX7_elder_109 : decode cX7_elder 109 = .ok (.iload 4, 2) := by decide +kernel
theorem dX7_elder_111 : decode cX7_elder 111 = .ok (.invokestatic 124, 3) := by decide +kernel
theorem dX7_elder_114 : decode cX7_elder 114 = .ok (.ifCond .eq 12, 3) := by decide +kernel
theorem dX7_elder_117 : decode cX7_elder 117 = .ok (.iload 5, 2) := by decide +kernel
theorem dX7_elder_119 : decode cX7_elder 119 = .ok (.ifCond .eq 7, 3) := by decide +kernel
theorem dX7_elder_122 : decode cX7_elder 122 = .ok (.iconst 1, 1) := by decide +kernel
theorem dX7_elder_123 : decode cX7_elder 123 = .ok (.goto 4, 3) := by decide +kernel
theorem dX7_elder_126 : decode cX7_elder 126 = .ok (.iconst 0, 1) := by decide +kernel
theorem dX7_elder_127 : decode cX7_elder 127 = .ok (.iadd, 1) := by decide +kernel
theorem dX7_elder_128 : decode cX7_elder 128 = .ok (.istore_n 3, 1) := by decide +kernel
theorem dX7_elder_129 : decode cX7_elder 129 = .ok (.iinc 4 1, 3) := by decide +kernel
theorem dX7_elder_132 : decode cX7_elder 132 = .ok (.goto (-99), 3) := by decide +kernel
theorem dX7_elder_135 : decode cX7_elder 135 = .ok (.aload_n 0, 1) := by decide +kernel
theorem dX7_elder_136 : decode cX7_elder 136 = .ok (.getfield 25, 3) := by decide +kernel
theorem dX7_elder_139 : decode cX7_elder 139 = .ok (.bipush 14, 2) := by decide +kernel
theorem dX7_elder_141 : decode cX7_elder 141 = .ok (.iaload, 1) := by decide +kernel
theorem dX7_elder_142 : decode cX7_elder 142 = .ok (.iload_n 2, 1) := by decide +kernel
theorem dX7_elder_143 : decode cX7_elder 143 = .ok (.invokestatic 124, 3) := by decide +kernel
theorem dX7_elder_146 : decode cX7_elder 146 = .ok (.ifCond .eq 10, 3) := by decide +kernel
theorem dX7_elder_149 : decode cX7_elder 149 = .ok (.iload_n 3, 1) := by decide +kernel
theorem dX7_elder_150 : decode cX7_elder 150 = .ok (.iload_n 1, 1) := by decide +kernel
theorem dX7_elder_151 : decode cX7_elder 151 = .ok (.if_icmp .ne 5, 3) := by decide +kernel
theorem dX7_elder_154 : decode cX7_elder 154 = .ok (.iload_n 2, 1) := by decide +kernel
theorem dX7_elder_155 : decode cX7_elder 155 = .ok (.ireturn, 1) := by decide +kernel
theorem dX7_elder_156 : decode cX7_elder 156 = .ok (.iinc 2 1, 3) := by decide +kernel
theorem dX7_elder_159 : decode cX7_elder 159 = .ok (.goto (-141), 3) := by decide +kernel
theorem dX7_elder_162 : decode cX7_elder 162 = .ok (.bipush (-9), 2) := by decide +kernel
theorem dX7_elder_164 : decode cX7_elder 164 = .ok (.ireturn, 1) := by decide +kernel
theorem dX7_power_0 : decode cX7_power 0 = .ok (.iconst 1, 1) := by decide +kernel
theorem dX7_power_1 : decode cX7_power 1 = .ok (.istore_n 2, 1) := by decide +kernel
theorem dX7_power_2 : decode cX7_power 2 = .ok (.iconst 0, 1) := by decide +kernel
theorem dX7_power_3 : decode cX7_power 3 = .ok (.istore_n 3, 1) := by decide +kernel
theorem dX7_power_4 : decode cX7_power 4 = .ok (.iload_n 3, 1) := by decide +kernel
theorem dX7_power_5 : decode cX7_power 5 = .ok (.iload_n 1, 1) := by decide +kernel
theorem dX7_power_6 : decode cX7_power 6 = .ok (.if_icmp .ge 13, 3) := by decide +kernel
theorem dX7_power_9 : decode cX7_power 9 = .ok (.iload_n 2, 1) := by decide +kernel
theorem dX7_power_10 : decode cX7_power 10 = .ok (.iload_n 0, 1) := by decide +kernel
theorem dX7_power_11 : decode cX7_power 11 = .ok (.imul, 1) := by decide +kernel
theorem dX7_power_12 : decode cX7_power 12 = .ok (.istore_n 2, 1) := by decide +kernel
theorem dX7_power_13 : decode cX7_power 13 = .ok (.iinc 3 1, 3) := by decide +kernel
theorem dX7_power_16 : decode cX7_power 16 = .ok (.goto (-12), 3) := by decide +kernel
theorem dX7_power_19 : decode cX7_power 19 = .ok (.iload_n 2, 1) := by decide +kernel
theorem dX7_power_20 : decode cX7_power 20 = .ok (.ireturn, 1) := by decide +kernel
theorem dX7_gcd_0 : decode cX7_gcd 0 = .ok (.iload_n 0, 1) := by decide +kernel
theorem dX7_gcd_1 : decode cX7_gcd 1 = .ok (.istore_n 2, 1) := by decide +kernel
theorem dX7_gcd_2 : decode cX7_gcd 2 = .ok (.iload_n 1, 1) := by decide +kernel
theorem dX7_gcd_3 : decode cX7_gcd 3 = .ok (.istore_n 3, 1) := by decide +kernel
theorem dX7_gcd_4 : decode cX7_gcd 4 = .ok (.iload_n 3, 1) := by decide +kernel
theorem dX7_gcd_5 : decode cX7_gcd 5 = .ok (.ifCond .eq 16, 3) := by decide +kernel
theorem dX7_gcd_8 : decode cX7_gcd 8 = .ok (.iload_n 2, 1) := by decide +kernel
theorem dX7_gcd_9 : decode cX7_gcd 9 = .ok (.iload_n 3, 1) := by decide +kernel
theorem dX7_gcd_10 : decode cX7_gcd 10 = .ok (.irem, 1) := by decide +kernel
theorem dX7_gcd_11 : decode cX7_gcd 11 = .ok (.istore 4, 2) := by decide +kernel
theorem dX7_gcd_13 : decode cX7_gcd 13 = .ok (.iload_n 3, 1) := by decide +kernel
theorem dX7_gcd_14 : decode cX7_gcd 14 = .ok (.istore_n 2, 1) := by decide +kernel
theorem dX7_gcd_15 : decode cX7_gcd 15 = .ok (.iload 4, 2) := by decide +kernel
theorem dX7_gcd_17 : decode cX7_gcd 17 = .ok (.istore_n 3, 1) := by decide +kernel
theorem dX7_gcd_18 : decode cX7_gcd 18 = .ok (.goto (-14), 3) := by decide +kernel
theorem dX7_gcd_21 : decode cX7_gcd 21 = .ok (.iload_n 2, 1) := by decide +kernel
theorem dX7_gcd_22 : decode cX7_gcd 22 = .ok (.ireturn, 1) := by decide +kernel
theorem dX7_odds_0 : decode cX7_odds 0 = .ok (.aload_n 0, 1) := by decide +kernel
theorem dX7_odds_1 : decode cX7_odds 1 = .ok (.iconst 0, 1) := by decide +kernel
theorem dX7_odds_2 : decode cX7_odds 2 = .ok (.putfield 59, 3) := by decide +kernel
theorem dX7_odds_5 : decode cX7_odds 5 = .ok (.aload_n 0, 1) := by decide +kernel
theorem dX7_odds_6 : decode cX7_odds 6 = .ok (.iload_n 1, 1) := by decide +kernel
theorem dX7_odds_7 : decode cX7_odds 7 = .ok (.invokevirtual 155, 3) := by decide +kernel
theorem dX7_odds_10 : decode cX7_odds 10 = .ok (.ifCond .eq 12, 3) := by decide +kernel
theorem dX7_odds_13 : decode cX7_odds 13 = .ok (.iload_n 2, 1) := by decide +kernel
theorem dX7_odds_14 : decode cX7_odds 14 = .ok (.iconst 0, 1) := by decide +kernel
theorem dX7_odds_15 : decode cX7_odds 15 = .ok (.iconst 1, 1) := by decide +kernel
theorem dX7_odds_16 : decode cX7_odds 16 = .ok (.invokestatic 63, 3) := by decide +kernel
theorem dX7_odds_19 : decode cX7_odds 19 = .ok (.ifCond .ne 5, 3) := by decide +kernel
theorem dX7_odds_22 : decode cX7_odds 22 = .ok (.iconst (-1), 1) := by decide +kernel
theorem dX7_odds_23 : decode cX7_odds 23 = .ok (.ireturn, 1) := by decide +kernel
theorem dX7_odds_24 : decode cX7_odds 24 = .ok (.aload_n 0, 1) := by decide +kernel
theorem dX7_odds_25 : decode cX7_odds 25 = .ok (.getfield 13, 3) := by decide +kernel
theorem dX7_odds_28 : decode cX7_odds 28 = .ok (.iconst 1, 1) := by decide +kernel
theorem dX7_odds_29 : decode cX7_odds 29 = .ok (.iaload, 1) := by decide +kernel
theorem dX7_odds_30 : decode cX7_odds 30 = .ok (.aload_n 0, 1) := by decide +kernel
theorem dX7_odds_31 : decode cX7_odds 31 = .ok (.getfield 25, 3) := by decide +kernel
theorem dX7_odds_34 : decode cX7_odds 34 = .ok (.bipush 13, 2) := by decide +kernel
theorem dX7_odds_36 : decode cX7_odds 36 = .ok (.iaload, 1) := by decide +kernel
theorem dX7_odds_37 : decode cX7_odds 37 = .ok (.invokestatic 128, 3) := by decide +kernel
theorem dX7_odds_40 : decode cX7_odds 40 = .ok (.isub, 1) := by decide +kernel
theorem dX7_odds_41 : decode cX7_odds 41 = .ok (.istore_n 3, 1) := by decide +kernel
theorem dX7_odds_42 : decode cX7_odds 42 = .ok (.iconst 0, 1) := by decide +kernel
theorem dX7_odds_43 : decode cX7_odds 43 = .ok (.istore 4, 2) := by decide +kernel
theorem dX7_odds_45 : decode cX7_odds 45 = .ok (.iconst 0, 1) := by decide +kernel
theorem dX7_odds_46 : decode cX7_odds 46 = .ok (.istore 5, 2) := by decide +kernel
theorem dX7_odds_48 : decode cX7_odds 48 = .ok (.iload 5, 2) := by decide +kernel
theorem dX7_odds_50 : decode cX7_odds 50 = .ok (.aload_n 0, 1) := by decide +kernel
theorem dX7_odds_51 : decode cX7_odds 51 = .ok (.getfield 13, 3) := by decide +kernel
theorem dX7_odds_54 : decode cX7_odds 54 = .ok (.iconst 0, 1) := by decide +kernel
theorem dX7_odds_55 : decode cX7_odds 55 = .ok (.iaload, 1) := by decide +kernel
theorem dX7_odds_56 : decode cX7_odds 56 = .ok (.if_icmp .ge 58, 3) := by decide +kernel
theorem dX7_odds_59 : decode cX7_odds 59 = .ok (.aload_n 0, 1) := by decide +kernel
theorem dX7_odds_60 : decode cX7_odds 60 = .ok (.iload 5, 2) := by decide +kernel
theorem dX7_odds_62 : decode cX7_odds 62 = .ok (.invokevirtual 149, 3) := by decide +kernel
theorem dX7_odds_65 : decode cX7_odds 65 = .ok (.istore 6, 2) := by decide +kernel
theorem dX7_odds_67 : decode cX7_odds 67 = .ok (.iload 4, 2) := by decide +kernel
theorem dX7_odds_69 : decode cX7_odds 69 = .ok (.iload 6, 2) := by decide +kernel
theorem dX7_odds_71 : decode cX7_odds 71 = .ok (.aload_n 0, 1) := by decide +kernel
theorem dX7_odds_72 : decode cX7_odds 72 = .ok (.getfield 13, 3) := by decide +kernel
theorem dX7_odds_75 : decode cX7_odds 75 = .ok (.iconst 3, 1) := by decide +kernel
theorem dX7_odds_76 : decode cX7_odds 76 = .ok (.iaload, 1) := by decide +kernel
theorem dX7_odds_77 : decode cX7_odds 77 = .ok (.if_icmp .ge 27, 3) := by decide +kernel
theorem dX7_odds_80 : decode cX7_odds 80 = .ok (.iload 6, 2) := by decide +kernel
theorem dX7_odds_82 : decode cX7_odds 82 = .ok (.aload_n 0, 1) := by decide +kernel
theorem dX7_odds_83 : decode cX7_odds 83 = .ok (.getfield 19, 3) := by decide +kernel
theorem dX7_odds_86 : decode cX7_odds 86 = .ok (.iload_n 1, 1) := by decide +kernel
theorem dX7_odds_87 : decode cX7_odds 87 = .ok (.iaload, 1) := by decide +kernel
theorem dX7_odds_88 : decode cX7_odds 88 = .ok (.aload_n 0, 1) := by decide +kernel
theorem dX7_odds_89 : decode cX7_odds 89 = .ok (.getfield 22, 3) := by decide +kernel
theorem dX7_odds_92 : decode cX7_odds 92 = .ok (.iload_n 1, 1) := by decide +kernel
theorem dX7_odds_93 : decode cX7_odds 93 = .ok (.iaload, 1) := by decide +kernel
theorem dX7_odds_94 : decode cX7_odds 94 = .ok (.invokestatic 63, 3) := by decide +kernel
theorem dX7_odds_97 : decode cX7_odds 97 = .ok (.ifCond .eq 7, 3) := by decide +kernel
theorem dX7_odds_100 : decode cX7_odds 100 = .ok (.iconst 0, 1) := by decide +kernel
theorem dX7_odds_101 : decode cX7_odds 101 = .ok (.goto 4, 3) := by decide +kernel
theorem dX7_odds_104 : decode cX7_odds 104 = .ok (.iconst 1, 1) := by decide +kernel
theorem dX7_odds_105 : decode cX7_odds 105 = .ok (.iadd, 1) := by decide +kernel
theorem dX7_odds_106 : decode cX7_odds 106 = .ok (.istore 4, 2) := by decide +kernel
theorem dX7_odds_108 : decode cX7_odds 108 = .ok (.iinc 5 1, 3) := by decide +kernel
theorem dX7_odds_111 : decode cX7_odds 111 = .ok (.goto (-63), 3) := by decide +kernel
theorem dX7_odds_114 : decode cX7_odds 114 = .ok (.aload_n 0, 1) := by decide +kernel
theorem dX7_odds_115 : decode cX7_odds 115 = .ok (.getfield 13, 3) := by decide +kernel
theorem dX7_odds_118 : decode cX7_odds 118 = .ok (.iconst 0, 1) := by decide +kernel
theorem dX7_odds_119 : decode cX7_odds 119 = .ok (.iaload, 1) := by decide +kernel
theorem dX7_odds_120 : decode cX7_odds 120 = .ok (.ifCond .ne 7, 3) := by decide +kernel
theorem dX7_odds_123 : decode cX7_odds 123 = .ok (.iconst 1, 1) := by decide +kernel
theorem dX7_odds_124 : decode cX7_odds 124 = .ok (.goto 13, 3) := by decide +kernel
theorem dX7_odds_127 : decode cX7_odds 127 = .ok (.aload_n 0, 1) := by decide +kernel
theorem dX7_odds_128 : decode cX7_odds 128 = .ok (.getfield 13, 3) := by decide +kernel
theorem dX7_odds_131 : decode cX7_odds 131 = .ok (.iconst 0, 1) := by decide +kernel
theorem dX7_odds_132 : decode cX7_odds 132 = .ok (.iaload, 1) := by decide +kernel
theorem dX7_odds_133 : decode cX7_odds 133 = .ok (.iload_n 3, 1) := by decide +kernel
theorem dX7_odds_134 : decode cX7_odds 134 = .ok (.invokestatic 180, 3) := by decide +kernel
theorem dX7_odds_137 : decode cX7_odds 137 = .ok (.istore 5, 2) := by decide +kernel
theorem dX7_odds_139 : decode cX7_odds 139 = .ok (.aload_n 0, 1) := by decide +kernel
theorem dX7_odds_140 : decode cX7_odds 140 = .ok (.getfield 13, 3) := by decide +kernel
theorem dX7_odds_143 : decode cX7_odds 143 = .ok (.iconst 0, 1) := by decide +kernel
theorem dX7_odds_144 : decode cX7_odds 144 = .ok (.iaload, 1) := by decide +kernel
theorem dX7_odds_145 : decode cX7_odds 145 = .ok (.ifCond .ne 7, 3) := by decide +kernel
theorem dX7_odds_148 : decode cX7_odds 148 = .ok (.iconst 0, 1) := by decide +kernel
theorem dX7_odds_149 : decode cX7_odds 149 = .ok (.goto 12, 3) := by decide +kernel
theorem dX7_odds_152 : decode cX7_odds 152 = .ok (.iload 5, 2) := by decide +kernel
theorem dX7_odds_154 : decode cX7_odds 154 = .ok (.iload 4, 2) := by decide +kernel
theorem dX7_odds_156 : decode cX7_odds 156 = .ok (.iload_n 3, 1) := by decide +kernel
theorem dX7_odds_157 : decode cX7_odds 157 = .ok (.invokestatic 180, 3) := by decide +kernel
theorem dX7_odds_160 : decode cX7_odds 160 = .ok (.isub, 1) := by decide +kernel
theorem dX7_odds_161 : decode cX7_odds 161 = .ok (.istore 6, 2) := by decide +kernel
theorem dX7_odds_163 : decode cX7_odds 163 = .ok (.iload 6, 2) := by decide +kernel
theorem dX7_odds_165 : decode cX7_odds 165 = .ok (.iload 5, 2) := by decide +kernel
theorem dX7_odds_167 : decode cX7_odds 167 = .ok (.invokestatic 183, 3) := by decide +kernel
theorem dX7_odds_170 : decode cX7_odds 170 = .ok (.istore 7, 2) := by decide +kernel
theorem dX7_odds_172 : decode cX7_odds 172 = .ok (.iload_n 2, 1) := by decide +kernel
theorem dX7_odds_173 : decode cX7_odds 173 = .ok (.ifCond .ne 11, 3) := by decide +kernel
theorem dX7_odds_176 : decode cX7_odds 176 = .ok (.iload 6, 2) := by decide +kernel
theorem dX7_odds_178 : decode cX7_odds 178 = .ok (.iload 7, 2) := by decide +kernel
theorem dX7_odds_180 : decode cX7_odds 180 = .ok (.idiv, 1) := by decide +kernel
theorem dX7_odds_181 : decode cX7_odds 181 = .ok (.goto 8, 3) := by decide +kernel
theorem dX7_odds_184 : decode cX7_odds 184 = .ok (.iload 5, 2) := by decide +kernel
theorem dX7_odds_186 : decode cX7_odds 186 = .ok (.iload 7, 2) := by decide +kernel
theorem dX7_odds_188 : decode cX7_odds 188 = .ok (.idiv, 1) := by decide +kernel
theorem dX7_odds_189 : decode cX7_odds 189 = .ok (.ireturn, 1) := by decide +kernel
theorem dX7_sees_0 : decode cX7_sees 0 = .ok (.aload_n 0, 1) := by decide +kernel
theorem dX7_sees_1 : decode cX7_sees 1 = .ok (.iconst 0, 1) := by decide +kernel
theorem dX7_sees_2 : decode cX7_sees 2 = .ok (.putfield 59, 3) := by decide +kernel
theorem dX7_sees_5 : decode cX7_sees 5 = .ok (.aload_n 0, 1) := by decide +kernel
theorem dX7_sees_6 : decode cX7_sees 6 = .ok (.iload_n 1, 1) := by decide +kernel
theorem dX7_sees_7 : decode cX7_sees 7 = .ok (.invokevirtual 155, 3) := by decide +kernel
theorem dX7_sees_10 : decode cX7_sees 10 = .ok (.ifCond .eq 12, 3) := by decide +kernel
theorem dX7_sees_13 : decode cX7_sees 13 = .ok (.iload_n 2, 1) := by decide +kernel
theorem dX7_sees_14 : decode cX7_sees 14 = .ok (.iconst 0, 1) := by decide +kernel
theorem dX7_sees_15 : decode cX7_sees 15 = .ok (.iconst 1, 1) := by decide +kernel
theorem dX7_sees_16 : decode cX7_sees 16 = .ok (.invokestatic 63, 3) := by decide +kernel
theorem dX7_sees_19 : decode cX7_sees 19 = .ok (.ifCond .ne 5, 3) := by decide +kernel
theorem dX7_sees_22 : decode cX7_sees 22 = .ok (.iconst (-1), 1) := by decide +kernel
theorem dX7_sees_23 : decode cX7_sees 23 = .ok (.ireturn, 1) := by decide +kernel
theorem dX7_sees_24 : decode cX7_sees 24 = .ok (.aload_n 0, 1) := by decide +kernel
theorem dX7_sees_25 : decode cX7_sees 25 = .ok (.getfield 118, 3) := by decide +kernel
theorem dX7_sees_28 : decode cX7_sees 28 = .ok (.bipush 6, 2) := by decide +kernel
theorem dX7_sees_30 : decode cX7_sees 30 = .ok (.if_icmp .ne 6, 3) := by decide +kernel
theorem dX7_sees_33 : decode cX7_sees 33 = .ok (.bipush (-3), 2) := by decide +kernel
theorem dX7_sees_35 : decode cX7_sees 35 = .ok (.ireturn, 1) := by decide +kernel
theorem dX7_sees_36 : decode cX7_sees 36 = .ok (.aload_n 0, 1) := by decide +kernel
theorem dX7_sees_37 : decode cX7_sees 37 = .ok (.getfield 38, 3) := by decide +kernel
theorem dX7_sees_40 : decode cX7_sees 40 = .ok (.aload_n 0, 1) := by decide +kernel
theorem dX7_sees_41 : decode cX7_sees 41 = .ok (.getfield 118, 3) := by decide +kernel
theorem dX7_sees_44 : decode cX7_sees 44 = .ok (.iload_n 1, 1) := by decide +kernel
theorem dX7_sees_45 : decode cX7_sees 45 = .ok (.iastore, 1) := by decide +kernel
theorem dX7_sees_46 : decode cX7_sees 46 = .ok (.aload_n 0, 1) := by decide +kernel
theorem dX7_sees_47 : decode cX7_sees 47 = .ok (.getfield 41, 3) := by decide +kernel
theorem dX7_sees_50 : decode cX7_sees 50 = .ok (.aload_n 0, 1) := by decide +kernel
theorem dX7_sees_51 : decode cX7_sees 51 = .ok (.getfield 118, 3) := by decide +kernel
theorem dX7_sees_54 : decode cX7_sees 54 = .ok (.iload_n 2, 1) := by decide +kernel
theorem dX7_sees_55 : decode cX7_sees 55 = .ok (.iastore, 1) := by decide +kernel
theorem dX7_sees_56 : decode cX7_sees 56 = .ok (.aload_n 0, 1) := by decide +kernel
theorem dX7_sees_57 : decode cX7_sees 57 = .ok (.dup, 1) := by decide +kernel
theorem dX7_sees_58 : decode cX7_sees 58 = .ok (.getfield 118, 3) := by decide +kernel
theorem dX7_sees_61 : decode cX7_sees 61 = .ok (.iconst 1, 1) := by decide +kernel
theorem dX7_sees_62 : decode cX7_sees 62 = .ok (.iadd, 1) := by decide +kernel
theorem dX7_sees_63 : decode cX7_sees 63 = .ok (.putfield 118, 3) := by decide +kernel
theorem dX7_sees_66 : decode cX7_sees 66 = .ok (.aload_n 0, 1) := by decide +kernel
theorem dX7_sees_67 : decode cX7_sees 67 = .ok (.getfield 118, 3) := by decide +kernel
theorem dX7_sees_70 : decode cX7_sees 70 = .ok (.ireturn, 1) := by decide +kernel
theorem dX7_forget_0 : decode cX7_forget 0 = .ok (.aload_n 0, 1) := by decide +kernel
theorem dX7_forget_1 : decode cX7_forget 1 = .ok (.iconst 0, 1) := by decide +kernel
theorem dX7_forget_2 : decode cX7_forget 2 = .ok (.putfield 59, 3) := by decide +kernel
theorem dX7_forget_5 : decode cX7_forget 5 = .ok (.aload_n 0, 1) := by decide +kernel
theorem dX7_forget_6 : decode cX7_forget 6 = .ok (.getfield 118, 3) := by decide +kernel
theorem dX7_forget_9 : decode cX7_forget 9 = .ok (.istore_n 1, 1) := by decide +kernel
theorem dX7_forget_10 : decode cX7_forget 10 = .ok (.aload_n 0, 1) := by decide +kernel
theorem dX7_forget_11 : decode cX7_forget 11 = .ok (.iconst 0, 1) := by decide +kernel
theorem dX7_forget_12 : decode cX7_forget 12 = .ok (.putfield 118, 3) := by decide +kernel
theorem dX7_forget_15 : decode cX7_forget 15 = .ok (.iload_n 1, 1) := by decide +kernel
theorem dX7_forget_16 : decode cX7_forget 16 = .ok (.ireturn, 1) := by decide +kernel
theorem dX7_canBe_0 : decode cX7_canBe 0 = .ok (.iconst 1, 1) := by decide +kernel
theorem dX7_canBe_1 : decode cX7_canBe 1 = .ok (.istore_n 2, 1) := by decide +kernel
theorem dX7_canBe_2 : decode cX7_canBe 2 = .ok (.iconst 0, 1) := by decide +kernel
theorem dX7_canBe_3 : decode cX7_canBe 3 = .ok (.istore_n 3, 1) := by decide +kernel
theorem dX7_canBe_4 : decode cX7_canBe 4 = .ok (.iload_n 3, 1) := by decide +kernel
theorem dX7_canBe_5 : decode cX7_canBe 5 = .ok (.aload_n 0, 1) := by decide +kernel
theorem dX7_canBe_6 : decode cX7_canBe 6 = .ok (.getfield 118, 3) := by decide +kernel
theorem dX7_canBe_9 : decode cX7_canBe 9 = .ok (.if_icmp .ge 42, 3) := by decide +kernel
theorem dX7_canBe_12 : decode cX7_canBe 12 = .ok (.iload_n 2, 1) := by decide +kernel
theorem dX7_canBe_13 : decode cX7_canBe 13 = .ok (.ifCond .eq 30, 3) := by decide +kernel
theorem dX7_canBe_16 : decode cX7_canBe 16 = .ok (.aload_n 0, 1) := by decide +kernel
theorem dX7_canBe_17 : decode cX7_canBe 17 = .ok (.iload_n 1, 1) := by decide +kernel
theorem dX7_canBe_18 : decode cX7_canBe 18 = .ok (.invokevirtual 137, 3) := by decide +kernel
theorem dX7_canBe_21 : decode cX7_canBe 21 = .ok (.aload_n 0, 1) := by decide +kernel
theorem dX7_canBe_22 : decode cX7_canBe 22 = .ok (.getfield 38, 3) := by decide +kernel
theorem dX7_canBe_25 : decode cX7_canBe 25 = .ok (.iload_n 3, 1) := by decide +kernel
theorem dX7_canBe_26 : decode cX7_canBe 26 = .ok (.iaload, 1) := by decide +kernel
theorem dX7_canBe_27 : decode cX7_canBe 27 = .ok (.ishr, 1) := by decide +kernel
theorem dX7_canBe_28 : decode cX7_canBe 28 = .ok (.iconst 1, 1) := by decide +kernel
theorem dX7_canBe_29 : decode cX7_canBe 29 = .ok (.iand, 1) := by decide +kernel
theorem dX7_canBe_30 : decode cX7_canBe 30 = .ok (.aload_n 0, 1) := by decide +kernel
theorem dX7_canBe_31 : decode cX7_canBe 31 = .ok (.getfield 41, 3) := by decide +kernel
theorem dX7_canBe_34 : decode cX7_canBe 34 = .ok (.iload_n 3, 1) := by decide +kernel
theorem dX7_canBe_35 : decode cX7_canBe 35 = .ok (.iaload, 1) := by decide +kernel
theorem dX7_canBe_36 : decode cX7_canBe 36 = .ok (.if_icmp .ne 7, 3) := by decide +kernel
theorem dX7_canBe_39 : decode cX7_canBe 39 = .ok (.iconst 1, 1) := by decide +kernel
theorem dX7_canBe_40 : decode cX7_canBe 40 = .ok (.goto 4, 3) := by decide +kernel
theorem dX7_canBe_43 : decode cX7_canBe 43 = .ok (.iconst 0, 1) := by decide +kernel
theorem dX7_canBe_44 : decode cX7_canBe 44 = .ok (.istore_n 2, 1) := by decide +kernel
theorem dX7_canBe_45 : decode cX7_canBe 45 = .ok (.iinc 3 1, 3) := by decide +kernel
theorem dX7_canBe_48 : decode cX7_canBe 48 = .ok (.goto (-44), 3) := by decide +kernel
theorem dX7_canBe_51 : decode cX7_canBe 51 = .ok (.iload_n 2, 1) := by decide +kernel
theorem dX7_canBe_52 : decode cX7_canBe 52 = .ok (.ireturn, 1) := by decide +kernel
theorem dX7_ages_0 : decode cX7_ages 0 = .ok (.aload_n 0, 1) := by decide +kernel
theorem dX7_ages_1 : decode cX7_ages 1 = .ok (.iconst 0, 1) := by decide +kernel
theorem dX7_ages_2 : decode cX7_ages 2 = .ok (.putfield 59, 3) := by decide +kernel
theorem dX7_ages_5 : decode cX7_ages 5 = .ok (.iload_n 1, 1) := by decide +kernel
theorem dX7_ages_6 : decode cX7_ages 6 = .ok (.iconst 0, 1) := by decide +kernel
theorem dX7_ages_7 : decode cX7_ages 7 = .ok (.iconst 2, 1) := by decide +kernel
theorem dX7_ages_8 : decode cX7_ages 8 = .ok (.invokestatic 63, 3) := by decide +kernel
theorem dX7_ages_11 : decode cX7_ages 11 = .ok (.ifCond .ne 5, 3) := by decide +kernel
theorem dX7_ages_14 : decode cX7_ages 14 = .ok (.iconst (-1), 1) := by decide +kernel
theorem dX7_ages_15 : decode cX7_ages 15 = .ok (.ireturn, 1) := by decide +kernel
theorem dX7_ages_16 : decode cX7_ages 16 = .ok (.iconst 0, 1) := by decide +kernel
theorem dX7_ages_17 : decode cX7_ages 17 = .ok (.istore_n 2, 1) := by decide +kernel
theorem dX7_ages_18 : decode cX7_ages 18 = .ok (.bipush (-9), 2) := by decide +kernel
theorem dX7_ages_20 : decode cX7_ages 20 = .ok (.istore_n 3, 1) := by decide +kernel
theorem dX7_ages_21 : decode cX7_ages 21 = .ok (.bipush (-9), 2) := by decide +kernel
theorem dX7_ages_23 : decode cX7_ages 23 = .ok (.istore 4, 2) := by decide +kernel
theorem dX7_ages_25 : decode cX7_ages 25 = .ok (.iconst 0, 1) := by decide +kernel
theorem dX7_ages_26 : decode cX7_ages 26 = .ok (.istore 5, 2) := by decide +kernel
theorem dX7_ages_28 : decode cX7_ages 28 = .ok (.iload 5, 2) := by decide +kernel
theorem dX7_ages_30 : decode cX7_ages 30 = .ok (.bipush 100, 2) := by decide +kernel
theorem dX7_ages_32 : decode cX7_ages 32 = .ok (.if_icmp .ge 36, 3) := by decide +kernel
theorem dX7_ages_35 : decode cX7_ages 35 = .ok (.aload_n 0, 1) := by decide +kernel
theorem dX7_ages_36 : decode cX7_ages 36 = .ok (.iload 5, 2) := by decide +kernel
theorem dX7_ages_38 : decode cX7_ages 38 = .ok (.invokevirtual 186, 3) := by decide +kernel
theorem dX7_ages_41 : decode cX7_ages 41 = .ok (.ifCond .eq 21, 3) := by decide +kernel
theorem dX7_ages_44 : decode cX7_ages 44 = .ok (.iload_n 2, 1) := by decide +kernel
theorem dX7_ages_45 : decode cX7_ages 45 = .ok (.ifCond .ne 8, 3) := by decide +kernel
theorem dX7_ages_48 : decode cX7_ages 48 = .ok (.iload 5, 2) := by decide +kernel
theorem dX7_ages_50 : decode cX7_ages 50 = .ok (.goto 4, 3) := by decide +kernel
theorem dX7_ages_53 : decode cX7_ages 53 = .ok (.iload_n 3, 1) := by decide +kernel
theorem dX7_ages_54 : decode cX7_ages 54 = .ok (.istore_n 3, 1) := by decide +kernel
theorem dX7_ages_55 : decode cX7_ages 55 = .ok (.iload 5, 2) := by decide +kernel
theorem dX7_ages_57 : decode cX7_ages 57 = .ok (.istore 4, 2) := by decide +kernel
theorem dX7_ages_59 : decode cX7_ages 59 = .ok (.iinc 2 1, 3) := by decide +kernel
theorem dX7_ages_62 : decode cX7_ages 62 = .ok (.iinc 5 1, 3) := by decide +kernel
theorem dX7_ages_65 : decode cX7_ages 65 = .ok (.goto (-37), 3) := by decide +kernel
theorem dX7_ages_68 : decode cX7_ages 68 = .ok (.iload_n 1, 1) := by decide +kernel
theorem dX7_ages_69 : decode cX7_ages 69 = .ok (.ifCond .ne 7, 3) := by decide +kernel
theorem dX7_ages_72 : decode cX7_ages 72 = .ok (.iload_n 2, 1) := by decide +kernel
theorem dX7_ages_73 : decode cX7_ages 73 = .ok (.goto 14, 3) := by decide +kernel
theorem dX7_ages_76 : decode cX7_ages 76 = .ok (.iload_n 1, 1) := by decide +kernel
theorem dX7_ages_77 : decode cX7_ages 77 = .ok (.iconst 1, 1) := by decide +kernel
theorem dX7_ages_78 : decode cX7_ages 78 = .ok (.if_icmp .ne 7, 3) := by decide +kernel
theorem dX7_ages_81 : decode cX7_ages 81 = .ok (.iload_n 3, 1) := by decide +kernel
theorem dX7_ages_82 : decode cX7_ages 82 = .ok (.goto 5, 3) := by decide +kernel
theorem dX7_ages_85 : decode cX7_ages 85 = .ok (.iload 4, 2) := by decide +kernel
theorem dX7_ages_87 : decode cX7_ages 87 = .ok (.ireturn, 1) := by decide +kernel
theorem dX7_next_0 : decode cX7_next 0 = .ok (.aload_n 0, 1) := by decide +kernel
theorem dX7_next_1 : decode cX7_next 1 = .ok (.iconst 0, 1) := by decide +kernel
theorem dX7_next_2 : decode cX7_next 2 = .ok (.putfield 59, 3) := by decide +kernel
theorem dX7_next_5 : decode cX7_next 5 = .ok (.bipush (-9), 2) := by decide +kernel
theorem dX7_next_7 : decode cX7_next 7 = .ok (.istore_n 1, 1) := by decide +kernel
theorem dX7_next_8 : decode cX7_next 8 = .ok (.bipush 101, 2) := by decide +kernel
theorem dX7_next_10 : decode cX7_next 10 = .ok (.istore_n 2, 1) := by decide +kernel
theorem dX7_next_11 : decode cX7_next 11 = .ok (.iconst 0, 1) := by decide +kernel
theorem dX7_next_12 : decode cX7_next 12 = .ok (.istore_n 3, 1) := by decide +kernel
theorem dX7_next_13 : decode cX7_next 13 = .ok (.iconst 0, 1) := by decide +kernel
theorem dX7_next_14 : decode cX7_next 14 = .ok (.istore 4, 2) := by decide +kernel
theorem dX7_next_16 : decode cX7_next 16 = .ok (.iload 4, 2) := by decide +kernel
theorem dX7_next_18 : decode cX7_next 18 = .ok (.aload_n 0, 1) := by decide +kernel
theorem dX7_next_19 : decode cX7_next 19 = .ok (.getfield 13, 3) := by decide +kernel
theorem dX7_next_22 : decode cX7_next 22 = .ok (.iconst 2, 1) := by decide +kernel
theorem dX7_next_23 : decode cX7_next 23 = .ok (.iaload, 1) := by decide +kernel
theorem dX7_next_24 : decode cX7_next 24 = .ok (.if_icmp .ge 126, 3) := by decide +kernel
theorem dX7_next_27 : decode cX7_next 27 = .ok (.iconst 0, 1) := by decide +kernel
theorem dX7_next_28 : decode cX7_next 28 = .ok (.istore 5, 2) := by decide +kernel
theorem dX7_next_30 : decode cX7_next 30 = .ok (.iconst 0, 1) := by decide +kernel
theorem dX7_next_31 : decode cX7_next 31 = .ok (.istore_n 3, 1) := by decide +kernel
theorem dX7_next_32 : decode cX7_next 32 = .ok (.iconst 0, 1) := by decide +kernel
theorem dX7_next_33 : decode cX7_next 33 = .ok (.istore 6, 2) := by decide +kernel
theorem dX7_next_35 : decode cX7_next 35 = .ok (.iload 6, 2) := by decide +kernel
theorem dX7_next_37 : decode cX7_next 37 = .ok (.bipush 100, 2) := by decide +kernel
theorem dX7_next_39 : decode cX7_next 39 = .ok (.if_icmp .ge 59, 3) := by decide +kernel
theorem dX7_next_42 : decode cX7_next 42 = .ok (.iload_n 3, 1) := by decide +kernel
theorem dX7_next_43 : decode cX7_next 43 = .ok (.aload_n 0, 1) := by decide +kernel
theorem dX7_next_44 : decode cX7_next 44 = .ok (.iload 6, 2) := by decide +kernel
theorem dX7_next_46 : decode cX7_next 46 = .ok (.invokevirtual 186, 3) := by decide +kernel
theorem dX7_next_49 : decode cX7_next 49 = .ok (.ifCond .eq 7, 3) := by decide +kernel
theorem dX7_next_52 : decode cX7_next 52 = .ok (.iconst 1, 1) := by decide +kernel
theorem dX7_next_53 : decode cX7_next 53 = .ok (.goto 4, 3) := by decide +kernel
theorem dX7_next_56 : decode cX7_next 56 = .ok (.iconst 0, 1) := by decide +kernel
theorem dX7_next_57 : decode cX7_next 57 = .ok (.iadd, 1) := by decide +kernel
theorem dX7_next_58 : decode cX7_next 58 = .ok (.istore_n 3, 1) := by decide +kernel
theorem dX7_next_59 : decode cX7_next 59 = .ok (.iload 5, 2) := by decide +kernel
theorem dX7_next_61 : decode cX7_next 61 = .ok (.aload_n 0, 1) := by decide +kernel
theorem dX7_next_62 : decode cX7_next 62 = .ok (.iload 6, 2) := by decide +kernel
theorem dX7_next_64 : decode cX7_next 64 = .ok (.invokevirtual 186, 3) := by decide +kernel
theorem dX7_next_67 : decode cX7_next 67 = .ok (.ifCond .eq 21, 3) := by decide +kernel
theorem dX7_next_70 : decode cX7_next 70 = .ok (.aload_n 0, 1) := by decide +kernel
theorem dX7_next_71 : decode cX7_next 71 = .ok (.iload 6, 2) := by decide +kernel
theorem dX7_next_73 : decode cX7_next 73 = .ok (.invokevirtual 137, 3) := by decide +kernel
theorem dX7_next_76 : decode cX7_next 76 = .ok (.iload 4, 2) := by decide +kernel
theorem dX7_next_78 : decode cX7_next 78 = .ok (.invokestatic 124, 3) := by decide +kernel
theorem dX7_next_81 : decode cX7_next 81 = .ok (.ifCond .eq 7, 3) := by decide +kernel
theorem dX7_next_84 : decode cX7_next 84 = .ok (.iconst 1, 1) := by decide +kernel
theorem dX7_next_85 : decode cX7_next 85 = .ok (.goto 4, 3) := by decide +kernel
theorem dX7_next_88 : decode cX7_next 88 = .ok (.iconst 0, 1) := by decide +kernel
theorem dX7_next_89 : decode cX7_next 89 = .ok (.iadd, 1) := by decide +kernel
theorem dX7_next_90 : decode cX7_next 90 = .ok (.istore 5, 2) := by decide +kernel
theorem dX7_next_92 : decode cX7_next 92 = .ok (.iinc 6 1, 3) := by decide +kernel
theorem dX7_next_95 : decode cX7_next 95 = .ok (.goto (-60), 3) := by decide +kernel
theorem dX7_next_98 : decode cX7_next 98 = .ok (.iload 5, 2) := by decide +kernel
theorem dX7_next_100 : decode cX7_next 100 = .ok (.iload_n 3, 1) := by decide +kernel
theorem dX7_next_101 : decode cX7_next 101 = .ok (.iload 5, 2) := by decide +kernel
theorem dX7_next_103 : decode cX7_next 103 = .ok (.isub, 1) := by decide +kernel
theorem dX7_next_104 : decode cX7_next 104 = .ok (.if_icmp .le 8, 3) := by decide +kernel
theorem dX7_next_107 : decode cX7_next 107 = .ok (.iload 5, 2) := by decide +kernel
theorem dX7_next_109 : decode cX7_next 109 = .ok (.goto 7, 3) := by decide +kernel
theorem dX7_next_112 : decode cX7_next 112 = .ok (.iload_n 3, 1) := by decide +kernel
theorem dX7_next_113 : decode cX7_next 113 = .ok (.iload 5, 2) := by decide +kernel
theorem dX7_next_115 : decode cX7_next 115 = .ok (.isub, 1) := by decide +kernel
theorem dX7_next_116 : decode cX7_next 116 = .ok (.istore 6, 2) := by decide +kernel
theorem dX7_next_118 : decode cX7_next 118 = .ok (.iload 6, 2) := by decide +kernel
theorem dX7_next_120 : decode cX7_next 120 = .ok (.iload_n 2, 1) := by decide +kernel
theorem dX7_next_121 : decode cX7_next 121 = .ok (.if_icmp .ge 8, 3) := by decide +kernel
theorem dX7_next_124 : decode cX7_next 124 = .ok (.iload 4, 2) := by decide +kernel
theorem dX7_next_126 : decode cX7_next 126 = .ok (.goto 4, 3) := by decide +kernel
theorem dX7_next_129 : decode cX7_next 129 = .ok (.iload_n 1, 1) := by decide +kernel
theorem dX7_next_130 : decode cX7_next 130 = .ok (.istore_n 1, 1) := by decide +kernel
theorem dX7_next_131 : decode cX7_next 131 = .ok (.iload 6, 2) := by decide +kernel
theorem dX7_next_133 : decode cX7_next 133 = .ok (.iload_n 2, 1) := by decide +kernel
theorem dX7_next_134 : decode cX7_next 134 = .ok (.if_icmp .ge 8, 3) := by decide +kernel
theorem dX7_next_137 : decode cX7_next 137 = .ok (.iload 6, 2) := by decide +kernel
theorem dX7_next_139 : decode cX7_next 139 = .ok (.goto 4, 3) := by decide +kernel
theorem dX7_next_142 : decode cX7_next 142 = .ok (.iload_n 2, 1) := by decide +kernel
theorem dX7_next_143 : decode cX7_next 143 = .ok (.istore_n 2, 1) := by decide +kernel
theorem dX7_next_144 : decode cX7_next 144 = .ok (.iinc 4 1, 3) := by decide +kernel
theorem dX7_next_147 : decode cX7_next 147 = .ok (.goto (-131), 3) := by decide +kernel
theorem dX7_next_150 : decode cX7_next 150 = .ok (.iload_n 3, 1) := by decide +kernel
theorem dX7_next_151 : decode cX7_next 151 = .ok (.iconst 2, 1) := by decide +kernel
theorem dX7_next_152 : decode cX7_next 152 = .ok (.if_icmp .ge 8, 3) := by decide +kernel
theorem dX7_next_155 : decode cX7_next 155 = .ok (.bipush (-9), 2) := by decide +kernel
theorem dX7_next_157 : decode cX7_next 157 = .ok (.goto 4, 3) := by decide +kernel
theorem dX7_next_160 : decode cX7_next 160 = .ok (.iload_n 1, 1) := by decide +kernel
theorem dX7_next_161 : decode cX7_next 161 = .ok (.ireturn, 1) := by decide +kernel
theorem dX7_rate_0 : decode cX7_rate 0 = .ok (.aload_n 0, 1) := by decide +kernel
theorem dX7_rate_1 : decode cX7_rate 1 = .ok (.iconst 0, 1) := by decide +kernel
theorem dX7_rate_2 : decode cX7_rate 2 = .ok (.putfield 59, 3) := by decide +kernel
theorem dX7_rate_5 : decode cX7_rate 5 = .ok (.iload_n 1, 1) := by decide +kernel
theorem dX7_rate_6 : decode cX7_rate 6 = .ok (.iconst 0, 1) := by decide +kernel
theorem dX7_rate_7 : decode cX7_rate 7 = .ok (.iconst 5, 1) := by decide +kernel
theorem dX7_rate_8 : decode cX7_rate 8 = .ok (.invokestatic 63, 3) := by decide +kernel
theorem dX7_rate_11 : decode cX7_rate 11 = .ok (.ifCond .eq 11, 3) := by decide +kernel
theorem dX7_rate_14 : decode cX7_rate 14 = .ok (.aload_n 0, 1) := by decide +kernel
theorem dX7_rate_15 : decode cX7_rate 15 = .ok (.iload_n 2, 1) := by decide +kernel
theorem dX7_rate_16 : decode cX7_rate 16 = .ok (.invokevirtual 152, 3) := by decide +kernel
theorem dX7_rate_19 : decode cX7_rate 19 = .ok (.ifCond .ne 6, 3) := by decide +kernel
theorem dX7_rate_22 : decode cX7_rate 22 = .ok (.ldc 189, 2) := by decide +kernel
theorem dX7_rate_24 : decode cX7_rate 24 = .ok (.ireturn, 1) := by decide +kernel
theorem dX7_rate_25 : decode cX7_rate 25 = .ok (.aload_n 0, 1) := by decide +kernel
theorem dX7_rate_26 : decode cX7_rate 26 = .ok (.getfield 25, 3) := by decide +kernel
theorem dX7_rate_29 : decode cX7_rate 29 = .ok (.bipush 14, 2) := by decide +kernel
theorem dX7_rate_31 : decode cX7_rate 31 = .ok (.iaload, 1) := by decide +kernel
theorem dX7_rate_32 : decode cX7_rate 32 = .ok (.iload_n 2, 1) := by decide +kernel
theorem dX7_rate_33 : decode cX7_rate 33 = .ok (.invokestatic 124, 3) := by decide +kernel
theorem dX7_rate_36 : decode cX7_rate 36 = .ok (.ifCond .eq 15, 3) := by decide +kernel
theorem dX7_rate_39 : decode cX7_rate 39 = .ok (.aload_n 0, 1) := by decide +kernel
theorem dX7_rate_40 : decode cX7_rate 40 = .ok (.getfield 25, 3) := by decide +kernel
theorem dX7_rate_43 : decode cX7_rate 43 = .ok (.bipush 15, 2) := by decide +kernel
theorem dX7_rate_45 : decode cX7_rate 45 = .ok (.iload_n 2, 1) := by decide +kernel
theorem dX7_rate_46 : decode cX7_rate 46 = .ok (.iadd, 1) := by decide +kernel
theorem dX7_rate_47 : decode cX7_rate 47 = .ok (.iaload, 1) := by decide +kernel
theorem dX7_rate_48 : decode cX7_rate 48 = .ok (.goto 4, 3) := by decide +kernel
theorem dX7_rate_51 : decode cX7_rate 51 = .ok (.iconst 0, 1) := by decide +kernel
theorem dX7_rate_52 : decode cX7_rate 52 = .ok (.istore_n 3, 1) := by decide +kernel
theorem dX7_rate_53 : decode cX7_rate 53 = .ok (.iload_n 3, 1) := by decide +kernel
theorem dX7_rate_54 : decode cX7_rate 54 = .ok (.aload_n 0, 1) := by decide +kernel
theorem dX7_rate_55 : decode cX7_rate 55 = .ok (.getfield 25, 3) := by decide +kernel
theorem dX7_rate_58 : decode cX7_rate 58 = .ok (.iconst 0, 1) := by decide +kernel
theorem dX7_rate_59 : decode cX7_rate 59 = .ok (.iaload, 1) := by decide +kernel
theorem dX7_rate_60 : decode cX7_rate 60 = .ok (.iadd, 1) := by decide +kernel
theorem dX7_rate_61 : decode cX7_rate 61 = .ok (.istore 4, 2) := by decide +kernel
theorem dX7_rate_63 : decode cX7_rate 63 = .ok (.iload_n 3, 1) := by decide +kernel
theorem dX7_rate_64 : decode cX7_rate 64 = .ok (.aload_n 0, 1) := by decide +kernel
theorem dX7_rate_65 : decode cX7_rate 65 = .ok (.iload_n 2, 1) := by decide +kernel
theorem dX7_rate_66 : decode cX7_rate 66 = .ok (.invokevirtual 140, 3) := by decide +kernel
theorem dX7_rate_69 : decode cX7_rate 69 = .ok (.invokestatic 128, 3) := by decide +kernel
theorem dX7_rate_72 : decode cX7_rate 72 = .ok (.isub, 1) := by decide +kernel
theorem dX7_rate_73 : decode cX7_rate 73 = .ok (.istore 5, 2) := by decide +kernel
theorem dX7_rate_75 : decode cX7_rate 75 = .ok (.aload_n 0, 1) := by decide +kernel
theorem dX7_rate_76 : decode cX7_rate 76 = .ok (.dup, 1) := by decide +kernel
theorem dX7_rate_77 : decode cX7_rate 77 = .ok (.getfield 190, 3) := by decide +kernel
theorem dX7_rate_80 : decode cX7_rate 80 = .ok (.iload_n 1, 1) := by decide +kernel
theorem dX7_rate_81 : decode cX7_rate 81 = .ok (.ifCond .ne 7, 3) := by decide +kernel
theorem dX7_rate_84 : decode cX7_rate 84 = .ok (.lconst 1, 1) := by decide +kernel
theorem dX7_rate_85 : decode cX7_rate 85 = .ok (.goto 50, 3) := by decide +kernel
theorem dX7_rate_88 : decode cX7_rate 88 = .ok (.iload_n 1, 1) := by decide +kernel
theorem dX7_rate_89 : decode cX7_rate 89 = .ok (.iconst 1, 1) := by decide +kernel
theorem dX7_rate_90 : decode cX7_rate 90 = .ok (.if_icmp .ne 9, 3) := by decide +kernel
theorem dX7_rate_93 : decode cX7_rate 93 = .ok (.ldc2_w 194, 3) := by decide +kernel
theorem dX7_rate_96 : decode cX7_rate 96 = .ok (.goto 39, 3) := by decide +kernel
theorem dX7_rate_99 : decode cX7_rate 99 = .ok (.iload_n 1, 1) := by decide +kernel
theorem dX7_rate_100 : decode cX7_rate 100 = .ok (.iconst 2, 1) := by decide +kernel
theorem dX7_rate_101 : decode cX7_rate 101 = .ok (.if_icmp .ne 9, 3) := by decide +kernel
theorem dX7_rate_104 : decode cX7_rate 104 = .ok (.ldc2_w 196, 3) := by decide +kernel
theorem dX7_rate_107 : decode cX7_rate 107 = .ok (.goto 28, 3) := by decide +kernel
theorem dX7_rate_110 : decode cX7_rate 110 = .ok (.iload_n 1, 1) := by decide +kernel
theorem dX7_rate_111 : decode cX7_rate 111 = .ok (.iconst 3, 1) := by decide +kernel
theorem dX7_rate_112 : decode cX7_rate 112 = .ok (.if_icmp .ne 9, 3) := by decide +kernel
theorem dX7_rate_115 : decode cX7_rate 115 = .ok (.ldc2_w 198, 3) := by decide +kernel
theorem dX7_rate_118 : decode cX7_rate 118 = .ok (.goto 17, 3) := by decide +kernel
theorem dX7_rate_121 : decode cX7_rate 121 = .ok (.iload_n 1, 1) := by decide +kernel
theorem dX7_rate_122 : decode cX7_rate 122 = .ok (.iconst 4, 1) := by decide +kernel
theorem dX7_rate_123 : decode cX7_rate 123 = .ok (.if_icmp .ne 9, 3) := by decide +kernel
theorem dX7_rate_126 : decode cX7_rate 126 = .ok (.ldc2_w 200, 3) := by decide +kernel
theorem dX7_rate_129 : decode cX7_rate 129 = .ok (.goto 6, 3) := by decide +kernel
theorem dX7_rate_132 : decode cX7_rate 132 = .ok (.ldc2_w 202, 3) := by decide +kernel
theorem dX7_rate_135 : decode cX7_rate 135 = .ok (.ladd, 1) := by decide +kernel
theorem dX7_rate_136 : decode cX7_rate 136 = .ok (.putfield 190, 3) := by decide +kernel
theorem dX7_rate_139 : decode cX7_rate 139 = .ok (.iload_n 1, 1) := by decide +kernel
theorem dX7_rate_140 : decode cX7_rate 140 = .ok (.ifCond .ne 7, 3) := by decide +kernel
theorem dX7_rate_143 : decode cX7_rate 143 = .ok (.iload_n 3, 1) := by decide +kernel
theorem dX7_rate_144 : decode cX7_rate 144 = .ok (.goto 59, 3) := by decide +kernel
theorem dX7_rate_147 : decode cX7_rate 147 = .ok (.iload_n 1, 1) := by decide +kernel
theorem dX7_rate_148 : decode cX7_rate 148 = .ok (.iconst 1, 1) := by decide +kernel
theorem dX7_rate_149 : decode cX7_rate 149 = .ok (.if_icmp .ne 8, 3) := by decide +kernel
theorem dX7_rate_152 : decode cX7_rate 152 = .ok (.iload 4, 2) := by decide +kernel
theorem dX7_rate_154 : decode cX7_rate 154 = .ok (.goto 49, 3) := by decide +kernel
theorem dX7_rate_157 : decode cX7_rate 157 = .ok (.iload_n 1, 1) := by decide +kernel
theorem dX7_rate_158 : decode cX7_rate 158 = .ok (.iconst 2, 1) := by decide +kernel
theorem dX7_rate_159 : decode cX7_rate 159 = .ok (.if_icmp .ne 8, 3) := by decide +kernel
theorem dX7_rate_162 : decode cX7_rate 162 = .ok (.iload 5, 2) := by decide +kernel
theorem dX7_rate_164 : decode cX7_rate 164 = .ok (.goto 39, 3) := by decide +kernel
theorem dX7_rate_167 : decode cX7_rate 167 = .ok (.iload_n 1, 1) := by decide +kernel
theorem dX7_rate_168 : decode cX7_rate 168 = .ok (.iconst 3, 1) := by decide +kernel
theorem dX7_rate_169 : decode cX7_rate 169 = .ok (.if_icmp .ne 10, 3) := by decide +kernel
theorem dX7_rate_172 : decode cX7_rate 172 = .ok (.iconst 2, 1) := by decide +kernel
theorem dX7_rate_173 : decode cX7_rate 173 = .ok (.iload 4, 2) := by decide +kernel
theorem dX7_rate_175 : decode cX7_rate 175 = .ok (.imul, 1) := by decide +kernel
theorem dX7_rate_176 : decode cX7_rate 176 = .ok (.goto 27, 3) := by decide +kernel
theorem dX7_rate_179 : decode cX7_rate 179 = .ok (.iload_n 1, 1) := by decide +kernel
theorem dX7_rate_180 : decode cX7_rate 180 = .ok (.iconst 4, 1) := by decide +kernel
theorem dX7_rate_181 : decode cX7_rate 181 = .ok (.if_icmp .ne 10, 3) := by decide +kernel
theorem dX7_rate_184 : decode cX7_rate 184 = .ok (.iload 5, 2) := by decide +kernel
theorem dX7_rate_186 : decode cX7_rate 186 = .ok (.iload_n 2, 1) := by decide +kernel
theorem dX7_rate_187 : decode cX7_rate 187 = .ok (.iadd, 1) := by decide +kernel
theorem dX7_rate_188 : decode cX7_rate 188 = .ok (.goto 15, 3) := by decide +kernel
theorem dX7_rate_191 : decode cX7_rate 191 = .ok (.iload_n 3, 1) := by decide +kernel
theorem dX7_rate_192 : decode cX7_rate 192 = .ok (.aload_n 0, 1) := by decide +kernel
theorem dX7_rate_193 : decode cX7_rate 193 = .ok (.getfield 25, 3) := by decide +kernel
theorem dX7_rate_196 : decode cX7_rate 196 = .ok (.bipush 14, 2) := by decide +kernel
theorem dX7_rate_198 : decode cX7_rate 198 = .ok (.iaload, 1) := by decide +kernel
theorem dX7_rate_199 : decode cX7_rate 199 = .ok (.invokestatic 128, 3) := by decide +kernel
theorem dX7_rate_202 : decode cX7_rate 202 = .ok (.iadd, 1) := by decide +kernel
theorem dX7_rate_203 : decode cX7_rate 203 = .ok (.ireturn, 1) := by decide +kernel
theorem dX7_keep_0 : decode cX7_keep 0 = .ok (.aload_n 0, 1) := by decide +kernel
theorem dX7_keep_1 : decode cX7_keep 1 = .ok (.iconst 0, 1) := by decide +kernel
theorem dX7_keep_2 : decode cX7_keep 2 = .ok (.putfield 59, 3) := by decide +kernel
theorem dX7_keep_5 : decode cX7_keep 5 = .ok (.iload_n 1, 1) := by decide +kernel
theorem dX7_keep_6 : decode cX7_keep 6 = .ok (.iconst 0, 1) := by decide +kernel
theorem dX7_keep_7 : decode cX7_keep 7 = .ok (.iconst 1, 1) := by decide +kernel
theorem dX7_keep_8 : decode cX7_keep 8 = .ok (.invokestatic 63, 3) := by decide +kernel
theorem dX7_keep_11 : decode cX7_keep 11 = .ok (.ifCond .ne 5, 3) := by decide +kernel
theorem dX7_keep_14 : decode cX7_keep 14 = .ok (.iconst (-1), 1) := by decide +kernel
theorem dX7_keep_15 : decode cX7_keep 15 = .ok (.ireturn, 1) := by decide +kernel
theorem dX7_keep_16 : decode cX7_keep 16 = .ok (.iconst 0, 1) := by decide +kernel
theorem dX7_keep_17 : decode cX7_keep 17 = .ok (.istore_n 2, 1) := by decide +kernel
theorem dX7_keep_18 : decode cX7_keep 18 = .ok (.iload_n 2, 1) := by decide +kernel
theorem dX7_keep_19 : decode cX7_keep 19 = .ok (.bipush 21, 2) := by decide +kernel
theorem dX7_keep_21 : decode cX7_keep 21 = .ok (.if_icmp .ge 26, 3) := by decide +kernel
theorem dX7_keep_24 : decode cX7_keep 24 = .ok (.aload_n 0, 1) := by decide +kernel
theorem dX7_keep_25 : decode cX7_keep 25 = .ok (.getfield 28, 3) := by decide +kernel
theorem dX7_keep_28 : decode cX7_keep 28 = .ok (.bipush 21, 2) := by decide +kernel
theorem dX7_keep_30 : decode cX7_keep 30 = .ok (.iload_n 1, 1) := by decide +kernel
theorem dX7_keep_31 : decode cX7_keep 31 = .ok (.imul, 1) := by decide +kernel
theorem dX7_keep_32 : decode cX7_keep 32 = .ok (.iload_n 2, 1) := by decide +kernel
theorem dX7_keep_33 : decode cX7_keep 33 = .ok (.iadd, 1) := by decide +kernel
theorem dX7_keep_34 : decode cX7_keep 34 = .ok (.aload_n 0, 1) := by decide +kernel
theorem dX7_keep_35 : decode cX7_keep 35 = .ok (.getfield 25, 3) := by decide +kernel
theorem dX7_keep_38 : decode cX7_keep 38 = .ok (.iload_n 2, 1) := by decide +kernel
theorem dX7_keep_39 : decode cX7_keep 39 = .ok (.iaload, 1) := by decide +kernel
theorem dX7_keep_40 : decode cX7_keep 40 = .ok (.iastore, 1) := by decide +kernel
theorem dX7_keep_41 : decode cX7_keep 41 = .ok (.iinc 2 1, 3) := by decide +kernel
theorem dX7_keep_44 : decode cX7_keep 44 = .ok (.goto (-26), 3) := by decide +kernel
theorem dX7_keep_47 : decode cX7_keep 47 = .ok (.aload_n 0, 1) := by decide +kernel
theorem dX7_keep_48 : decode cX7_keep 48 = .ok (.getfield 31, 3) := by decide +kernel
theorem dX7_keep_51 : decode cX7_keep 51 = .ok (.iload_n 1, 1) := by decide +kernel
theorem dX7_keep_52 : decode cX7_keep 52 = .ok (.iconst 1, 1) := by decide +kernel
theorem dX7_keep_53 : decode cX7_keep 53 = .ok (.bastore, 1) := by decide +kernel
theorem dX7_keep_54 : decode cX7_keep 54 = .ok (.aload_n 0, 1) := by decide +kernel
theorem dX7_keep_55 : decode cX7_keep 55 = .ok (.getfield 25, 3) := by decide +kernel
theorem dX7_keep_58 : decode cX7_keep 58 = .ok (.iconst 0, 1) := by decide +kernel
theorem dX7_keep_59 : decode cX7_keep 59 = .ok (.iaload, 1) := by decide +kernel
theorem dX7_keep_60 : decode cX7_keep 60 = .ok (.ireturn, 1) := by decide +kernel
theorem dX7_back_0 : decode cX7_back 0 = .ok (.aload_n 0, 1) := by decide +kernel
theorem dX7_back_1 : decode cX7_back 1 = .ok (.iconst 0, 1) := by decide +kernel
theorem dX7_back_2 : decode cX7_back 2 = .ok (.putfield 59, 3) := by decide +kernel
theorem dX7_back_5 : decode cX7_back 5 = .ok (.iload_n 1, 1) := by decide +kernel
theorem dX7_back_6 : decode cX7_back 6 = .ok (.iconst 0, 1) := by decide +kernel
theorem dX7_back_7 : decode cX7_back 7 = .ok (.iconst 1, 1) := by decide +kernel
theorem dX7_back_8 : decode cX7_back 8 = .ok (.invokestatic 63, 3) := by decide +kernel
theorem dX7_back_11 : decode cX7_back 11 = .ok (.ifCond .ne 5, 3) := by decide +kernel
theorem dX7_back_14 : decode cX7_back 14 = .ok (.iconst (-1), 1) := by decide +kernel
theorem dX7_back_15 : decode cX7_back 15 = .ok (.ireturn, 1) := by decide +kernel
theorem dX7_back_16 : decode cX7_back 16 = .ok (.aload_n 0, 1) := by decide +kernel
theorem dX7_back_17 : decode cX7_back 17 = .ok (.getfield 31, 3) := by decide +kernel
theorem dX7_back_20 : decode cX7_back 20 = .ok (.iload_n 1, 1) := by decide +kernel
theorem dX7_back_21 : decode cX7_back 21 = .ok (.baload, 1) := by decide +kernel
theorem dX7_back_22 : decode cX7_back 22 = .ok (.ifCond .ne 6, 3) := by decide +kernel
theorem dX7_back_25 : decode cX7_back 25 = .ok (.bipush (-2), 2) := by decide +kernel
theorem dX7_back_27 : decode cX7_back 27 = .ok (.ireturn, 1) := by decide +kernel
theorem dX7_back_28 : decode cX7_back 28 = .ok (.iconst 0, 1) := by decide +kernel
theorem dX7_back_29 : decode cX7_back 29 = .ok (.istore_n 2, 1) := by decide +kernel
theorem dX7_back_30 : decode cX7_back 30 = .ok (.iload_n 2, 1) := by decide +kernel
theorem dX7_back_31 : decode cX7_back 31 = .ok (.bipush 21, 2) := by decide +kernel
theorem dX7_back_33 : decode cX7_back 33 = .ok (.if_icmp .ge 26, 3) := by decide +kernel
theorem dX7_back_36 : decode cX7_back 36 = .ok (.aload_n 0, 1) := by decide +kernel
theorem dX7_back_37 : decode cX7_back 37 = .ok (.getfield 25, 3) := by decide +kernel
theorem dX7_back_40 : decode cX7_back 40 = .ok (.iload_n 2, 1) := by decide +kernel
theorem dX7_back_41 : decode cX7_back 41 = .ok (.aload_n 0, 1) := by decide +kernel
theorem dX7_back_42 : decode cX7_back 42 = .ok (.getfield 28, 3) := by decide +kernel
theorem dX7_back_45 : decode cX7_back 45 = .ok (.bipush 21, 2) := by decide +kernel
theorem dX7_back_47 : decode cX7_back 47 = .ok (.iload_n 1, 1) := by decide +kernel
theorem dX7_back_48 : decode cX7_back 48 = .ok (.imul, 1) := by decide +kernel
theorem dX7_back_49 : decode cX7_back 49 = .ok (.iload_n 2, 1) := by decide +kernel
theorem dX7_back_50 : decode cX7_back 50 = .ok (.iadd, 1) := by decide +kernel
theorem dX7_back_51 : decode cX7_back 51 = .ok (.iaload, 1) := by decide +kernel
theorem dX7_back_52 : decode cX7_back 52 = .ok (.iastore, 1) := by decide +kernel
theorem dX7_back_53 : decode cX7_back 53 = .ok (.iinc 2 1, 3) := by decide +kernel
theorem dX7_back_56 : decode cX7_back 56 = .ok (.goto (-26), 3) := by decide +kernel
theorem dX7_back_59 : decode cX7_back 59 = .ok (.aload_n 0, 1) := by decide +kernel
theorem dX7_back_60 : decode cX7_back 60 = .ok (.iconst 0, 1) := by decide +kernel
theorem dX7_back_61 : decode cX7_back 61 = .ok (.putfield 121, 3) := by decide +kernel
theorem dX7_back_64 : decode cX7_back 64 = .ok (.aload_n 0, 1) := by decide +kernel
theorem dX7_back_65 : decode cX7_back 65 = .ok (.getfield 25, 3) := by decide +kernel
theorem dX7_back_68 : decode cX7_back 68 = .ok (.iconst 0, 1) := by decide +kernel
theorem dX7_back_69 : decode cX7_back 69 = .ok (.iaload, 1) := by decide +kernel
theorem dX7_back_70 : decode cX7_back 70 = .ok (.ireturn, 1) := by decide +kernel
theorem dX7_count_0 : decode cX7_count 0 = .ok (.aload_n 0, 1) := by decide +kernel
theorem dX7_count_1 : decode cX7_count 1 = .ok (.iconst 0, 1) := by decide +kernel
theorem dX7_count_2 : decode cX7_count 2 = .ok (.putfield 59, 3) := by decide +kernel
theorem dX7_count_5 : decode cX7_count 5 = .ok (.iload_n 1, 1) := by decide +kernel
theorem dX7_count_6 : decode cX7_count 6 = .ok (.iconst 0, 1) := by decide +kernel
theorem dX7_count_7 : decode cX7_count 7 = .ok (.iconst 3, 1) := by decide +kernel
theorem dX7_count_8 : decode cX7_count 8 = .ok (.invokestatic 63, 3) := by decide +kernel
theorem dX7_count_11 : decode cX7_count 11 = .ok (.ifCond .eq 12, 3) := by decide +kernel
theorem dX7_count_14 : decode cX7_count 14 = .ok (.aload_n 0, 1) := by decide +kernel
theorem dX7_count_15 : decode cX7_count 15 = .ok (.getfield 13, 3) := by decide +kernel
theorem dX7_count_18 : decode cX7_count 18 = .ok (.iload_n 1, 1) := by decide +kernel
theorem dX7_count_19 : decode cX7_count 19 = .ok (.iaload, 1) := by decide +kernel
theorem dX7_count_20 : decode cX7_count 20 = .ok (.goto 28, 3) := by decide +kernel
theorem dX7_count_23 : decode cX7_count 23 = .ok (.iload_n 1, 1) := by decide +kernel
theorem dX7_count_24 : decode cX7_count 24 = .ok (.iconst 4, 1) := by decide +kernel
theorem dX7_count_25 : decode cX7_count 25 = .ok (.if_icmp .ne 10, 3) := by decide +kernel
theorem dX7_count_28 : decode cX7_count 28 = .ok (.aload_n 0, 1) := by decide +kernel
theorem dX7_count_29 : decode cX7_count 29 = .ok (.getfield 118, 3) := by decide +kernel
theorem dX7_count_32 : decode cX7_count 32 = .ok (.goto 16, 3) := by decide +kernel
theorem dX7_count_35 : decode cX7_count 35 = .ok (.iload_n 1, 1) := by decide +kernel
theorem dX7_count_36 : decode cX7_count 36 = .ok (.iconst 5, 1) := by decide +kernel
theorem dX7_count_37 : decode cX7_count 37 = .ok (.if_icmp .ne 10, 3) := by decide +kernel
theorem dX7_count_40 : decode cX7_count 40 = .ok (.aload_n 0, 1) := by decide +kernel
theorem dX7_count_41 : decode cX7_count 41 = .ok (.getfield 67, 3) := by decide +kernel
theorem dX7_count_44 : decode cX7_count 44 = .ok (.goto 4, 3) := by decide +kernel
theorem dX7_count_47 : decode cX7_count 47 = .ok (.iconst (-1), 1) := by decide +kernel
theorem dX7_count_48 : decode cX7_count 48 = .ok (.ireturn, 1) := by decide +kernel
theorem dX7_trace_0 : decode cX7_trace 0 = .ok (.aload_n 0, 1) := by decide +kernel
theorem dX7_trace_1 : decode cX7_trace 1 = .ok (.iconst 0, 1) := by decide +kernel
theorem dX7_trace_2 : decode cX7_trace 2 = .ok (.putfield 59, 3) := by decide +kernel
theorem dX7_trace_5 : decode cX7_trace 5 = .ok (.aload_n 0, 1) := by decide +kernel
theorem dX7_trace_6 : decode cX7_trace 6 = .ok (.getfield 190, 3) := by decide +kernel
theorem dX7_trace_9 : decode cX7_trace 9 = .ok (.lreturn, 1) := by decide +kernel
