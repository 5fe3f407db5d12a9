theorem dX6_init_0 : decode cX6_init 0 = .ok (.aload_n 0, 1) := by decide +kernel
theorem dX6_init_1 : decode cX6_init 1 = .ok (.invokespecial 1, 3) := by decide +kernel
theorem dX6_init_4 : decode cX6_init 4 = .ok (.aload_n 0, 1) := by decide +kernel
theorem dX6_init_5 : decode cX6_init 5 = .ok (.new 7, 3) := by decide +kernel
theorem dX6_init_8 : decode cX6_init 8 = .ok (.dup, 1) := by decide +kernel
theorem dX6_init_9 : decode cX6_init 9 = .ok (.invokespecial 9, 3) := by decide +kernel
theorem dX6_init_12 : decode cX6_init 12 = .ok (.putfield 10, 3) := by decide +kernel
theorem dX6_init_15 : decode cX6_init 15 = .ok (.aload_n 0, 1) := by decide +kernel
theorem dX6_init_16 : decode cX6_init 16 = .ok (.new 16, 3) := by decide +kernel
theorem dX6_init_19 : decode cX6_init 19 = .ok (.dup, 1) := by decide +kernel
theorem dX6_init_20 : decode cX6_init 20 = .ok (.invokespecial 18, 3) := by decide +kernel
theorem dX6_init_23 : decode cX6_init 23 = .ok (.putfield 19, 3) := by decide +kernel
theorem dX6_init_26 : decode cX6_init 26 = .ok (.aload_n 0, 1) := by decide +kernel
theorem dX6_init_27 : decode cX6_init 27 = .ok (.new 23, 3) := by decide +kernel
theorem dX6_init_30 : decode cX6_init 30 = .ok (.dup, 1) := by decide +kernel
theorem dX6_init_31 : decode cX6_init 31 = .ok (.invokespecial 25, 3) := by decide +kernel
theorem dX6_init_34 : decode cX6_init 34 = .ok (.putfield 26, 3) := by decide +kernel
theorem dX6_init_37 : decode cX6_init 37 = .ok (.aload_n 0, 1) := by decide +kernel
theorem dX6_init_38 : decode cX6_init 38 = .ok (.iconst 2, 1) := by decide +kernel
theorem dX6_init_39 : decode cX6_init 39 = .ok (.anewarray 16, 3) := by decide +kernel
theorem dX6_init_42 : decode cX6_init 42 = .ok (.putfield 30, 3) := by decide +kernel
theorem dX6_init_45 : decode cX6_init 45 = .ok (.aload_n 0, 1) := by decide +kernel
theorem dX6_init_46 : decode cX6_init 46 = .ok (.iconst 2, 1) := by decide +kernel
theorem dX6_init_47 : decode cX6_init 47 = .ok (.newarray .boolean, 2) := by decide +kernel
theorem dX6_init_49 : decode cX6_init 49 = .ok (.putfield 34, 3) := by decide +kernel
theorem dX6_init_52 : decode cX6_init 52 = .ok (.aload_n 0, 1) := by decide +kernel
theorem dX6_init_53 : decode cX6_init 53 = .ok (.new 38, 3) := by decide +kernel
theorem dX6_init_56 : decode cX6_init 56 = .ok (.dup, 1) := by decide +kernel
theorem dX6_init_57 : decode cX6_init 57 = .ok (.invokespecial 40, 3) := by decide +kernel
theorem dX6_init_60 : decode cX6_init 60 = .ok (.putfield 41, 3) := by decide +kernel
theorem dX6_init_63 : decode cX6_init 63 = .ok (.aload_n 0, 1) := by decide +kernel
theorem dX6_init_64 : decode cX6_init 64 = .ok (.new 45, 3) := by decide +kernel
theorem dX6_init_67 : decode cX6_init 67 = .ok (.dup, 1) := by decide +kernel
theorem dX6_init_68 : decode cX6_init 68 = .ok (.invokespecial 47, 3) := by decide +kernel
theorem dX6_init_71 : decode cX6_init 71 = .ok (.putfield 48, 3) := by decide +kernel
theorem dX6_init_74 : decode cX6_init 74 = .ok (.aload_n 0, 1) := by decide +kernel
theorem dX6_init_75 : decode cX6_init 75 = .ok (.new 52, 3) := by decide +kernel
theorem dX6_init_78 : decode cX6_init 78 = .ok (.dup, 1) := by decide +kernel
theorem dX6_init_79 : decode cX6_init 79 = .ok (.invokespecial 54, 3) := by decide +kernel
theorem dX6_init_82 : decode cX6_init 82 = .ok (.putfield 55, 3) := by decide +kernel
theorem dX6_init_85 : decode cX6_init 85 = .ok (.aload_n 0, 1) := by decide +kernel
theorem dX6_init_86 : decode cX6_init 86 = .ok (.new 52, 3) := by decide +kernel
theorem dX6_init_89 : decode cX6_init 89 = .ok (.dup, 1) := by decide +kernel
theorem dX6_init_90 : decode cX6_init 90 = .ok (.invokespecial 54, 3) := by decide +kernel
theorem dX6_init_93 : decode cX6_init 93 = .ok (.putfield 59, 3) := by decide +kernel
theorem dX6_init_96 : decode cX6_init 96 = .ok (.aload_n 0, 1) := by decide +kernel
theorem dX6_init_97 : decode cX6_init 97 = .ok (.lconst 0, 1) := by decide +kernel
theorem dX6_init_98 : decode cX6_init 98 = .ok (.putfield 62, 3) := by decide +kernel
theorem dX6_init_101 : decode cX6_init 101 = .ok (.iconst 0, 1) := by decide +kernel
theorem dX6_init_102 : decode cX6_init 102 = .ok (.istore_n 1, 1) := by decide +kernel
theorem dX6_init_103 : decode cX6_init 103 = .ok (.iload_n 1, 1) := by decide +kernel
theorem dX6_init_104 : decode cX6_init 104 = .ok (.iconst 2, 1) := by decide +kernel
theorem dX6_init_105 : decode cX6_init 105 = .ok (.if_icmp .ge 22, 3) := by decide +kernel
theorem dX6_init_108 : decode cX6_init 108 = .ok (.aload_n 0, 1) := by decide +kernel
theorem dX6_init_109 : decode cX6_init 109 = .ok (.getfield 30, 3) := by decide +kernel
theorem dX6_init_112 : decode cX6_init 112 = .ok (.iload_n 1, 1) := by decide +kernel
theorem dX6_init_113 : decode cX6_init 113 = .ok (.new 16, 3) := by decide +kernel
theorem dX6_init_116 : decode cX6_init 116 = .ok (.dup, 1) := by decide +kernel
theorem dX6_init_117 : decode cX6_init 117 = .ok (.invokespecial 18, 3) := by decide +kernel
theorem dX6_init_120 : decode cX6_init 120 = .ok (.aastore, 1) := by decide +kernel
theorem dX6_init_121 : decode cX6_init 121 = .ok (.iinc 1 1, 3) := by decide +kernel
theorem dX6_init_124 : decode cX6_init 124 = .ok (.goto (-21), 3) := by decide +kernel
theorem dX6_init_127 : decode cX6_init 127 = .ok (.aload_n 0, 1) := by decide +kernel
theorem dX6_init_128 : decode cX6_init 128 = .ok (.getfield 19, 3) := by decide +kernel
theorem dX6_init_131 : decode cX6_init 131 = .ok (.aload_n 0, 1) := by decide +kernel
theorem dX6_init_132 : decode cX6_init 132 = .ok (.getfield 55, 3) := by decide +kernel
theorem dX6_init_135 : decode cX6_init 135 = .ok (.invokevirtual 66, 3) := by decide +kernel
theorem dX6_init_138 : decode cX6_init 138 = .ok (.return_, 1) := by decide +kernel
theorem dX6_type_0 : decode cX6_type 0 = .ok (.iload_n 1, 1) := by decide +kernel
theorem dX6_type_1 : decode cX6_type 1 = .ok (.ifCond .lt 10, 3) := by decide +kernel
theorem dX6_type_4 : decode cX6_type 4 = .ok (.iload_n 1, 1) := by decide +kernel
theorem dX6_type_5 : decode cX6_type 5 = .ok (.sipush 255, 3) := by decide +kernel
theorem dX6_type_8 : decode cX6_type 8 = .ok (.if_icmp .le 5, 3) := by decide +kernel
theorem dX6_type_11 : decode cX6_type 11 = .ok (.iconst (-1), 1) := by decide +kernel
theorem dX6_type_12 : decode cX6_type 12 = .ok (.ireturn, 1) := by decide +kernel
theorem dX6_type_13 : decode cX6_type 13 = .ok (.aload_n 0, 1) := by decide +kernel
theorem dX6_type_14 : decode cX6_type 14 = .ok (.getfield 10, 3) := by decide +kernel
theorem dX6_type_17 : decode cX6_type 17 = .ok (.getfield 70, 3) := by decide +kernel
theorem dX6_type_20 : decode cX6_type 20 = .ok (.bipush 120, 2) := by decide +kernel
theorem dX6_type_22 : decode cX6_type 22 = .ok (.if_icmp .lt 6, 3) := by decide +kernel
theorem dX6_type_25 : decode cX6_type 25 = .ok (.bipush (-3), 2) := by decide +kernel
theorem dX6_type_27 : decode cX6_type 27 = .ok (.ireturn, 1) := by decide +kernel
theorem dX6_type_28 : decode cX6_type 28 = .ok (.aload_n 0, 1) := by decide +kernel
theorem dX6_type_29 : decode cX6_type 29 = .ok (.getfield 10, 3) := by decide +kernel
theorem dX6_type_32 : decode cX6_type 32 = .ok (.iload_n 1, 1) := by decide +kernel
theorem dX6_type_33 : decode cX6_type 33 = .ok (.invokevirtual 74, 3) := by decide +kernel
theorem dX6_type_36 : decode cX6_type 36 = .ok (.aload_n 0, 1) := by decide +kernel
theorem dX6_type_37 : decode cX6_type 37 = .ok (.getfield 10, 3) := by decide +kernel
theorem dX6_type_40 : decode cX6_type 40 = .ok (.getfield 70, 3) := by decide +kernel
theorem dX6_type_43 : decode cX6_type 43 = .ok (.ireturn, 1) := by decide +kernel
theorem dX6_clear_0 : decode cX6_clear 0 = .ok (.aload_n 0, 1) := by decide +kernel
theorem dX6_clear_1 : decode cX6_clear 1 = .ok (.getfield 10, 3) := by decide +kernel
theorem dX6_clear_4 : decode cX6_clear 4 = .ok (.getfield 70, 3) := by decide +kernel
theorem dX6_clear_7 : decode cX6_clear 7 = .ok (.istore_n 1, 1) := by decide +kernel
theorem dX6_clear_8 : decode cX6_clear 8 = .ok (.aload_n 0, 1) := by decide +kernel
theorem dX6_clear_9 : decode cX6_clear 9 = .ok (.getfield 10, 3) := by decide +kernel
theorem dX6_clear_12 : decode cX6_clear 12 = .ok (.iconst 0, 1) := by decide +kernel
theorem dX6_clear_13 : decode cX6_clear 13 = .ok (.putfield 70, 3) := by decide +kernel
theorem dX6_clear_16 : decode cX6_clear 16 = .ok (.iload_n 1, 1) := by decide +kernel
theorem dX6_clear_17 : decode cX6_clear 17 = .ok (.ireturn, 1) := by decide +kernel
theorem dX6_town_0 : decode cX6_town 0 = .ok (.aload_n 0, 1) := by decide +kernel
theorem dX6_town_1 : decode cX6_town 1 = .ok (.getfield 10, 3) := by decide +kernel
theorem dX6_town_4 : decode cX6_town 4 = .ok (.aload_n 0, 1) := by decide +kernel
theorem dX6_town_5 : decode cX6_town 5 = .ok (.getfield 59, 3) := by decide +kernel
theorem dX6_town_8 : decode cX6_town 8 = .ok (.invokevirtual 78, 3) := by decide +kernel
theorem dX6_town_11 : decode cX6_town 11 = .ok (.ifCond .ne 14, 3) := by decide +kernel
theorem dX6_town_14 : decode cX6_town 14 = .ok (.bipush (-10), 2) := by decide +kernel
theorem dX6_town_16 : decode cX6_town 16 = .ok (.aload_n 0, 1) := by decide +kernel
theorem dX6_town_17 : decode cX6_town 17 = .ok (.getfield 10, 3) := by decide +kernel
theorem dX6_town_20 : decode cX6_town 20 = .ok (.getfield 82, 3) := by decide +kernel
theorem dX6_town_23 : decode cX6_town 23 = .ok (.isub, 1) := by decide +kernel
theorem dX6_town_24 : decode cX6_town 24 = .ok (.ireturn, 1) := by decide +kernel
theorem dX6_town_25 : decode cX6_town 25 = .ok (.aload_n 0, 1) := by decide +kernel
theorem dX6_town_26 : decode cX6_town 26 = .ok (.getfield 55, 3) := by decide +kernel
theorem dX6_town_29 : decode cX6_town 29 = .ok (.astore_n 1, 1) := by decide +kernel
theorem dX6_town_30 : decode cX6_town 30 = .ok (.aload_n 0, 1) := by decide +kernel
theorem dX6_town_31 : decode cX6_town 31 = .ok (.aload_n 0, 1) := by decide +kernel
theorem dX6_town_32 : decode cX6_town 32 = .ok (.getfield 59, 3) := by decide +kernel
theorem dX6_town_35 : decode cX6_town 35 = .ok (.putfield 55, 3) := by decide +kernel
theorem dX6_town_38 : decode cX6_town 38 = .ok (.aload_n 0, 1) := by decide +kernel
theorem dX6_town_39 : decode cX6_town 39 = .ok (.aload_n 1, 1) := by decide +kernel
theorem dX6_town_40 : decode cX6_town 40 = .ok (.putfield 59, 3) := by decide +kernel
theorem dX6_town_43 : decode cX6_town 43 = .ok (.aload_n 0, 1) := by decide +kernel
theorem dX6_town_44 : decode cX6_town 44 = .ok (.getfield 10, 3) := by decide +kernel
theorem dX6_town_47 : decode cX6_town 47 = .ok (.iconst 0, 1) := by decide +kernel
theorem dX6_town_48 : decode cX6_town 48 = .ok (.putfield 70, 3) := by decide +kernel
theorem dX6_town_51 : decode cX6_town 51 = .ok (.aload_n 0, 1) := by decide +kernel
theorem dX6_town_52 : decode cX6_town 52 = .ok (.invokevirtual 85, 3) := by decide +kernel
theorem dX6_town_55 : decode cX6_town 55 = .ok (.aload_n 0, 1) := by decide +kernel
theorem dX6_town_56 : decode cX6_town 56 = .ok (.getfield 55, 3) := by decide +kernel
theorem dX6_town_59 : decode cX6_town 59 = .ok (.getfield 88, 3) := by decide +kernel
theorem dX6_town_62 : decode cX6_town 62 = .ok (.ireturn, 1) := by decide +kernel
theorem dX6_room_0 : decode cX6_room 0 = .ok (.aload_n 0, 1) := by decide +kernel
theorem dX6_room_1 : decode cX6_room 1 = .ok (.iload_n 1, 1) := by decide +kernel
theorem dX6_room_2 : decode cX6_room 2 = .ok (.invokevirtual 91, 3) := by decide +kernel
theorem dX6_room_5 : decode cX6_room 5 = .ok (.ifCond .ne 5, 3) := by decide +kernel
theorem dX6_room_8 : decode cX6_room 8 = .ok (.iconst (-1), 1) := by decide +kernel
theorem dX6_room_9 : decode cX6_room 9 = .ok (.ireturn, 1) := by decide +kernel
theorem dX6_room_10 : decode cX6_room 10 = .ok (.iload_n 2, 1) := by decide +kernel
theorem dX6_room_11 : decode cX6_room 11 = .ok (.tableswitch 54 0 2 #[25, 35, 44], 25) := by decide +kernel
theorem dX6_room_36 : decode cX6_room 36 = .ok (.aload_n 0, 1) := by decide +kernel
theorem dX6_room_37 : decode cX6_room 37 = .ok (.getfield 19, 3) := by decide +kernel
theorem dX6_room_40 : decode cX6_room 40 = .ok (.getfield 95, 3) := by decide +kernel
theorem dX6_room_43 : decode cX6_room 43 = .ok (.iload_n 1, 1) := by decide +kernel
theorem dX6_room_44 : decode cX6_room 44 = .ok (.iaload, 1) := by decide +kernel
theorem dX6_room_45 : decode cX6_room 45 = .ok (.ireturn, 1) := by decide +kernel
theorem dX6_room_46 : decode cX6_room 46 = .ok (.aload_n 0, 1) := by decide +kernel
theorem dX6_room_47 : decode cX6_room 47 = .ok (.getfield 19, 3) := by decide +kernel
theorem dX6_room_50 : decode cX6_room 50 = .ok (.iload_n 1, 1) := by decide +kernel
theorem dX6_room_51 : decode cX6_room 51 = .ok (.invokevirtual 99, 3) := by decide +kernel
theorem dX6_room_54 : decode cX6_room 54 = .ok (.ireturn, 1) := by decide +kernel
theorem dX6_room_55 : decode cX6_room 55 = .ok (.aload_n 0, 1) := by decide +kernel
theorem dX6_room_56 : decode cX6_room 56 = .ok (.getfield 19, 3) := by decide +kernel
theorem dX6_room_59 : decode cX6_room 59 = .ok (.getfield 103, 3) := by decide +kernel
theorem dX6_room_62 : decode cX6_room 62 = .ok (.iload_n 1, 1) := by decide +kernel
theorem dX6_room_63 : decode cX6_room 63 = .ok (.iaload, 1) := by decide +kernel
theorem dX6_room_64 : decode cX6_room 64 = .ok (.ireturn, 1) := by decide +kernel
theorem dX6_room_65 : decode cX6_room 65 = .ok (.iconst (-1), 1) := by decide +kernel
theorem dX6_room_66 : decode cX6_room 66 = .ok (.ireturn, 1) := by decide +kernel
theorem dX6_child_0 : decode cX6_child 0 = .ok (.aload_n 0, 1) := by decide +kernel
theorem dX6_child_1 : decode cX6_child 1 = .ok (.iload_n 1, 1) := by decide +kernel
theorem dX6_child_2 : decode cX6_child 2 = .ok (.invokevirtual 106, 3) := by decide +kernel
theorem dX6_child_5 : decode cX6_child 5 = .ok (.ifCond .ne 5, 3) := by decide +kernel
theorem dX6_child_8 : decode cX6_child 8 = .ok (.iconst (-1), 1) := by decide +kernel
theorem dX6_child_9 : decode cX6_child 9 = .ok (.ireturn, 1) := by decide +kernel
theorem dX6_child_10 : decode cX6_child 10 = .ok (.iload_n 2, 1) := by decide +kernel
theorem dX6_child_11 : decode cX6_child 11 = .ok (.tableswitch 104 0 3 #[29, 49, 69, 98], 29) := by decide +kernel
theorem dX6_child_40 : decode cX6_child 40 = .ok (.aload_n 0, 1) := by decide +kernel
theorem dX6_child_41 : decode cX6_child 41 = .ok (.getfield 19, 3) := by decide +kernel
theorem dX6_child_44 : decode cX6_child 44 = .ok (.getfield 109, 3) := by decide +kernel
theorem dX6_child_47 : decode cX6_child 47 = .ok (.iload_n 1, 1) := by decide +kernel
theorem dX6_child_48 : decode cX6_child 48 = .ok (.invokestatic 112, 3) := by decide +kernel
theorem dX6_child_51 : decode cX6_child 51 = .ok (.ifCond .eq 7, 3) := by decide +kernel
theorem dX6_child_54 : decode cX6_child 54 = .ok (.iconst 1, 1) := by decide +kernel
theorem dX6_child_55 : decode cX6_child 55 = .ok (.goto 4, 3) := by decide +kernel
theorem dX6_child_58 : decode cX6_child 58 = .ok (.iconst 0, 1) := by decide +kernel
theorem dX6_child_59 : decode cX6_child 59 = .ok (.ireturn, 1) := by decide +kernel
theorem dX6_child_60 : decode cX6_child 60 = .ok (.aload_n 0, 1) := by decide +kernel
theorem dX6_child_61 : decode cX6_child 61 = .ok (.getfield 19, 3) := by decide +kernel
theorem dX6_child_64 : decode cX6_child 64 = .ok (.getfield 116, 3) := by decide +kernel
theorem dX6_child_67 : decode cX6_child 67 = .ok (.iload_n 1, 1) := by decide +kernel
theorem dX6_child_68 : decode cX6_child 68 = .ok (.invokestatic 112, 3) := by decide +kernel
theorem dX6_child_71 : decode cX6_child 71 = .ok (.ifCond .eq 7, 3) := by decide +kernel
theorem dX6_child_74 : decode cX6_child 74 = .ok (.iconst 1, 1) := by decide +kernel
theorem dX6_child_75 : decode cX6_child 75 = .ok (.goto 4, 3) := by decide +kernel
theorem dX6_child_78 : decode cX6_child 78 = .ok (.iconst 0, 1) := by decide +kernel
theorem dX6_child_79 : decode cX6_child 79 = .ok (.ireturn, 1) := by decide +kernel
theorem dX6_child_80 : decode cX6_child 80 = .ok (.aload_n 0, 1) := by decide +kernel
theorem dX6_child_81 : decode cX6_child 81 = .ok (.getfield 19, 3) := by decide +kernel
theorem dX6_child_84 : decode cX6_child 84 = .ok (.getfield 116, 3) := by decide +kernel
theorem dX6_child_87 : decode cX6_child 87 = .ok (.iload_n 1, 1) := by decide +kernel
theorem dX6_child_88 : decode cX6_child 88 = .ok (.invokestatic 112, 3) := by decide +kernel
theorem dX6_child_91 : decode cX6_child 91 = .ok (.ifCond .eq 15, 3) := by decide +kernel
theorem dX6_child_94 : decode cX6_child 94 = .ok (.aload_n 0, 1) := by decide +kernel
theorem dX6_child_95 : decode cX6_child 95 = .ok (.getfield 19, 3) := by decide +kernel
theorem dX6_child_98 : decode cX6_child 98 = .ok (.getfield 119, 3) := by decide +kernel
theorem dX6_child_101 : decode cX6_child 101 = .ok (.iload_n 1, 1) := by decide +kernel
theorem dX6_child_102 : decode cX6_child 102 = .ok (.iaload, 1) := by decide +kernel
theorem dX6_child_103 : decode cX6_child 103 = .ok (.goto 5, 3) := by decide +kernel
theorem dX6_child_106 : decode cX6_child 106 = .ok (.bipush (-9), 2) := by decide +kernel
theorem dX6_child_108 : decode cX6_child 108 = .ok (.ireturn, 1) := by decide +kernel
theorem dX6_child_109 : decode cX6_child 109 = .ok (.aload_n 0, 1) := by decide +kernel
theorem dX6_child_110 : decode cX6_child 110 = .ok (.iload_n 1, 1) := by decide +kernel
theorem dX6_child_111 : decode cX6_child 111 = .ok (.invokevirtual 122, 3) := by decide +kernel
theorem dX6_child_114 : decode cX6_child 114 = .ok (.ireturn, 1) := by decide +kernel
theorem dX6_child_115 : decode cX6_child 115 = .ok (.iconst (-1), 1) := by decide +kernel
theorem dX6_child_116 : decode cX6_child 116 = .ok (.ireturn, 1) := by decide +kernel
theorem dX6_work_0 : decode cX6_work 0 = .ok (.aload_n 0, 1) := by decide +kernel
theorem dX6_work_1 : decode cX6_work 1 = .ok (.iload_n 1, 1) := by decide +kernel
theorem dX6_work_2 : decode cX6_work 2 = .ok (.invokevirtual 125, 3) := by decide +kernel
theorem dX6_work_5 : decode cX6_work 5 = .ok (.ifCond .ne 5, 3) := by decide +kernel
theorem dX6_work_8 : decode cX6_work 8 = .ok (.iconst (-1), 1) := by decide +kernel
theorem dX6_work_9 : decode cX6_work 9 = .ok (.ireturn, 1) := by decide +kernel
theorem dX6_work_10 : decode cX6_work 10 = .ok (.iload_n 2, 1) := by decide +kernel
theorem dX6_work_11 : decode cX6_work 11 = .ok (.tableswitch 62 0 3 #[29, 39, 49, 56], 29) := by decide +kernel
theorem dX6_work_40 : decode cX6_work 40 = .ok (.aload_n 0, 1) := by decide +kernel
theorem dX6_work_41 : decode cX6_work 41 = .ok (.getfield 55, 3) := by decide +kernel
theorem dX6_work_44 : decode cX6_work 44 = .ok (.getfield 128, 3) := by decide +kernel
theorem dX6_work_47 : decode cX6_work 47 = .ok (.iload_n 1, 1) := by decide +kernel
theorem dX6_work_48 : decode cX6_work 48 = .ok (.iaload, 1) := by decide +kernel
theorem dX6_work_49 : decode cX6_work 49 = .ok (.ireturn, 1) := by decide +kernel
theorem dX6_work_50 : decode cX6_work 50 = .ok (.aload_n 0, 1) := by decide +kernel
theorem dX6_work_51 : decode cX6_work 51 = .ok (.getfield 55, 3) := by decide +kernel
theorem dX6_work_54 : decode cX6_work 54 = .ok (.getfield 131, 3) := by decide +kernel
theorem dX6_work_57 : decode cX6_work 57 = .ok (.iload_n 1, 1) := by decide +kernel
theorem dX6_work_58 : decode cX6_work 58 = .ok (.iaload, 1) := by decide +kernel
theorem dX6_work_59 : decode cX6_work 59 = .ok (.ireturn, 1) := by decide +kernel
theorem dX6_work_60 : decode cX6_work 60 = .ok (.aload_n 0, 1) := by decide +kernel
theorem dX6_work_61 : decode cX6_work 61 = .ok (.iload_n 1, 1) := by decide +kernel
theorem dX6_work_62 : decode cX6_work 62 = .ok (.iconst 0, 1) := by decide +kernel
theorem dX6_work_63 : decode cX6_work 63 = .ok (.invokevirtual 134, 3) := by decide +kernel
theorem dX6_work_66 : decode cX6_work 66 = .ok (.ireturn, 1) := by decide +kernel
theorem dX6_work_67 : decode cX6_work 67 = .ok (.aload_n 0, 1) := by decide +kernel
theorem dX6_work_68 : decode cX6_work 68 = .ok (.iload_n 1, 1) := by decide +kernel
theorem dX6_work_69 : decode cX6_work 69 = .ok (.invokevirtual 138, 3) := by decide +kernel
theorem dX6_work_72 : decode cX6_work 72 = .ok (.ireturn, 1) := by decide +kernel
theorem dX6_work_73 : decode cX6_work 73 = .ok (.iconst (-1), 1) := by decide +kernel
theorem dX6_work_74 : decode cX6_work 74 = .ok (.ireturn, 1) := by decide +kernel
theorem dX6_now_0 : decode cX6_now 0 = .ok (.iload_n 1, 1) := by decide +kernel
theorem dX6_now_1 : decode cX6_now 1 = .ok (.tableswitch 72 0 4 #[35, 43, 51, 59, 64], 35) := by decide +kernel
theorem dX6_now_36 : decode cX6_now 36 = .ok (.aload_n 0, 1) := by decide +kernel
theorem dX6_now_37 : decode cX6_now 37 = .ok (.getfield 19, 3) := by decide +kernel
theorem dX6_now_40 : decode cX6_now 40 = .ok (.getfield 141, 3) := by decide +kernel
theorem dX6_now_43 : decode cX6_now 43 = .ok (.ireturn, 1) := by decide +kernel
theorem dX6_now_44 : decode cX6_now 44 = .ok (.aload_n 0, 1) := by decide +kernel
theorem dX6_now_45 : decode cX6_now 45 = .ok (.getfield 19, 3) := by decide +kernel
theorem dX6_now_48 : decode cX6_now 48 = .ok (.getfield 116, 3) := by decide +kernel
theorem dX6_now_51 : decode cX6_now 51 = .ok (.ireturn, 1) := by decide +kernel
theorem dX6_now_52 : decode cX6_now 52 = .ok (.aload_n 0, 1) := by decide +kernel
theorem dX6_now_53 : decode cX6_now 53 = .ok (.getfield 19, 3) := by decide +kernel
theorem dX6_now_56 : decode cX6_now 56 = .ok (.getfield 109, 3) := by decide +kernel
theorem dX6_now_59 : decode cX6_now 59 = .ok (.ireturn, 1) := by decide +kernel
theorem dX6_now_60 : decode cX6_now 60 = .ok (.aload_n 0, 1) := by decide +kernel
theorem dX6_now_61 : decode cX6_now 61 = .ok (.invokevirtual 144, 3) := by decide +kernel
theorem dX6_now_64 : decode cX6_now 64 = .ok (.ireturn, 1) := by decide +kernel
theorem dX6_now_65 : decode cX6_now 65 = .ok (.aload_n 0, 1) := by decide +kernel
theorem dX6_now_66 : decode cX6_now 66 = .ok (.getfield 26, 3) := by decide +kernel
theorem dX6_now_69 : decode cX6_now 69 = .ok (.getfield 148, 3) := by decide +kernel
theorem dX6_now_72 : decode cX6_now 72 = .ok (.ireturn, 1) := by decide +kernel
theorem dX6_now_73 : decode cX6_now 73 = .ok (.iconst (-1), 1) := by decide +kernel
theorem dX6_now_74 : decode cX6_now 74 = .ok (.ireturn, 1) := by decide +kernel
theorem dX6_bears_0 : decode cX6_bears 0 = .ok (.aload_n 0, 1) := by decide +kernel
theorem dX6_bears_1 : decode cX6_bears 1 = .ok (.iload_n 1, 1) := by decide +kernel
theorem dX6_bears_2 : decode cX6_bears 2 = .ok (.invokevirtual 106, 3) := by decide +kernel
theorem dX6_bears_5 : decode cX6_bears 5 = .ok (.ifCond .eq 11, 3) := by decide +kernel
theorem dX6_bears_8 : decode cX6_bears 8 = .ok (.aload_n 0, 1) := by decide +kernel
theorem dX6_bears_9 : decode cX6_bears 9 = .ok (.iload_n 2, 1) := by decide +kernel
theorem dX6_bears_10 : decode cX6_bears 10 = .ok (.invokevirtual 91, 3) := by decide +kernel
theorem dX6_bears_13 : decode cX6_bears 13 = .ok (.ifCond .ne 5, 3) := by decide +kernel
theorem dX6_bears_16 : decode cX6_bears 16 = .ok (.iconst (-1), 1) := by decide +kernel
theorem dX6_bears_17 : decode cX6_bears 17 = .ok (.ireturn, 1) := by decide +kernel
theorem dX6_bears_18 : decode cX6_bears 18 = .ok (.aload_n 0, 1) := by decide +kernel
theorem dX6_bears_19 : decode cX6_bears 19 = .ok (.getfield 19, 3) := by decide +kernel
theorem dX6_bears_22 : decode cX6_bears 22 = .ok (.getfield 109, 3) := by decide +kernel
theorem dX6_bears_25 : decode cX6_bears 25 = .ok (.iload_n 1, 1) := by decide +kernel
theorem dX6_bears_26 : decode cX6_bears 26 = .ok (.invokestatic 112, 3) := by decide +kernel
theorem dX6_bears_29 : decode cX6_bears 29 = .ok (.ifCond .eq 6, 3) := by decide +kernel
theorem dX6_bears_32 : decode cX6_bears 32 = .ok (.bipush (-2), 2) := by decide +kernel
theorem dX6_bears_34 : decode cX6_bears 34 = .ok (.ireturn, 1) := by decide +kernel
theorem dX6_bears_35 : decode cX6_bears 35 = .ok (.aload_n 0, 1) := by decide +kernel
theorem dX6_bears_36 : decode cX6_bears 36 = .ok (.getfield 26, 3) := by decide +kernel
theorem dX6_bears_39 : decode cX6_bears 39 = .ok (.aload_n 0, 1) := by decide +kernel
theorem dX6_bears_40 : decode cX6_bears 40 = .ok (.getfield 19, 3) := by decide +kernel
theorem dX6_bears_43 : decode cX6_bears 43 = .ok (.invokevirtual 151, 3) := by decide +kernel
theorem dX6_bears_46 : decode cX6_bears 46 = .ok (.aload_n 0, 1) := by decide +kernel
theorem dX6_bears_47 : decode cX6_bears 47 = .ok (.getfield 19, 3) := by decide +kernel
theorem dX6_bears_50 : decode cX6_bears 50 = .ok (.iload_n 1, 1) := by decide +kernel
theorem dX6_bears_51 : decode cX6_bears 51 = .ok (.iload_n 2, 1) := by decide +kernel
theorem dX6_bears_52 : decode cX6_bears 52 = .ok (.aload_n 0, 1) := by decide +kernel
theorem dX6_bears_53 : decode cX6_bears 53 = .ok (.getfield 55, 3) := by decide +kernel
theorem dX6_bears_56 : decode cX6_bears 56 = .ok (.getfield 155, 3) := by decide +kernel
theorem dX6_bears_59 : decode cX6_bears 59 = .ok (.invokevirtual 158, 3) := by decide +kernel
theorem dX6_bears_62 : decode cX6_bears 62 = .ok (.ireturn, 1) := by decide +kernel
theorem dX6_year_0 : decode cX6_year 0 = .ok (.aload_n 0, 1) := by decide +kernel
theorem dX6_year_1 : decode cX6_year 1 = .ok (.getfield 19, 3) := by decide +kernel
theorem dX6_year_4 : decode cX6_year 4 = .ok (.getfield 141, 3) := by decide +kernel
theorem dX6_year_7 : decode cX6_year 7 = .ok (.bipush 99, 2) := by decide +kernel
theorem dX6_year_9 : decode cX6_year 9 = .ok (.if_icmp .lt 6, 3) := by decide +kernel
theorem dX6_year_12 : decode cX6_year 12 = .ok (.bipush (-2), 2) := by decide +kernel
theorem dX6_year_14 : decode cX6_year 14 = .ok (.ireturn, 1) := by decide +kernel
theorem dX6_year_15 : decode cX6_year 15 = .ok (.aload_n 0, 1) := by decide +kernel
theorem dX6_year_16 : decode cX6_year 16 = .ok (.getfield 26, 3) := by decide +kernel
theorem dX6_year_19 : decode cX6_year 19 = .ok (.aload_n 0, 1) := by decide +kernel
theorem dX6_year_20 : decode cX6_year 20 = .ok (.getfield 19, 3) := by decide +kernel
theorem dX6_year_23 : decode cX6_year 23 = .ok (.invokevirtual 151, 3) := by decide +kernel
theorem dX6_year_26 : decode cX6_year 26 = .ok (.aload_n 0, 1) := by decide +kernel
theorem dX6_year_27 : decode cX6_year 27 = .ok (.getfield 19, 3) := by decide +kernel
theorem dX6_year_30 : decode cX6_year 30 = .ok (.aload_n 0, 1) := by decide +kernel
theorem dX6_year_31 : decode cX6_year 31 = .ok (.getfield 55, 3) := by decide +kernel
theorem dX6_year_34 : decode cX6_year 34 = .ok (.invokevirtual 162, 3) := by decide +kernel
theorem dX6_year_37 : decode cX6_year 37 = .ok (.ireturn, 1) := by decide +kernel
theorem dX6_joins_0 : decode cX6_joins 0 = .ok (.aload_n 0, 1) := by decide +kernel
theorem dX6_joins_1 : decode cX6_joins 1 = .ok (.iload_n 1, 1) := by decide +kernel
theorem dX6_joins_2 : decode cX6_joins 2 = .ok (.invokevirtual 91, 3) := by decide +kernel
theorem dX6_joins_5 : decode cX6_joins 5 = .ok (.ifCond .eq 16, 3) := by decide +kernel
theorem dX6_joins_8 : decode cX6_joins 8 = .ok (.aload_n 0, 1) := by decide +kernel
theorem dX6_joins_9 : decode cX6_joins 9 = .ok (.iload_n 2, 1) := by decide +kernel
theorem dX6_joins_10 : decode cX6_joins 10 = .ok (.invokevirtual 91, 3) := by decide +kernel
theorem dX6_joins_13 : decode cX6_joins 13 = .ok (.ifCond .eq 8, 3) := by decide +kernel
theorem dX6_joins_16 : decode cX6_joins 16 = .ok (.iload_n 1, 1) := by decide +kernel
theorem dX6_joins_17 : decode cX6_joins 17 = .ok (.iload_n 2, 1) := by decide +kernel
theorem dX6_joins_18 : decode cX6_joins 18 = .ok (.if_icmp .ne 5, 3) := by decide +kernel
theorem dX6_joins_21 : decode cX6_joins 21 = .ok (.iconst (-1), 1) := by decide +kernel
theorem dX6_joins_22 : decode cX6_joins 22 = .ok (.ireturn, 1) := by decide +kernel
theorem dX6_joins_23 : decode cX6_joins 23 = .ok (.aload_n 0, 1) := by decide +kernel
theorem dX6_joins_24 : decode cX6_joins 24 = .ok (.getfield 19, 3) := by decide +kernel
theorem dX6_joins_27 : decode cX6_joins 27 = .ok (.getfield 103, 3) := by decide +kernel
theorem dX6_joins_30 : decode cX6_joins 30 = .ok (.iload_n 1, 1) := by decide +kernel
theorem dX6_joins_31 : decode cX6_joins 31 = .ok (.iaload, 1) := by decide +kernel
theorem dX6_joins_32 : decode cX6_joins 32 = .ok (.iload_n 2, 1) := by decide +kernel
theorem dX6_joins_33 : decode cX6_joins 33 = .ok (.invokestatic 112, 3) := by decide +kernel
theorem dX6_joins_36 : decode cX6_joins 36 = .ok (.ifCond .eq 6, 3) := by decide +kernel
theorem dX6_joins_39 : decode cX6_joins 39 = .ok (.bipush (-2), 2) := by decide +kernel
theorem dX6_joins_41 : decode cX6_joins 41 = .ok (.ireturn, 1) := by decide +kernel
theorem dX6_joins_42 : decode cX6_joins 42 = .ok (.aload_n 0, 1) := by decide +kernel
theorem dX6_joins_43 : decode cX6_joins 43 = .ok (.getfield 26, 3) := by decide +kernel
theorem dX6_joins_46 : decode cX6_joins 46 = .ok (.aload_n 0, 1) := by decide +kernel
theorem dX6_joins_47 : decode cX6_joins 47 = .ok (.getfield 19, 3) := by decide +kernel
theorem dX6_joins_50 : decode cX6_joins 50 = .ok (.invokevirtual 151, 3) := by decide +kernel
theorem dX6_joins_53 : decode cX6_joins 53 = .ok (.aload_n 0, 1) := by decide +kernel
theorem dX6_joins_54 : decode cX6_joins 54 = .ok (.getfield 19, 3) := by decide +kernel
theorem dX6_joins_57 : decode cX6_joins 57 = .ok (.iload_n 1, 1) := by decide +kernel
theorem dX6_joins_58 : decode cX6_joins 58 = .ok (.iload_n 2, 1) := by decide +kernel
theorem dX6_joins_59 : decode cX6_joins 59 = .ok (.invokevirtual 166, 3) := by decide +kernel
theorem dX6_joins_62 : decode cX6_joins 62 = .ok (.aload_n 0, 1) := by decide +kernel
theorem dX6_joins_63 : decode cX6_joins 63 = .ok (.getfield 19, 3) := by decide +kernel
theorem dX6_joins_66 : decode cX6_joins 66 = .ok (.iload_n 1, 1) := by decide +kernel
theorem dX6_joins_67 : decode cX6_joins 67 = .ok (.invokevirtual 99, 3) := by decide +kernel
theorem dX6_joins_70 : decode cX6_joins 70 = .ok (.ireturn, 1) := by decide +kernel
theorem dX6_builds_0 : decode cX6_builds 0 = .ok (.aload_n 0, 1) := by decide +kernel
theorem dX6_builds_1 : decode cX6_builds 1 = .ok (.iload_n 1, 1) := by decide +kernel
theorem dX6_builds_2 : decode cX6_builds 2 = .ok (.invokevirtual 91, 3) := by decide +kernel
theorem dX6_builds_5 : decode cX6_builds 5 = .ok (.ifCond .ne 5, 3) := by decide +kernel
theorem dX6_builds_8 : decode cX6_builds 8 = .ok (.iconst (-1), 1) := by decide +kernel
theorem dX6_builds_9 : decode cX6_builds 9 = .ok (.ireturn, 1) := by decide +kernel
theorem dX6_builds_10 : decode cX6_builds 10 = .ok (.aload_n 0, 1) := by decide +kernel
theorem dX6_builds_11 : decode cX6_builds 11 = .ok (.getfield 19, 3) := by decide +kernel
theorem dX6_builds_14 : decode cX6_builds 14 = .ok (.getfield 95, 3) := by decide +kernel
theorem dX6_builds_17 : decode cX6_builds 17 = .ok (.iload_n 1, 1) := by decide +kernel
theorem dX6_builds_18 : decode cX6_builds 18 = .ok (.iaload, 1) := by decide +kernel
theorem dX6_builds_19 : decode cX6_builds 19 = .ok (.istore_n 2, 1) := by decide +kernel
theorem dX6_builds_20 : decode cX6_builds 20 = .ok (.iload_n 2, 1) := by decide +kernel
theorem dX6_builds_21 : decode cX6_builds 21 = .ok (.ifCond .ne 22, 3) := by decide +kernel
theorem dX6_builds_24 : decode cX6_builds 24 = .ok (.aload_n 0, 1) := by decide +kernel
theorem dX6_builds_25 : decode cX6_builds 25 = .ok (.getfield 19, 3) := by decide +kernel
theorem dX6_builds_28 : decode cX6_builds 28 = .ok (.getfield 103, 3) := by decide +kernel
theorem dX6_builds_31 : decode cX6_builds 31 = .ok (.iload_n 1, 1) := by decide +kernel
theorem dX6_builds_32 : decode cX6_builds 32 = .ok (.iaload, 1) := by decide +kernel
theorem dX6_builds_33 : decode cX6_builds 33 = .ok (.iload_n 1, 1) := by decide +kernel
theorem dX6_builds_34 : decode cX6_builds 34 = .ok (.invokestatic 170, 3) := by decide +kernel
theorem dX6_builds_37 : decode cX6_builds 37 = .ok (.if_icmp .ne 6, 3) := by decide +kernel
theorem dX6_builds_40 : decode cX6_builds 40 = .ok (.bipush (-2), 2) := by decide +kernel
theorem dX6_builds_42 : decode cX6_builds 42 = .ok (.ireturn, 1) := by decide +kernel
theorem dX6_builds_43 : decode cX6_builds 43 = .ok (.aload_n 0, 1) := by decide +kernel
theorem dX6_builds_44 : decode cX6_builds 44 = .ok (.getfield 26, 3) := by decide +kernel
theorem dX6_builds_47 : decode cX6_builds 47 = .ok (.aload_n 0, 1) := by decide +kernel
theorem dX6_builds_48 : decode cX6_builds 48 = .ok (.getfield 19, 3) := by decide +kernel
theorem dX6_builds_51 : decode cX6_builds 51 = .ok (.invokevirtual 151, 3) := by decide +kernel
theorem dX6_builds_54 : decode cX6_builds 54 = .ok (.aload_n 0, 1) := by decide +kernel
theorem dX6_builds_55 : decode cX6_builds 55 = .ok (.getfield 19, 3) := by decide +kernel
theorem dX6_builds_58 : decode cX6_builds 58 = .ok (.iload_n 1, 1) := by decide +kernel
theorem dX6_builds_59 : decode cX6_builds 59 = .ok (.invokevirtual 173, 3) := by decide +kernel
theorem dX6_builds_62 : decode cX6_builds 62 = .ok (.iload_n 2, 1) := by decide +kernel
theorem dX6_builds_63 : decode cX6_builds 63 = .ok (.ireturn, 1) := by decide +kernel
theorem dX6_undo_0 : decode cX6_undo 0 = .ok (.aload_n 0, 1) := by decide +kernel
theorem dX6_undo_1 : decode cX6_undo 1 = .ok (.getfield 26, 3) := by decide +kernel
theorem dX6_undo_4 : decode cX6_undo 4 = .ok (.getfield 148, 3) := by decide +kernel
theorem dX6_undo_7 : decode cX6_undo 7 = .ok (.ifCond .ne 6, 3) := by decide +kernel
theorem dX6_undo_10 : decode cX6_undo 10 = .ok (.bipush (-2), 2) := by decide +kernel
theorem dX6_undo_12 : decode cX6_undo 12 = .ok (.ireturn, 1) := by decide +kernel
theorem dX6_undo_13 : decode cX6_undo 13 = .ok (.aload_n 0, 1) := by decide +kernel
theorem dX6_undo_14 : decode cX6_undo 14 = .ok (.getfield 26, 3) := by decide +kernel
theorem dX6_undo_17 : decode cX6_undo 17 = .ok (.aload_n 0, 1) := by decide +kernel
theorem dX6_undo_18 : decode cX6_undo 18 = .ok (.getfield 19, 3) := by decide +kernel
theorem dX6_undo_21 : decode cX6_undo 21 = .ok (.invokevirtual 176, 3) := by decide +kernel
theorem dX6_undo_24 : decode cX6_undo 24 = .ok (.aload_n 0, 1) := by decide +kernel
theorem dX6_undo_25 : decode cX6_undo 25 = .ok (.getfield 26, 3) := by decide +kernel
theorem dX6_undo_28 : decode cX6_undo 28 = .ok (.getfield 148, 3) := by decide +kernel
theorem dX6_undo_31 : decode cX6_undo 31 = .ok (.ireturn, 1) := by decide +kernel
theorem dX6_fills_0 : decode cX6_fills 0 = .ok (.aload_n 0, 1) := by decide +kernel
theorem dX6_fills_1 : decode cX6_fills 1 = .ok (.iload_n 1, 1) := by decide +kernel
theorem dX6_fills_2 : decode cX6_fills 2 = .ok (.invokevirtual 106, 3) := by decide +kernel
theorem dX6_fills_5 : decode cX6_fills 5 = .ok (.ifCond .ne 5, 3) := by decide +kernel
theorem dX6_fills_8 : decode cX6_fills 8 = .ok (.iconst (-1), 1) := by decide +kernel
theorem dX6_fills_9 : decode cX6_fills 9 = .ok (.ireturn, 1) := by decide +kernel
theorem dX6_fills_10 : decode cX6_fills 10 = .ok (.aload_n 0, 1) := by decide +kernel
theorem dX6_fills_11 : decode cX6_fills 11 = .ok (.invokevirtual 144, 3) := by decide +kernel
theorem dX6_fills_14 : decode cX6_fills 14 = .ok (.pop, 1) := by decide +kernel
theorem dX6_fills_15 : decode cX6_fills 15 = .ok (.aload_n 0, 1) := by decide +kernel
theorem dX6_fills_16 : decode cX6_fills 16 = .ok (.getfield 41, 3) := by decide +kernel
theorem dX6_fills_19 : decode cX6_fills 19 = .ok (.iload_n 1, 1) := by decide +kernel
theorem dX6_fills_20 : decode cX6_fills 20 = .ok (.invokevirtual 179, 3) := by decide +kernel
theorem dX6_fills_23 : decode cX6_fills 23 = .ok (.ireturn, 1) := by decide +kernel
theorem dX6_carry_0 : decode cX6_carry 0 = .ok (.aload_n 0, 1) := by decide +kernel
theorem dX6_carry_1 : decode cX6_carry 1 = .ok (.iload_n 1, 1) := by decide +kernel
theorem dX6_carry_2 : decode cX6_carry 2 = .ok (.invokevirtual 106, 3) := by decide +kernel
theorem dX6_carry_5 : decode cX6_carry 5 = .ok (.ifCond .eq 12, 3) := by decide +kernel
theorem dX6_carry_8 : decode cX6_carry 8 = .ok (.iload_n 2, 1) := by decide +kernel
theorem dX6_carry_9 : decode cX6_carry 9 = .ok (.ifCond .lt 8, 3) := by decide +kernel
theorem dX6_carry_12 : decode cX6_carry 12 = .ok (.iload_n 2, 1) := by decide +kernel
theorem dX6_carry_13 : decode cX6_carry 13 = .ok (.iconst 1, 1) := by decide +kernel
theorem dX6_carry_14 : decode cX6_carry 14 = .ok (.if_icmp .le 5, 3) := by decide +kernel
theorem dX6_carry_17 : decode cX6_carry 17 = .ok (.iconst (-1), 1) := by decide +kernel
theorem dX6_carry_18 : decode cX6_carry 18 = .ok (.ireturn, 1) := by decide +kernel
theorem dX6_carry_19 : decode cX6_carry 19 = .ok (.aload_n 0, 1) := by decide +kernel
theorem dX6_carry_20 : decode cX6_carry 20 = .ok (.getfield 19, 3) := by decide +kernel
theorem dX6_carry_23 : decode cX6_carry 23 = .ok (.getfield 109, 3) := by decide +kernel
theorem dX6_carry_26 : decode cX6_carry 26 = .ok (.iload_n 1, 1) := by decide +kernel
theorem dX6_carry_27 : decode cX6_carry 27 = .ok (.invokestatic 112, 3) := by decide +kernel
theorem dX6_carry_30 : decode cX6_carry 30 = .ok (.ifCond .eq 6, 3) := by decide +kernel
theorem dX6_carry_33 : decode cX6_carry 33 = .ok (.bipush (-2), 2) := by decide +kernel
theorem dX6_carry_35 : decode cX6_carry 35 = .ok (.ireturn, 1) := by decide +kernel
theorem dX6_carry_36 : decode cX6_carry 36 = .ok (.aload_n 0, 1) := by decide +kernel
theorem dX6_carry_37 : decode cX6_carry 37 = .ok (.invokevirtual 182, 3) := by decide +kernel
theorem dX6_carry_40 : decode cX6_carry 40 = .ok (.bipush (-9), 2) := by decide +kernel
theorem dX6_carry_42 : decode cX6_carry 42 = .ok (.istore_n 3, 1) := by decide +kernel
theorem dX6_carry_43 : decode cX6_carry 43 = .ok (.bipush (-9), 2) := by decide +kernel
theorem dX6_carry_45 : decode cX6_carry 45 = .ok (.istore 4, 2) := by decide +kernel
theorem dX6_carry_47 : decode cX6_carry 47 = .ok (.iconst 0, 1) := by decide +kernel
theorem dX6_carry_48 : decode cX6_carry 48 = .ok (.istore 5, 2) := by decide +kernel
theorem dX6_carry_50 : decode cX6_carry 50 = .ok (.iload 5, 2) := by decide +kernel
theorem dX6_carry_52 : decode cX6_carry 52 = .ok (.aload_n 0, 1) := by decide +kernel
theorem dX6_carry_53 : decode cX6_carry 53 = .ok (.getfield 55, 3) := by decide +kernel
theorem dX6_carry_56 : decode cX6_carry 56 = .ok (.getfield 185, 3) := by decide +kernel
theorem dX6_carry_59 : decode cX6_carry 59 = .ok (.if_icmp .ge 57, 3) := by decide +kernel
theorem dX6_carry_62 : decode cX6_carry 62 = .ok (.aload_n 0, 1) := by decide +kernel
theorem dX6_carry_63 : decode cX6_carry 63 = .ok (.getfield 41, 3) := by decide +kernel
theorem dX6_carry_66 : decode cX6_carry 66 = .ok (.getfield 188, 3) := by decide +kernel
theorem dX6_carry_69 : decode cX6_carry 69 = .ok (.iload_n 1, 1) := by decide +kernel
theorem dX6_carry_70 : decode cX6_carry 70 = .ok (.aload_n 0, 1) := by decide +kernel
theorem dX6_carry_71 : decode cX6_carry 71 = .ok (.getfield 55, 3) := by decide +kernel
theorem dX6_carry_74 : decode cX6_carry 74 = .ok (.aload_n 0, 1) := by decide +kernel
theorem dX6_carry_75 : decode cX6_carry 75 = .ok (.getfield 19, 3) := by decide +kernel
theorem dX6_carry_78 : decode cX6_carry 78 = .ok (.iload 5, 2) := by decide +kernel
theorem dX6_carry_80 : decode cX6_carry 80 = .ok (.invokevirtual 99, 3) := by decide +kernel
theorem dX6_carry_83 : decode cX6_carry 83 = .ok (.invokevirtual 191, 3) := by decide +kernel
theorem dX6_carry_86 : decode cX6_carry 86 = .ok (.iastore, 1) := by decide +kernel
theorem dX6_carry_87 : decode cX6_carry 87 = .ok (.aload_n 0, 1) := by decide +kernel
theorem dX6_carry_88 : decode cX6_carry 88 = .ok (.getfield 41, 3) := by decide +kernel
theorem dX6_carry_91 : decode cX6_carry 91 = .ok (.invokevirtual 194, 3) := by decide +kernel
theorem dX6_carry_94 : decode cX6_carry 94 = .ok (.istore 6, 2) := by decide +kernel
theorem dX6_carry_96 : decode cX6_carry 96 = .ok (.iload 6, 2) := by decide +kernel
theorem dX6_carry_98 : decode cX6_carry 98 = .ok (.iload 4, 2) := by decide +kernel
theorem dX6_carry_100 : decode cX6_carry 100 = .ok (.if_icmp .le 10, 3) := by decide +kernel
theorem dX6_carry_103 : decode cX6_carry 103 = .ok (.iload 5, 2) := by decide +kernel
theorem dX6_carry_105 : decode cX6_carry 105 = .ok (.istore_n 3, 1) := by decide +kernel
theorem dX6_carry_106 : decode cX6_carry 106 = .ok (.iload 6, 2) := by decide +kernel
theorem dX6_carry_108 : decode cX6_carry 108 = .ok (.istore 4, 2) := by decide +kernel
theorem dX6_carry_110 : decode cX6_carry 110 = .ok (.iinc 5 1, 3) := by decide +kernel
theorem dX6_carry_113 : decode cX6_carry 113 = .ok (.goto (-63), 3) := by decide +kernel
theorem dX6_carry_116 : decode cX6_carry 116 = .ok (.iload_n 2, 1) := by decide +kernel
theorem dX6_carry_117 : decode cX6_carry 117 = .ok (.ifCond .ne 7, 3) := by decide +kernel
theorem dX6_carry_120 : decode cX6_carry 120 = .ok (.iload_n 3, 1) := by decide +kernel
theorem dX6_carry_121 : decode cX6_carry 121 = .ok (.goto 5, 3) := by decide +kernel
theorem dX6_carry_124 : decode cX6_carry 124 = .ok (.iload 4, 2) := by decide +kernel
theorem dX6_carry_126 : decode cX6_carry 126 = .ok (.ireturn, 1) := by decide +kernel
theorem dX6_join_0 : decode cX6_join 0 = .ok (.iload_n 1, 1) := by decide +kernel
theorem dX6_join_1 : decode cX6_join 1 = .ok (.ifCond .lt 10, 3) := by decide +kernel
theorem dX6_join_4 : decode cX6_join 4 = .ok (.iload_n 1, 1) := by decide +kernel
theorem dX6_join_5 : decode cX6_join 5 = .ok (.sipush 198, 3) := by decide +kernel
theorem dX6_join_8 : decode cX6_join 8 = .ok (.if_icmp .le 5, 3) := by decide +kernel
theorem dX6_join_11 : decode cX6_join 11 = .ok (.iconst (-1), 1) := by decide +kernel
theorem dX6_join_12 : decode cX6_join 12 = .ok (.ireturn, 1) := by decide +kernel
theorem dX6_join_13 : decode cX6_join 13 = .ok (.bipush (-9), 2) := by decide +kernel
theorem dX6_join_15 : decode cX6_join 15 = .ok (.istore_n 2, 1) := by decide +kernel
theorem dX6_join_16 : decode cX6_join 16 = .ok (.bipush 7, 2) := by decide +kernel
theorem dX6_join_18 : decode cX6_join 18 = .ok (.istore_n 3, 1) := by decide +kernel
theorem dX6_join_19 : decode cX6_join 19 = .ok (.iconst 1, 1) := by decide +kernel
theorem dX6_join_20 : decode cX6_join 20 = .ok (.istore 4, 2) := by decide +kernel
theorem dX6_join_22 : decode cX6_join 22 = .ok (.iload 4, 2) := by decide +kernel
theorem dX6_join_24 : decode cX6_join 24 = .ok (.aload_n 0, 1) := by decide +kernel
theorem dX6_join_25 : decode cX6_join 25 = .ok (.getfield 55, 3) := by decide +kernel
theorem dX6_join_28 : decode cX6_join 28 = .ok (.getfield 185, 3) := by decide +kernel
theorem dX6_join_31 : decode cX6_join 31 = .ok (.invokestatic 170, 3) := by decide +kernel
theorem dX6_join_34 : decode cX6_join 34 = .ok (.if_icmp .ge 41, 3) := by decide +kernel
theorem dX6_join_37 : decode cX6_join 37 = .ok (.iload 4, 2) := by decide +kernel
theorem dX6_join_39 : decode cX6_join 39 = .ok (.invokestatic 197, 3) := by decide +kernel
theorem dX6_join_42 : decode cX6_join 42 = .ok (.istore 5, 2) := by decide +kernel
theorem dX6_join_44 : decode cX6_join 44 = .ok (.iload 5, 2) := by decide +kernel
theorem dX6_join_46 : decode cX6_join 46 = .ok (.iload_n 3, 1) := by decide +kernel
theorem dX6_join_47 : decode cX6_join 47 = .ok (.if_icmp .ge 22, 3) := by decide +kernel
theorem dX6_join_50 : decode cX6_join 50 = .ok (.aload_n 0, 1) := by decide +kernel
theorem dX6_join_51 : decode cX6_join 51 = .ok (.getfield 19, 3) := by decide +kernel
theorem dX6_join_54 : decode cX6_join 54 = .ok (.iload 4, 2) := by decide +kernel
theorem dX6_join_56 : decode cX6_join 56 = .ok (.invokevirtual 202, 3) := by decide +kernel
theorem dX6_join_59 : decode cX6_join 59 = .ok (.iload_n 1, 1) := by decide +kernel
theorem dX6_join_60 : decode cX6_join 60 = .ok (.if_icmp .ne 9, 3) := by decide +kernel
theorem dX6_join_63 : decode cX6_join 63 = .ok (.iload 4, 2) := by decide +kernel
theorem dX6_join_65 : decode cX6_join 65 = .ok (.istore_n 2, 1) := by decide +kernel
theorem dX6_join_66 : decode cX6_join 66 = .ok (.iload 5, 2) := by decide +kernel
theorem dX6_join_68 : decode cX6_join 68 = .ok (.istore_n 3, 1) := by decide +kernel
theorem dX6_join_69 : decode cX6_join 69 = .ok (.iinc 4 1, 3) := by decide +kernel
theorem dX6_join_72 : decode cX6_join 72 = .ok (.goto (-50), 3) := by decide +kernel
theorem dX6_join_75 : decode cX6_join 75 = .ok (.iload_n 2, 1) := by decide +kernel
theorem dX6_join_76 : decode cX6_join 76 = .ok (.ireturn, 1) := by decide +kernel
theorem dX6_elder_0 : decode cX6_elder 0 = .ok (.iload_n 1, 1) := by decide +kernel
theorem dX6_elder_1 : decode cX6_elder 1 = .ok (.ifCond .lt 9, 3) := by decide +kernel
theorem dX6_elder_4 : decode cX6_elder 4 = .ok (.iload_n 1, 1) := by decide +kernel
theorem dX6_elder_5 : decode cX6_elder 5 = .ok (.bipush 6, 2) := by decide +kernel
theorem dX6_elder_7 : decode cX6_elder 7 = .ok (.if_icmp .lt 5, 3) := by decide +kernel
theorem dX6_elder_10 : decode cX6_elder 10 = .ok (.iconst (-1), 1) := by decide +kernel
theorem dX6_elder_11 : decode cX6_elder 11 = .ok (.ireturn, 1) := by decide +kernel
theorem dX6_elder_12 : decode cX6_elder 12 = .ok (.iconst 0, 1) := by decide +kernel
theorem dX6_elder_13 : decode cX6_elder 13 = .ok (.istore_n 2, 1) := by decide +kernel
theorem dX6_elder_14 : decode cX6_elder 14 = .ok (.iload_n 2, 1) := by decide +kernel
theorem dX6_elder_15 : decode cX6_elder 15 = .ok (.aload_n 0, 1) := by decide +kernel
theorem dX6_elder_16 : decode cX6_elder 16 = .ok (.getfield 55, 3) := by decide +kernel
theorem dX6_elder_19 : decode cX6_elder 19 = .ok (.getfield 205, 3) := by decide +kernel
theorem dX6_elder_22 : decode cX6_elder 22 = .ok (.if_icmp .ge 37, 3) := by decide +kernel
theorem dX6_elder_25 : decode cX6_elder 25 = .ok (.aload_n 0, 1) := by decide +kernel
theorem dX6_elder_26 : decode cX6_elder 26 = .ok (.getfield 19, 3) := by decide +kernel
theorem dX6_elder_29 : decode cX6_elder 29 = .ok (.getfield 116, 3) := by decide +kernel
theorem dX6_elder_32 : decode cX6_elder 32 = .ok (.iload_n 2, 1) := by decide +kernel
theorem dX6_elder_33 : decode cX6_elder 33 = .ok (.invokestatic 112, 3) := by decide +kernel
theorem dX6_elder_36 : decode cX6_elder 36 = .ok (.ifCond .eq 17, 3) := by decide +kernel
theorem dX6_elder_39 : decode cX6_elder 39 = .ok (.aload_n 0, 1) := by decide +kernel
theorem dX6_elder_40 : decode cX6_elder 40 = .ok (.getfield 19, 3) := by decide +kernel
theorem dX6_elder_43 : decode cX6_elder 43 = .ok (.iload_n 2, 1) := by decide +kernel
theorem dX6_elder_44 : decode cX6_elder 44 = .ok (.invokevirtual 208, 3) := by decide +kernel
theorem dX6_elder_47 : decode cX6_elder 47 = .ok (.iload_n 1, 1) := by decide +kernel
theorem dX6_elder_48 : decode cX6_elder 48 = .ok (.if_icmp .ne 5, 3) := by decide +kernel
theorem dX6_elder_51 : decode cX6_elder 51 = .ok (.iload_n 2, 1) := by decide +kernel
theorem dX6_elder_52 : decode cX6_elder 52 = .ok (.ireturn, 1) := by decide +kernel
theorem dX6_elder_53 : decode cX6_elder 53 = .ok (.iinc 2 1, 3) := by decide +kernel
theorem dX6_elder_56 : decode cX6_elder 56 = .ok (.goto (-42), 3) := by decide +kernel
theorem dX6_elder_59 : decode cX6_elder 59 = .ok (.bipush (-9), 2) := by decide +kernel
theorem dX6_elder_61 : decode cX6_elder 61 = .ok (.ireturn, 1) := by decide +kernel
theorem dX6_odds_0 : decode cX6_odds 0 = .ok (.aload_n 0, 1) := by decide +kernel
theorem dX6_odds_1 : decode cX6_odds 1 = .ok (.iload_n 1, 1) := by decide +kernel
theorem dX6_odds_2 : decode cX6_odds 2 = .ok (.invokevirtual 125, 3) := by decide +kernel
theorem dX6_odds_5 : decode cX6_odds 5 = .ok (.ifCond .eq 12, 3) := by decide +kernel
theorem dX6_odds_8 : decode cX6_odds 8 = .ok (.iload_n 2, 1) := by decide +kernel
theorem dX6_odds_9 : decode cX6_odds 9 = .ok (.ifCond .lt 8, 3) := by decide +kernel
theorem dX6_odds_12 : decode cX6_odds 12 = .ok (.iload_n 2, 1) := by decide +kernel
theorem dX6_odds_13 : decode cX6_odds 13 = .ok (.iconst 1, 1) := by decide +kernel
theorem dX6_odds_14 : decode cX6_odds 14 = .ok (.if_icmp .le 5, 3) := by decide +kernel
theorem dX6_odds_17 : decode cX6_odds 17 = .ok (.iconst (-1), 1) := by decide +kernel
theorem dX6_odds_18 : decode cX6_odds 18 = .ok (.ireturn, 1) := by decide +kernel
theorem dX6_odds_19 : decode cX6_odds 19 = .ok (.aload_n 0, 1) := by decide +kernel
theorem dX6_odds_20 : decode cX6_odds 20 = .ok (.getfield 55, 3) := by decide +kernel
theorem dX6_odds_23 : decode cX6_odds 23 = .ok (.getfield 185, 3) := by decide +kernel
theorem dX6_odds_26 : decode cX6_odds 26 = .ok (.ifCond .ne 5, 3) := by decide +kernel
theorem dX6_odds_29 : decode cX6_odds 29 = .ok (.iload_n 2, 1) := by decide +kernel
theorem dX6_odds_30 : decode cX6_odds 30 = .ok (.ireturn, 1) := by decide +kernel
theorem dX6_odds_31 : decode cX6_odds 31 = .ok (.aload_n 0, 1) := by decide +kernel
theorem dX6_odds_32 : decode cX6_odds 32 = .ok (.getfield 55, 3) := by decide +kernel
theorem dX6_odds_35 : decode cX6_odds 35 = .ok (.getfield 205, 3) := by decide +kernel
theorem dX6_odds_38 : decode cX6_odds 38 = .ok (.aload_n 0, 1) := by decide +kernel
theorem dX6_odds_39 : decode cX6_odds 39 = .ok (.getfield 19, 3) := by decide +kernel
theorem dX6_odds_42 : decode cX6_odds 42 = .ok (.getfield 109, 3) := by decide +kernel
theorem dX6_odds_45 : decode cX6_odds 45 = .ok (.invokestatic 197, 3) := by decide +kernel
theorem dX6_odds_48 : decode cX6_odds 48 = .ok (.isub, 1) := by decide +kernel
theorem dX6_odds_49 : decode cX6_odds 49 = .ok (.istore_n 3, 1) := by decide +kernel
theorem dX6_odds_50 : decode cX6_odds 50 = .ok (.aload_n 0, 1) := by decide +kernel
theorem dX6_odds_51 : decode cX6_odds 51 = .ok (.getfield 55, 3) := by decide +kernel
theorem dX6_odds_54 : decode cX6_odds 54 = .ok (.getfield 185, 3) := by decide +kernel
theorem dX6_odds_57 : decode cX6_odds 57 = .ok (.iload_n 3, 1) := by decide +kernel
theorem dX6_odds_58 : decode cX6_odds 58 = .ok (.invokestatic 211, 3) := by decide +kernel
theorem dX6_odds_61 : decode cX6_odds 61 = .ok (.istore 4, 2) := by decide +kernel
theorem dX6_odds_63 : decode cX6_odds 63 = .ok (.iload 4, 2) := by decide +kernel
theorem dX6_odds_65 : decode cX6_odds 65 = .ok (.aload_n 0, 1) := by decide +kernel
theorem dX6_odds_66 : decode cX6_odds 66 = .ok (.getfield 55, 3) := by decide +kernel
theorem dX6_odds_69 : decode cX6_odds 69 = .ok (.getfield 185, 3) := by decide +kernel
theorem dX6_odds_72 : decode cX6_odds 72 = .ok (.aload_n 0, 1) := by decide +kernel
theorem dX6_odds_73 : decode cX6_odds 73 = .ok (.iload_n 1, 1) := by decide +kernel
theorem dX6_odds_74 : decode cX6_odds 74 = .ok (.invokevirtual 214, 3) := by decide +kernel
theorem dX6_odds_77 : decode cX6_odds 77 = .ok (.isub, 1) := by decide +kernel
theorem dX6_odds_78 : decode cX6_odds 78 = .ok (.iload_n 3, 1) := by decide +kernel
theorem dX6_odds_79 : decode cX6_odds 79 = .ok (.invokestatic 211, 3) := by decide +kernel
theorem dX6_odds_82 : decode cX6_odds 82 = .ok (.isub, 1) := by decide +kernel
theorem dX6_odds_83 : decode cX6_odds 83 = .ok (.istore 5, 2) := by decide +kernel
theorem dX6_odds_85 : decode cX6_odds 85 = .ok (.iload 5, 2) := by decide +kernel
theorem dX6_odds_87 : decode cX6_odds 87 = .ok (.iload 4, 2) := by decide +kernel
theorem dX6_odds_89 : decode cX6_odds 89 = .ok (.invokestatic 217, 3) := by decide +kernel
theorem dX6_odds_92 : decode cX6_odds 92 = .ok (.istore 6, 2) := by decide +kernel
theorem dX6_odds_94 : decode cX6_odds 94 = .ok (.iload 6, 2) := by decide +kernel
theorem dX6_odds_96 : decode cX6_odds 96 = .ok (.ifCond .ne 5, 3) := by decide +kernel
theorem dX6_odds_99 : decode cX6_odds 99 = .ok (.iload_n 2, 1) := by decide +kernel
theorem dX6_odds_100 : decode cX6_odds 100 = .ok (.ireturn, 1) := by decide +kernel
theorem dX6_odds_101 : decode cX6_odds 101 = .ok (.iload_n 2, 1) := by decide +kernel
theorem dX6_odds_102 : decode cX6_odds 102 = .ok (.ifCond .ne 8, 3) := by decide +kernel
theorem dX6_odds_105 : decode cX6_odds 105 = .ok (.iload 5, 2) := by decide +kernel
theorem dX6_odds_107 : decode cX6_odds 107 = .ok (.goto 5, 3) := by decide +kernel
theorem dX6_odds_110 : decode cX6_odds 110 = .ok (.iload 4, 2) := by decide +kernel
theorem dX6_odds_112 : decode cX6_odds 112 = .ok (.iload 6, 2) := by decide +kernel
theorem dX6_odds_114 : decode cX6_odds 114 = .ok (.idiv, 1) := by decide +kernel
theorem dX6_odds_115 : decode cX6_odds 115 = .ok (.ireturn, 1) := by decide +kernel
theorem dX6_sees_0 : decode cX6_sees 0 = .ok (.aload_n 0, 1) := by decide +kernel
theorem dX6_sees_1 : decode cX6_sees 1 = .ok (.iload_n 1, 1) := by decide +kernel
theorem dX6_sees_2 : decode cX6_sees 2 = .ok (.invokevirtual 125, 3) := by decide +kernel
theorem dX6_sees_5 : decode cX6_sees 5 = .ok (.ifCond .eq 12, 3) := by decide +kernel
theorem dX6_sees_8 : decode cX6_sees 8 = .ok (.iload_n 2, 1) := by decide +kernel
theorem dX6_sees_9 : decode cX6_sees 9 = .ok (.ifCond .lt 8, 3) := by decide +kernel
theorem dX6_sees_12 : decode cX6_sees 12 = .ok (.iload_n 2, 1) := by decide +kernel
theorem dX6_sees_13 : decode cX6_sees 13 = .ok (.iconst 1, 1) := by decide +kernel
theorem dX6_sees_14 : decode cX6_sees 14 = .ok (.if_icmp .le 5, 3) := by decide +kernel
theorem dX6_sees_17 : decode cX6_sees 17 = .ok (.iconst (-1), 1) := by decide +kernel
theorem dX6_sees_18 : decode cX6_sees 18 = .ok (.ireturn, 1) := by decide +kernel
theorem dX6_sees_19 : decode cX6_sees 19 = .ok (.aload_n 0, 1) := by decide +kernel
theorem dX6_sees_20 : decode cX6_sees 20 = .ok (.getfield 48, 3) := by decide +kernel
theorem dX6_sees_23 : decode cX6_sees 23 = .ok (.getfield 220, 3) := by decide +kernel
theorem dX6_sees_26 : decode cX6_sees 26 = .ok (.bipush 6, 2) := by decide +kernel
theorem dX6_sees_28 : decode cX6_sees 28 = .ok (.if_icmp .lt 6, 3) := by decide +kernel
theorem dX6_sees_31 : decode cX6_sees 31 = .ok (.bipush (-3), 2) := by decide +kernel
theorem dX6_sees_33 : decode cX6_sees 33 = .ok (.ireturn, 1) := by decide +kernel
theorem dX6_sees_34 : decode cX6_sees 34 = .ok (.aload_n 0, 1) := by decide +kernel
theorem dX6_sees_35 : decode cX6_sees 35 = .ok (.getfield 48, 3) := by decide +kernel
theorem dX6_sees_38 : decode cX6_sees 38 = .ok (.iload_n 1, 1) := by decide +kernel
theorem dX6_sees_39 : decode cX6_sees 39 = .ok (.iload_n 2, 1) := by decide +kernel
theorem dX6_sees_40 : decode cX6_sees 40 = .ok (.iconst 1, 1) := by decide +kernel
theorem dX6_sees_41 : decode cX6_sees 41 = .ok (.if_icmp .ne 7, 3) := by decide +kernel
theorem dX6_sees_44 : decode cX6_sees 44 = .ok (.iconst 1, 1) := by decide +kernel
theorem dX6_sees_45 : decode cX6_sees 45 = .ok (.goto 4, 3) := by decide +kernel
theorem dX6_sees_48 : decode cX6_sees 48 = .ok (.iconst 0, 1) := by decide +kernel
theorem dX6_sees_49 : decode cX6_sees 49 = .ok (.invokevirtual 221, 3) := by decide +kernel
theorem dX6_sees_52 : decode cX6_sees 52 = .ok (.aload_n 0, 1) := by decide +kernel
theorem dX6_sees_53 : decode cX6_sees 53 = .ok (.getfield 48, 3) := by decide +kernel
theorem dX6_sees_56 : decode cX6_sees 56 = .ok (.getfield 220, 3) := by decide +kernel
theorem dX6_sees_59 : decode cX6_sees 59 = .ok (.ireturn, 1) := by decide +kernel
theorem dX6_forget_0 : decode cX6_forget 0 = .ok (.aload_n 0, 1) := by decide +kernel
theorem dX6_forget_1 : decode cX6_forget 1 = .ok (.getfield 48, 3) := by decide +kernel
theorem dX6_forget_4 : decode cX6_forget 4 = .ok (.getfield 220, 3) := by decide +kernel
theorem dX6_forget_7 : decode cX6_forget 7 = .ok (.istore_n 1, 1) := by decide +kernel
theorem dX6_forget_8 : decode cX6_forget 8 = .ok (.aload_n 0, 1) := by decide +kernel
theorem dX6_forget_9 : decode cX6_forget 9 = .ok (.getfield 48, 3) := by decide +kernel
theorem dX6_forget_12 : decode cX6_forget 12 = .ok (.iconst 0, 1) := by decide +kernel
theorem dX6_forget_13 : decode cX6_forget 13 = .ok (.putfield 220, 3) := by decide +kernel
theorem dX6_forget_16 : decode cX6_forget 16 = .ok (.iload_n 1, 1) := by decide +kernel
theorem dX6_forget_17 : decode cX6_forget 17 = .ok (.ireturn, 1) := by decide +kernel
theorem dX6_ages_0 : decode cX6_ages 0 = .ok (.iload_n 1, 1) := by decide +kernel
theorem dX6_ages_1 : decode cX6_ages 1 = .ok (.tableswitch 42 0 2 #[27, 32, 37], 27) := by decide +kernel
theorem dX6_ages_28 : decode cX6_ages 28 = .ok (.aload_n 0, 1) := by decide +kernel
theorem dX6_ages_29 : decode cX6_ages 29 = .ok (.invokevirtual 224, 3) := by decide +kernel
theorem dX6_ages_32 : decode cX6_ages 32 = .ok (.ireturn, 1) := by decide +kernel
theorem dX6_ages_33 : decode cX6_ages 33 = .ok (.aload_n 0, 1) := by decide +kernel
theorem dX6_ages_34 : decode cX6_ages 34 = .ok (.invokevirtual 227, 3) := by decide +kernel
theorem dX6_ages_37 : decode cX6_ages 37 = .ok (.ireturn, 1) := by decide +kernel
theorem dX6_ages_38 : decode cX6_ages 38 = .ok (.aload_n 0, 1) := by decide +kernel
theorem dX6_ages_39 : decode cX6_ages 39 = .ok (.invokevirtual 230, 3) := by decide +kernel
theorem dX6_ages_42 : decode cX6_ages 42 = .ok (.ireturn, 1) := by decide +kernel
theorem dX6_ages_43 : decode cX6_ages 43 = .ok (.iconst (-1), 1) := by decide +kernel
theorem dX6_ages_44 : decode cX6_ages 44 = .ok (.ireturn, 1) := by decide +kernel
theorem dX6_next_0 : decode cX6_next 0 = .ok (.aload_n 0, 1) := by decide +kernel
theorem dX6_next_1 : decode cX6_next 1 = .ok (.invokevirtual 224, 3) := by decide +kernel
theorem dX6_next_4 : decode cX6_next 4 = .ok (.istore_n 1, 1) := by decide +kernel
theorem dX6_next_5 : decode cX6_next 5 = .ok (.iload_n 1, 1) := by decide +kernel
theorem dX6_next_6 : decode cX6_next 6 = .ok (.iconst 1, 1) := by decide +kernel
theorem dX6_next_7 : decode cX6_next 7 = .ok (.if_icmp .gt 6, 3) := by decide +kernel
theorem dX6_next_10 : decode cX6_next 10 = .ok (.bipush (-9), 2) := by decide +kernel
theorem dX6_next_12 : decode cX6_next 12 = .ok (.ireturn, 1) := by decide +kernel
theorem dX6_next_13 : decode cX6_next 13 = .ok (.bipush (-9), 2) := by decide +kernel
theorem dX6_next_15 : decode cX6_next 15 = .ok (.istore_n 2, 1) := by decide +kernel
theorem dX6_next_16 : decode cX6_next 16 = .ok (.iload_n 1, 1) := by decide +kernel
theorem dX6_next_17 : decode cX6_next 17 = .ok (.iconst 1, 1) := by decide +kernel
theorem dX6_next_18 : decode cX6_next 18 = .ok (.iadd, 1) := by decide +kernel
theorem dX6_next_19 : decode cX6_next 19 = .ok (.istore_n 3, 1) := by decide +kernel
theorem dX6_next_20 : decode cX6_next 20 = .ok (.iconst 0, 1) := by decide +kernel
theorem dX6_next_21 : decode cX6_next 21 = .ok (.istore 4, 2) := by decide +kernel
theorem dX6_next_23 : decode cX6_next 23 = .ok (.iload 4, 2) := by decide +kernel
theorem dX6_next_25 : decode cX6_next 25 = .ok (.aload_n 0, 1) := by decide +kernel
theorem dX6_next_26 : decode cX6_next 26 = .ok (.getfield 55, 3) := by decide +kernel
theorem dX6_next_29 : decode cX6_next 29 = .ok (.getfield 233, 3) := by decide +kernel
theorem dX6_next_32 : decode cX6_next 32 = .ok (.if_icmp .ge 40, 3) := by decide +kernel
theorem dX6_next_35 : decode cX6_next 35 = .ok (.aload_n 0, 1) := by decide +kernel
theorem dX6_next_36 : decode cX6_next 36 = .ok (.iload 4, 2) := by decide +kernel
theorem dX6_next_38 : decode cX6_next 38 = .ok (.invokevirtual 236, 3) := by decide +kernel
theorem dX6_next_41 : decode cX6_next 41 = .ok (.istore 5, 2) := by decide +kernel
theorem dX6_next_43 : decode cX6_next 43 = .ok (.iload 5, 2) := by decide +kernel
theorem dX6_next_45 : decode cX6_next 45 = .ok (.iload_n 1, 1) := by decide +kernel
theorem dX6_next_46 : decode cX6_next 46 = .ok (.iload 5, 2) := by decide +kernel
theorem dX6_next_48 : decode cX6_next 48 = .ok (.isub, 1) := by decide +kernel
theorem dX6_next_49 : decode cX6_next 49 = .ok (.invokestatic 239, 3) := by decide +kernel
theorem dX6_next_52 : decode cX6_next 52 = .ok (.istore 6, 2) := by decide +kernel
theorem dX6_next_54 : decode cX6_next 54 = .ok (.iload 6, 2) := by decide +kernel
theorem dX6_next_56 : decode cX6_next 56 = .ok (.iload_n 3, 1) := by decide +kernel
theorem dX6_next_57 : decode cX6_next 57 = .ok (.if_icmp .ge 9, 3) := by decide +kernel
theorem dX6_next_60 : decode cX6_next 60 = .ok (.iload 4, 2) := by decide +kernel
theorem dX6_next_62 : decode cX6_next 62 = .ok (.istore_n 2, 1) := by decide +kernel
theorem dX6_next_63 : decode cX6_next 63 = .ok (.iload 6, 2) := by decide +kernel
theorem dX6_next_65 : decode cX6_next 65 = .ok (.istore_n 3, 1) := by decide +kernel
theorem dX6_next_66 : decode cX6_next 66 = .ok (.iinc 4 1, 3) := by decide +kernel
theorem dX6_next_69 : decode cX6_next 69 = .ok (.goto (-46), 3) := by decide +kernel
theorem dX6_next_72 : decode cX6_next 72 = .ok (.iload_n 2, 1) := by decide +kernel
theorem dX6_next_73 : decode cX6_next 73 = .ok (.ireturn, 1) := by decide +kernel
theorem dX6_rate_0 : decode cX6_rate 0 = .ok (.iload_n 1, 1) := by decide +kernel
theorem dX6_rate_1 : decode cX6_rate 1 = .ok (.ifCond .lt 17, 3) := by decide +kernel
theorem dX6_rate_4 : decode cX6_rate 4 = .ok (.iload_n 1, 1) := by decide +kernel
theorem dX6_rate_5 : decode cX6_rate 5 = .ok (.bipush 6, 2) := by decide +kernel
theorem dX6_rate_7 : decode cX6_rate 7 = .ok (.if_icmp .ge 11, 3) := by decide +kernel
theorem dX6_rate_10 : decode cX6_rate 10 = .ok (.aload_n 0, 1) := by decide +kernel
theorem dX6_rate_11 : decode cX6_rate 11 = .ok (.iload_n 2, 1) := by decide +kernel
theorem dX6_rate_12 : decode cX6_rate 12 = .ok (.invokevirtual 106, 3) := by decide +kernel
theorem dX6_rate_15 : decode cX6_rate 15 = .ok (.ifCond .ne 6, 3) := by decide +kernel
theorem dX6_rate_18 : decode cX6_rate 18 = .ok (.ldc 244, 2) := by decide +kernel
theorem dX6_rate_20 : decode cX6_rate 20 = .ok (.ireturn, 1) := by decide +kernel
theorem dX6_rate_21 : decode cX6_rate 21 = .ok (.iload_n 1, 1) := by decide +kernel
theorem dX6_rate_22 : decode cX6_rate 22 = .ok (.tableswitch 64 1 5 #[34, 40, 46, 52, 58], 34) := by decide +kernel
theorem dX6_rate_56 : decode cX6_rate 56 = .ok (.aload_n 0, 1) := by decide +kernel
theorem dX6_rate_57 : decode cX6_rate 57 = .ok (.iload_n 2, 1) := by decide +kernel
theorem dX6_rate_58 : decode cX6_rate 58 = .ok (.invokevirtual 245, 3) := by decide +kernel
theorem dX6_rate_61 : decode cX6_rate 61 = .ok (.ireturn, 1) := by decide +kernel
theorem dX6_rate_62 : decode cX6_rate 62 = .ok (.aload_n 0, 1) := by decide +kernel
theorem dX6_rate_63 : decode cX6_rate 63 = .ok (.iload_n 2, 1) := by decide +kernel
theorem dX6_rate_64 : decode cX6_rate 64 = .ok (.invokevirtual 248, 3) := by decide +kernel
theorem dX6_rate_67 : decode cX6_rate 67 = .ok (.ireturn, 1) := by decide +kernel
theorem dX6_rate_68 : decode cX6_rate 68 = .ok (.aload_n 0, 1) := by decide +kernel
theorem dX6_rate_69 : decode cX6_rate 69 = .ok (.iload_n 2, 1) := by decide +kernel
theorem dX6_rate_70 : decode cX6_rate 70 = .ok (.invokevirtual 251, 3) := by decide +kernel
theorem dX6_rate_73 : decode cX6_rate 73 = .ok (.ireturn, 1) := by decide +kernel
theorem dX6_rate_74 : decode cX6_rate 74 = .ok (.aload_n 0, 1) := by decide +kernel
theorem dX6_rate_75 : decode cX6_rate 75 = .ok (.iload_n 2, 1) := by decide +kernel
theorem dX6_rate_76 : decode cX6_rate 76 = .ok (.invokevirtual 254, 3) := by decide +kernel
theorem dX6_rate_79 : decode cX6_rate 79 = .ok (.ireturn, 1) := by decide +kernel
theorem dX6_rate_80 : decode cX6_rate 80 = .ok (.aload_n 0, 1) := by decide +kernel
theorem dX6_rate_81 : decode cX6_rate 81 = .ok (.iload_n 2, 1) := by decide +kernel
theorem dX6_rate_82 : decode cX6_rate 82 = .ok (.invokevirtual 257, 3) := by decide +kernel
theorem dX6_rate_85 : decode cX6_rate 85 = .ok (.ireturn, 1) := by decide +kernel
theorem dX6_rate_86 : decode cX6_rate 86 = .ok (.aload_n 0, 1) := by decide +kernel
theorem dX6_rate_87 : decode cX6_rate 87 = .ok (.iload_n 2, 1) := by decide +kernel
theorem dX6_rate_88 : decode cX6_rate 88 = .ok (.invokevirtual 260, 3) := by decide +kernel
theorem dX6_rate_91 : decode cX6_rate 91 = .ok (.ireturn, 1) := by decide +kernel
theorem dX6_keep_0 : decode cX6_keep 0 = .ok (.iload_n 1, 1) := by decide +kernel
theorem dX6_keep_1 : decode cX6_keep 1 = .ok (.invokestatic 263, 3) := by decide +kernel
theorem dX6_keep_4 : decode cX6_keep 4 = .ok (.ifCond .ne 5, 3) := by decide +kernel
theorem dX6_keep_7 : decode cX6_keep 7 = .ok (.iconst (-1), 1) := by decide +kernel
theorem dX6_keep_8 : decode cX6_keep 8 = .ok (.ireturn, 1) := by decide +kernel
theorem dX6_keep_9 : decode cX6_keep 9 = .ok (.aload_n 0, 1) := by decide +kernel
theorem dX6_keep_10 : decode cX6_keep 10 = .ok (.getfield 30, 3) := by decide +kernel
theorem dX6_keep_13 : decode cX6_keep 13 = .ok (.iload_n 1, 1) := by decide +kernel
theorem dX6_keep_14 : decode cX6_keep 14 = .ok (.aaload, 1) := by decide +kernel
theorem dX6_keep_15 : decode cX6_keep 15 = .ok (.aload_n 0, 1) := by decide +kernel
theorem dX6_keep_16 : decode cX6_keep 16 = .ok (.getfield 19, 3) := by decide +kernel
theorem dX6_keep_19 : decode cX6_keep 19 = .ok (.invokevirtual 266, 3) := by decide +kernel
theorem dX6_keep_22 : decode cX6_keep 22 = .ok (.aload_n 0, 1) := by decide +kernel
theorem dX6_keep_23 : decode cX6_keep 23 = .ok (.getfield 34, 3) := by decide +kernel
theorem dX6_keep_26 : decode cX6_keep 26 = .ok (.iload_n 1, 1) := by decide +kernel
theorem dX6_keep_27 : decode cX6_keep 27 = .ok (.iconst 1, 1) := by decide +kernel
theorem dX6_keep_28 : decode cX6_keep 28 = .ok (.bastore, 1) := by decide +kernel
theorem dX6_keep_29 : decode cX6_keep 29 = .ok (.aload_n 0, 1) := by decide +kernel
theorem dX6_keep_30 : decode cX6_keep 30 = .ok (.getfield 19, 3) := by decide +kernel
theorem dX6_keep_33 : decode cX6_keep 33 = .ok (.getfield 141, 3) := by decide +kernel
theorem dX6_keep_36 : decode cX6_keep 36 = .ok (.ireturn, 1) := by decide +kernel
theorem dX6_back_0 : decode cX6_back 0 = .ok (.iload_n 1, 1) := by decide +kernel
theorem dX6_back_1 : decode cX6_back 1 = .ok (.invokestatic 263, 3) := by decide +kernel
theorem dX6_back_4 : decode cX6_back 4 = .ok (.ifCond .ne 5, 3) := by decide +kernel
theorem dX6_back_7 : decode cX6_back 7 = .ok (.iconst (-1), 1) := by decide +kernel
theorem dX6_back_8 : decode cX6_back 8 = .ok (.ireturn, 1) := by decide +kernel
theorem dX6_back_9 : decode cX6_back 9 = .ok (.aload_n 0, 1) := by decide +kernel
theorem dX6_back_10 : decode cX6_back 10 = .ok (.getfield 34, 3) := by decide +kernel
theorem dX6_back_13 : decode cX6_back 13 = .ok (.iload_n 1, 1) := by decide +kernel
theorem dX6_back_14 : decode cX6_back 14 = .ok (.baload, 1) := by decide +kernel
theorem dX6_back_15 : decode cX6_back 15 = .ok (.ifCond .ne 6, 3) := by decide +kernel
theorem dX6_back_18 : decode cX6_back 18 = .ok (.bipush (-2), 2) := by decide +kernel
theorem dX6_back_20 : decode cX6_back 20 = .ok (.ireturn, 1) := by decide +kernel
theorem dX6_back_21 : decode cX6_back 21 = .ok (.aload_n 0, 1) := by decide +kernel
theorem dX6_back_22 : decode cX6_back 22 = .ok (.getfield 19, 3) := by decide +kernel
theorem dX6_back_25 : decode cX6_back 25 = .ok (.aload_n 0, 1) := by decide +kernel
theorem dX6_back_26 : decode cX6_back 26 = .ok (.getfield 30, 3) := by decide +kernel
theorem dX6_back_29 : decode cX6_back 29 = .ok (.iload_n 1, 1) := by decide +kernel
theorem dX6_back_30 : decode cX6_back 30 = .ok (.aaload, 1) := by decide +kernel
theorem dX6_back_31 : decode cX6_back 31 = .ok (.invokevirtual 266, 3) := by decide +kernel
theorem dX6_back_34 : decode cX6_back 34 = .ok (.aload_n 0, 1) := by decide +kernel
theorem dX6_back_35 : decode cX6_back 35 = .ok (.getfield 26, 3) := by decide +kernel
theorem dX6_back_38 : decode cX6_back 38 = .ok (.iconst 0, 1) := by decide +kernel
theorem dX6_back_39 : decode cX6_back 39 = .ok (.putfield 148, 3) := by decide +kernel
theorem dX6_back_42 : decode cX6_back 42 = .ok (.aload_n 0, 1) := by decide +kernel
theorem dX6_back_43 : decode cX6_back 43 = .ok (.getfield 19, 3) := by decide +kernel
theorem dX6_back_46 : decode cX6_back 46 = .ok (.getfield 141, 3) := by decide +kernel
theorem dX6_back_49 : decode cX6_back 49 = .ok (.ireturn, 1) := by decide +kernel
theorem dX6_count_0 : decode cX6_count 0 = .ok (.iload_n 1, 1) := by decide +kernel
theorem dX6_count_1 : decode cX6_count 1 = .ok (.tableswitch 87 0 5 #[39, 47, 55, 63, 71, 79], 39) := by decide +kernel
theorem dX6_count_40 : decode cX6_count 40 = .ok (.aload_n 0, 1) := by decide +kernel
theorem dX6_count_41 : decode cX6_count 41 = .ok (.getfield 55, 3) := by decide +kernel
theorem dX6_count_44 : decode cX6_count 44 = .ok (.getfield 185, 3) := by decide +kernel
theorem dX6_count_47 : decode cX6_count 47 = .ok (.ireturn, 1) := by decide +kernel
theorem dX6_count_48 : decode cX6_count 48 = .ok (.aload_n 0, 1) := by decide +kernel
theorem dX6_count_49 : decode cX6_count 49 = .ok (.getfield 55, 3) := by decide +kernel
theorem dX6_count_52 : decode cX6_count 52 = .ok (.getfield 205, 3) := by decide +kernel
theorem dX6_count_55 : decode cX6_count 55 = .ok (.ireturn, 1) := by decide +kernel
theorem dX6_count_56 : decode cX6_count 56 = .ok (.aload_n 0, 1) := by decide +kernel
theorem dX6_count_57 : decode cX6_count 57 = .ok (.getfield 55, 3) := by decide +kernel
theorem dX6_count_60 : decode cX6_count 60 = .ok (.getfield 233, 3) := by decide +kernel
theorem dX6_count_63 : decode cX6_count 63 = .ok (.ireturn, 1) := by decide +kernel
theorem dX6_count_64 : decode cX6_count 64 = .ok (.aload_n 0, 1) := by decide +kernel
theorem dX6_count_65 : decode cX6_count 65 = .ok (.getfield 55, 3) := by decide +kernel
theorem dX6_count_68 : decode cX6_count 68 = .ok (.getfield 155, 3) := by decide +kernel
theorem dX6_count_71 : decode cX6_count 71 = .ok (.ireturn, 1) := by decide +kernel
theorem dX6_count_72 : decode cX6_count 72 = .ok (.aload_n 0, 1) := by decide +kernel
theorem dX6_count_73 : decode cX6_count 73 = .ok (.getfield 48, 3) := by decide +kernel
theorem dX6_count_76 : decode cX6_count 76 = .ok (.getfield 220, 3) := by decide +kernel
theorem dX6_count_79 : decode cX6_count 79 = .ok (.ireturn, 1) := by decide +kernel
theorem dX6_count_80 : decode cX6_count 80 = .ok (.aload_n 0, 1) := by decide +kernel
theorem dX6_count_81 : decode cX6_count 81 = .ok (.getfield 10, 3) := by decide +kernel
theorem dX6_count_84 : decode cX6_count 84 = .ok (.getfield 70, 3) := by decide +kernel
theorem dX6_count_87 : decode cX6_count 87 = .ok (.ireturn, 1) := by decide +kernel
theorem dX6_count_88 : decode cX6_count 88 = .ok (.iconst (-1), 1) := by decide +kernel
theorem dX6_count_89 : decode cX6_count 89 = .ok (.ireturn, 1) := by decide +kernel
theorem dX6_trace_0 : decode cX6_trace 0 = .ok (.aload_n 0, 1) := by decide +kernel
theorem dX6_trace_1 : decode cX6_trace 1 = .ok (.getfield 62, 3) := by decide +kernel
theorem dX6_trace_4 : decode cX6_trace 4 = .ok (.lreturn, 1) := by decide +kernel
theorem dX6_beginAnew_0 : decode cX6_beginAnew 0 = .ok (.aload_n 0, 1) := by decide +kernel
theorem dX6_beginAnew_1 : decode cX6_beginAnew 1 = .ok (.getfield 19, 3) := by decide +kernel
theorem dX6_beginAnew_4 : decode cX6_beginAnew 4 = .ok (.aload_n 0, 1) := by decide +kernel
theorem dX6_beginAnew_5 : decode cX6_beginAnew 5 = .ok (.getfield 55, 3) := by decide +kernel
theorem dX6_beginAnew_8 : decode cX6_beginAnew 8 = .ok (.invokevirtual 66, 3) := by decide +kernel
theorem dX6_beginAnew_11 : decode cX6_beginAnew 11 = .ok (.aload_n 0, 1) := by decide +kernel
theorem dX6_beginAnew_12 : decode cX6_beginAnew 12 = .ok (.getfield 26, 3) := by decide +kernel
theorem dX6_beginAnew_15 : decode cX6_beginAnew 15 = .ok (.iconst 0, 1) := by decide +kernel
theorem dX6_beginAnew_16 : decode cX6_beginAnew 16 = .ok (.putfield 148, 3) := by decide +kernel
theorem dX6_beginAnew_19 : decode cX6_beginAnew 19 = .ok (.aload_n 0, 1) := by decide +kernel
theorem dX6_beginAnew_20 : decode cX6_beginAnew 20 = .ok (.getfield 48, 3) := by decide +kernel
theorem dX6_beginAnew_23 : decode cX6_beginAnew 23 = .ok (.iconst 0, 1) := by decide +kernel
theorem dX6_beginAnew_24 : decode cX6_beginAnew 24 = .ok (.putfield 220, 3) := by decide +kernel
theorem dX6_beginAnew_27 : decode cX6_beginAnew 27 = .ok (.iconst 0, 1) := by decide +kernel
theorem dX6_beginAnew_28 : decode cX6_beginAnew 28 = .ok (.istore_n 1, 1) := by decide +kernel
theorem dX6_beginAnew_29 : decode cX6_beginAnew 29 = .ok (.iload_n 1, 1) := by decide +kernel
theorem dX6_beginAnew_30 : decode cX6_beginAnew 30 = .ok (.iconst 2, 1) := by decide +kernel
theorem dX6_beginAnew_31 : decode cX6_beginAnew 31 = .ok (.if_icmp .ge 16, 3) := by decide +kernel
theorem dX6_beginAnew_34 : decode cX6_beginAnew 34 = .ok (.aload_n 0, 1) := by decide +kernel
theorem dX6_beginAnew_35 : decode cX6_beginAnew 35 = .ok (.getfield 34, 3) := by decide +kernel
theorem dX6_beginAnew_38 : decode cX6_beginAnew 38 = .ok (.iload_n 1, 1) := by decide +kernel
theorem dX6_beginAnew_39 : decode cX6_beginAnew 39 = .ok (.iconst 0, 1) := by decide +kernel
theorem dX6_beginAnew_40 : decode cX6_beginAnew 40 = .ok (.bastore, 1) := by decide +kernel
theorem dX6_beginAnew_41 : decode cX6_beginAnew 41 = .ok (.iinc 1 1, 3) := by decide +kernel
theorem dX6_beginAnew_44 : decode cX6_beginAnew 44 = .ok (.goto (-15), 3) := by decide +kernel
theorem dX6_beginAnew_47 : decode cX6_beginAnew 47 = .ok (.return_, 1) := by decide +kernel
theorem dX6_isRoom_0 : decode cX6_isRoom 0 = .ok (.iload_n 1, 1) := by decide +kernel
theorem dX6_isRoom_1 : decode cX6_isRoom 1 = .ok (.ifCond .lt 18, 3) := by decide +kernel
theorem dX6_isRoom_4 : decode cX6_isRoom 4 = .ok (.iload_n 1, 1) := by decide +kernel
theorem dX6_isRoom_5 : decode cX6_isRoom 5 = .ok (.aload_n 0, 1) := by decide +kernel
theorem dX6_isRoom_6 : decode cX6_isRoom 6 = .ok (.getfield 55, 3) := by decide +kernel
theorem dX6_isRoom_9 : decode cX6_isRoom 9 = .ok (.getfield 185, 3) := by decide +kernel
theorem dX6_isRoom_12 : decode cX6_isRoom 12 = .ok (.if_icmp .ge 7, 3) := by decide +kernel
theorem dX6_isRoom_15 : decode cX6_isRoom 15 = .ok (.iconst 1, 1) := by decide +kernel
theorem dX6_isRoom_16 : decode cX6_isRoom 16 = .ok (.goto 4, 3) := by decide +kernel
theorem dX6_isRoom_19 : decode cX6_isRoom 19 = .ok (.iconst 0, 1) := by decide +kernel
theorem dX6_isRoom_20 : decode cX6_isRoom 20 = .ok (.ireturn, 1) := by decide +kernel
theorem dX6_isMother_0 : decode cX6_isMother 0 = .ok (.iload_n 1, 1) := by decide +kernel
theorem dX6_isMother_1 : decode cX6_isMother 1 = .ok (.ifCond .lt 18, 3) := by decide +kernel
theorem dX6_isMother_4 : decode cX6_isMother 4 = .ok (.iload_n 1, 1) := by decide +kernel
theorem dX6_isMother_5 : decode cX6_isMother 5 = .ok (.aload_n 0, 1) := by decide +kernel
theorem dX6_isMother_6 : decode cX6_isMother 6 = .ok (.getfield 55, 3) := by decide +kernel
theorem dX6_isMother_9 : decode cX6_isMother 9 = .ok (.getfield 205, 3) := by decide +kernel
theorem dX6_isMother_12 : decode cX6_isMother 12 = .ok (.if_icmp .ge 7, 3) := by decide +kernel
theorem dX6_isMother_15 : decode cX6_isMother 15 = .ok (.iconst 1, 1) := by decide +kernel
theorem dX6_isMother_16 : decode cX6_isMother 16 = .ok (.goto 4, 3) := by decide +kernel
theorem dX6_isMother_19 : decode cX6_isMother 19 = .ok (.iconst 0, 1) := by decide +kernel
theorem dX6_isMother_20 : decode cX6_isMother 20 = .ok (.ireturn, 1) := by decide +kernel
theorem dX6_isWork_0 : decode cX6_isWork 0 = .ok (.iload_n 1, 1) := by decide +kernel
theorem dX6_isWork_1 : decode cX6_isWork 1 = .ok (.ifCond .lt 18, 3) := by decide +kernel
theorem dX6_isWork_4 : decode cX6_isWork 4 = .ok (.iload_n 1, 1) := by decide +kernel
theorem dX6_isWork_5 : decode cX6_isWork 5 = .ok (.aload_n 0, 1) := by decide +kernel
theorem dX6_isWork_6 : decode cX6_isWork 6 = .ok (.getfield 55, 3) := by decide +kernel
theorem dX6_isWork_9 : decode cX6_isWork 9 = .ok (.getfield 233, 3) := by decide +kernel
theorem dX6_isWork_12 : decode cX6_isWork 12 = .ok (.if_icmp .ge 7, 3) := by decide +kernel
theorem dX6_isWork_15 : decode cX6_isWork 15 = .ok (.iconst 1, 1) := by decide +kernel
theorem dX6_isWork_16 : decode cX6_isWork 16 = .ok (.goto 4, 3) := by decide +kernel
theorem dX6_isWork_19 : decode cX6_isWork 19 = .ok (.iconst 0, 1) := by decide +kernel
theorem dX6_isWork_20 : decode cX6_isWork 20 = .ok (.ireturn, 1) := by decide +kernel
theorem dX6_isImage_0 : decode cX6_isImage 0 = .ok (.iload_n 0, 1) := by decide +kernel
theorem dX6_isImage_1 : decode cX6_isImage 1 = .ok (.ifCond .lt 12, 3) := by decide +kernel
theorem dX6_isImage_4 : decode cX6_isImage 4 = .ok (.iload_n 0, 1) := by decide +kernel
theorem dX6_isImage_5 : decode cX6_isImage 5 = .ok (.iconst 2, 1) := by decide +kernel
theorem dX6_isImage_6 : decode cX6_isImage 6 = .ok (.if_icmp .ge 7, 3) := by decide +kernel
theorem dX6_isImage_9 : decode cX6_isImage 9 = .ok (.iconst 1, 1) := by decide +kernel
theorem dX6_isImage_10 : decode cX6_isImage 10 = .ok (.goto 4, 3) := by decide +kernel
theorem dX6_isImage_13 : decode cX6_isImage 13 = .ok (.iconst 0, 1) := by decide +kernel
theorem dX6_isImage_14 : decode cX6_isImage 14 = .ok (.ireturn, 1) := by decide +kernel
theorem dX6_bit_0 : decode cX6_bit 0 = .ok (.iconst 1, 1) := by decide +kernel
theorem dX6_bit_1 : decode cX6_bit 1 = .ok (.iload_n 0, 1) := by decide +kernel
theorem dX6_bit_2 : decode cX6_bit 2 = .ok (.ishl, 1) := by decide +kernel
theorem dX6_bit_3 : decode cX6_bit 3 = .ok (.ireturn, 1) := by decide +kernel
theorem dX6_has_0 : decode cX6_has 0 = .ok (.iload_n 0, 1) := by decide +kernel
theorem dX6_has_1 : decode cX6_has 1 = .ok (.iload_n 1, 1) := by decide +kernel
theorem dX6_has_2 : decode cX6_has 2 = .ok (.invokestatic 170, 3) := by decide +kernel
theorem dX6_has_5 : decode cX6_has 5 = .ok (.iand, 1) := by decide +kernel
theorem dX6_has_6 : decode cX6_has 6 = .ok (.ifCond .eq 7, 3) := by decide +kernel
theorem dX6_has_9 : decode cX6_has 9 = .ok (.iconst 1, 1) := by decide +kernel
theorem dX6_has_10 : decode cX6_has 10 = .ok (.goto 4, 3) := by decide +kernel
theorem dX6_has_13 : decode cX6_has 13 = .ok (.iconst 0, 1) := by decide +kernel
theorem dX6_has_14 : decode cX6_has 14 = .ok (.ireturn, 1) := by decide +kernel
theorem dX6_worksOfChild_0 : decode cX6_worksOfChild 0 = .ok (.aload_n 0, 1) := by decide +kernel
theorem dX6_worksOfChild_1 : decode cX6_worksOfChild 1 = .ok (.getfield 19, 3) := by decide +kernel
theorem dX6_worksOfChild_4 : decode cX6_worksOfChild 4 = .ok (.getfield 116, 3) := by decide +kernel
theorem dX6_worksOfChild_7 : decode cX6_worksOfChild 7 = .ok (.iload_n 1, 1) := by decide +kernel
theorem dX6_worksOfChild_8 : decode cX6_worksOfChild 8 = .ok (.invokestatic 112, 3) := by decide +kernel
theorem dX6_worksOfChild_11 : decode cX6_worksOfChild 11 = .ok (.ifCond .eq 22, 3) := by decide +kernel
theorem dX6_worksOfChild_14 : decode cX6_worksOfChild 14 = .ok (.aload_n 0, 1) := by decide +kernel
theorem dX6_worksOfChild_15 : decode cX6_worksOfChild 15 = .ok (.getfield 55, 3) := by decide +kernel
theorem dX6_worksOfChild_18 : decode cX6_worksOfChild 18 = .ok (.aload_n 0, 1) := by decide +kernel
theorem dX6_worksOfChild_19 : decode cX6_worksOfChild 19 = .ok (.getfield 19, 3) := by decide +kernel
theorem dX6_worksOfChild_22 : decode cX6_worksOfChild 22 = .ok (.getfield 119, 3) := by decide +kernel
theorem dX6_worksOfChild_25 : decode cX6_worksOfChild 25 = .ok (.iload_n 1, 1) := by decide +kernel
theorem dX6_worksOfChild_26 : decode cX6_worksOfChild 26 = .ok (.iaload, 1) := by decide +kernel
theorem dX6_worksOfChild_27 : decode cX6_worksOfChild 27 = .ok (.invokevirtual 191, 3) := by decide +kernel
theorem dX6_worksOfChild_30 : decode cX6_worksOfChild 30 = .ok (.goto 4, 3) := by decide +kernel
theorem dX6_worksOfChild_33 : decode cX6_worksOfChild 33 = .ok (.iconst 0, 1) := by decide +kernel
theorem dX6_worksOfChild_34 : decode cX6_worksOfChild 34 = .ok (.ireturn, 1) := by decide +kernel
theorem dX6_whoCanDo_0 : decode cX6_whoCanDo 0 = .ok (.iconst 0, 1) := by decide +kernel
theorem dX6_whoCanDo_1 : decode cX6_whoCanDo 1 = .ok (.istore_n 3, 1) := by decide +kernel
theorem dX6_whoCanDo_2 : decode cX6_whoCanDo 2 = .ok (.iconst 0, 1) := by decide +kernel
theorem dX6_whoCanDo_3 : decode cX6_whoCanDo 3 = .ok (.istore 4, 2) := by decide +kernel
theorem dX6_whoCanDo_5 : decode cX6_whoCanDo 5 = .ok (.iload 4, 2) := by decide +kernel
theorem dX6_whoCanDo_7 : decode cX6_whoCanDo 7 = .ok (.aload_n 0, 1) := by decide +kernel
theorem dX6_whoCanDo_8 : decode cX6_whoCanDo 8 = .ok (.getfield 55, 3) := by decide +kernel
theorem dX6_whoCanDo_11 : decode cX6_whoCanDo 11 = .ok (.getfield 205, 3) := by decide +kernel
theorem dX6_whoCanDo_14 : decode cX6_whoCanDo 14 = .ok (.if_icmp .ge 55, 3) := by decide +kernel
theorem dX6_whoCanDo_17 : decode cX6_whoCanDo 17 = .ok (.aload_n 0, 1) := by decide +kernel
theorem dX6_whoCanDo_18 : decode cX6_whoCanDo 18 = .ok (.getfield 19, 3) := by decide +kernel
theorem dX6_whoCanDo_21 : decode cX6_whoCanDo 21 = .ok (.getfield 116, 3) := by decide +kernel
theorem dX6_whoCanDo_24 : decode cX6_whoCanDo 24 = .ok (.iload 4, 2) := by decide +kernel
theorem dX6_whoCanDo_26 : decode cX6_whoCanDo 26 = .ok (.invokestatic 112, 3) := by decide +kernel
theorem dX6_whoCanDo_29 : decode cX6_whoCanDo 29 = .ok (.ifCond .eq 34, 3) := by decide +kernel
theorem dX6_whoCanDo_32 : decode cX6_whoCanDo 32 = .ok (.aload_n 0, 1) := by decide +kernel
theorem dX6_whoCanDo_33 : decode cX6_whoCanDo 33 = .ok (.getfield 55, 3) := by decide +kernel
theorem dX6_whoCanDo_36 : decode cX6_whoCanDo 36 = .ok (.iload_n 1, 1) := by decide +kernel
theorem dX6_whoCanDo_37 : decode cX6_whoCanDo 37 = .ok (.aload_n 0, 1) := by decide +kernel
theorem dX6_whoCanDo_38 : decode cX6_whoCanDo 38 = .ok (.getfield 19, 3) := by decide +kernel
theorem dX6_whoCanDo_41 : decode cX6_whoCanDo 41 = .ok (.getfield 119, 3) := by decide +kernel
theorem dX6_whoCanDo_44 : decode cX6_whoCanDo 44 = .ok (.iload 4, 2) := by decide +kernel
theorem dX6_whoCanDo_46 : decode cX6_whoCanDo 46 = .ok (.iaload, 1) := by decide +kernel
theorem dX6_whoCanDo_47 : decode cX6_whoCanDo 47 = .ok (.iload_n 2, 1) := by decide +kernel
theorem dX6_whoCanDo_48 : decode cX6_whoCanDo 48 = .ok (.iadd, 1) := by decide +kernel
theorem dX6_whoCanDo_49 : decode cX6_whoCanDo 49 = .ok (.invokevirtual 269, 3) := by decide +kernel
theorem dX6_whoCanDo_52 : decode cX6_whoCanDo 52 = .ok (.ifCond .eq 11, 3) := by decide +kernel
theorem dX6_whoCanDo_55 : decode cX6_whoCanDo 55 = .ok (.iload_n 3, 1) := by decide +kernel
theorem dX6_whoCanDo_56 : decode cX6_whoCanDo 56 = .ok (.iload 4, 2) := by decide +kernel
theorem dX6_whoCanDo_58 : decode cX6_whoCanDo 58 = .ok (.invokestatic 170, 3) := by decide +kernel
theorem dX6_whoCanDo_61 : decode cX6_whoCanDo 61 = .ok (.ior, 1) := by decide +kernel
theorem dX6_whoCanDo_62 : decode cX6_whoCanDo 62 = .ok (.istore_n 3, 1) := by decide +kernel
theorem dX6_whoCanDo_63 : decode cX6_whoCanDo 63 = .ok (.iinc 4 1, 3) := by decide +kernel
theorem dX6_whoCanDo_66 : decode cX6_whoCanDo 66 = .ok (.goto (-61), 3) := by decide +kernel
theorem dX6_whoCanDo_69 : decode cX6_whoCanDo 69 = .ok (.iload_n 3, 1) := by decide +kernel
theorem dX6_whoCanDo_70 : decode cX6_whoCanDo 70 = .ok (.ireturn, 1) := by decide +kernel
theorem dX6_yearsUntilNobody_0 : decode cX6_yearsUntilNobody 0 = .ok (.iconst 0, 1) := by decide +kernel
theorem dX6_yearsUntilNobody_1 : decode cX6_yearsUntilNobody 1 = .ok (.istore_n 2, 1) := by decide +kernel
theorem dX6_yearsUntilNobody_2 : decode cX6_yearsUntilNobody 2 = .ok (.iload_n 2, 1) := by decide +kernel
theorem dX6_yearsUntilNobody_3 : decode cX6_yearsUntilNobody 3 = .ok (.bipush 60, 2) := by decide +kernel
theorem dX6_yearsUntilNobody_5 : decode cX6_yearsUntilNobody 5 = .ok (.if_icmp .gt 20, 3) := by decide +kernel
theorem dX6_yearsUntilNobody_8 : decode cX6_yearsUntilNobody 8 = .ok (.aload_n 0, 1) := by decide +kernel
theorem dX6_yearsUntilNobody_9 : decode cX6_yearsUntilNobody 9 = .ok (.iload_n 1, 1) := by decide +kernel
theorem dX6_yearsUntilNobody_10 : decode cX6_yearsUntilNobody 10 = .ok (.iload_n 2, 1) := by decide +kernel
theorem dX6_yearsUntilNobody_11 : decode cX6_yearsUntilNobody 11 = .ok (.invokevirtual 134, 3) := by decide +kernel
theorem dX6_yearsUntilNobody_14 : decode cX6_yearsUntilNobody 14 = .ok (.ifCond .ne 5, 3) := by decide +kernel
theorem dX6_yearsUntilNobody_17 : decode cX6_yearsUntilNobody 17 = .ok (.iload_n 2, 1) := by decide +kernel
theorem dX6_yearsUntilNobody_18 : decode cX6_yearsUntilNobody 18 = .ok (.ireturn, 1) := by decide +kernel
theorem dX6_yearsUntilNobody_19 : decode cX6_yearsUntilNobody 19 = .ok (.iinc 2 1, 3) := by decide +kernel
theorem dX6_yearsUntilNobody_22 : decode cX6_yearsUntilNobody 22 = .ok (.goto (-20), 3) := by decide +kernel
theorem dX6_yearsUntilNobody_25 : decode cX6_yearsUntilNobody 25 = .ok (.bipush (-9), 2) := by decide +kernel
theorem dX6_yearsUntilNobody_27 : decode cX6_yearsUntilNobody 27 = .ok (.ireturn, 1) := by decide +kernel
theorem dX6_tellFilling_0 : decode cX6_tellFilling 0 = .ok (.aload_n 0, 1) := by decide +kernel
theorem dX6_tellFilling_1 : decode cX6_tellFilling 1 = .ok (.getfield 41, 3) := by decide +kernel
theorem dX6_tellFilling_4 : decode cX6_tellFilling 4 = .ok (.aload_n 0, 1) := by decide +kernel
theorem dX6_tellFilling_5 : decode cX6_tellFilling 5 = .ok (.getfield 55, 3) := by decide +kernel
theorem dX6_tellFilling_8 : decode cX6_tellFilling 8 = .ok (.getfield 205, 3) := by decide +kernel
theorem dX6_tellFilling_11 : decode cX6_tellFilling 11 = .ok (.putfield 272, 3) := by decide +kernel
theorem dX6_tellFilling_14 : decode cX6_tellFilling 14 = .ok (.aload_n 0, 1) := by decide +kernel
theorem dX6_tellFilling_15 : decode cX6_tellFilling 15 = .ok (.getfield 41, 3) := by decide +kernel
theorem dX6_tellFilling_18 : decode cX6_tellFilling 18 = .ok (.aload_n 0, 1) := by decide +kernel
theorem dX6_tellFilling_19 : decode cX6_tellFilling 19 = .ok (.getfield 55, 3) := by decide +kernel
theorem dX6_tellFilling_22 : decode cX6_tellFilling 22 = .ok (.getfield 233, 3) := by decide +kernel
theorem dX6_tellFilling_25 : decode cX6_tellFilling 25 = .ok (.putfield 275, 3) := by decide +kernel
theorem dX6_tellFilling_28 : decode cX6_tellFilling 28 = .ok (.iconst 0, 1) := by decide +kernel
theorem dX6_tellFilling_29 : decode cX6_tellFilling 29 = .ok (.istore_n 1, 1) := by decide +kernel
theorem dX6_tellFilling_30 : decode cX6_tellFilling 30 = .ok (.iload_n 1, 1) := by decide +kernel
theorem dX6_tellFilling_31 : decode cX6_tellFilling 31 = .ok (.aload_n 0, 1) := by decide +kernel
theorem dX6_tellFilling_32 : decode cX6_tellFilling 32 = .ok (.getfield 55, 3) := by decide +kernel
theorem dX6_tellFilling_35 : decode cX6_tellFilling 35 = .ok (.getfield 205, 3) := by decide +kernel
theorem dX6_tellFilling_38 : decode cX6_tellFilling 38 = .ok (.if_icmp .ge 23, 3) := by decide +kernel
theorem dX6_tellFilling_41 : decode cX6_tellFilling 41 = .ok (.aload_n 0, 1) := by decide +kernel
theorem dX6_tellFilling_42 : decode cX6_tellFilling 42 = .ok (.getfield 41, 3) := by decide +kernel
theorem dX6_tellFilling_45 : decode cX6_tellFilling 45 = .ok (.getfield 188, 3) := by decide +kernel
theorem dX6_tellFilling_48 : decode cX6_tellFilling 48 = .ok (.iload_n 1, 1) := by decide +kernel
theorem dX6_tellFilling_49 : decode cX6_tellFilling 49 = .ok (.aload_n 0, 1) := by decide +kernel
theorem dX6_tellFilling_50 : decode cX6_tellFilling 50 = .ok (.iload_n 1, 1) := by decide +kernel
theorem dX6_tellFilling_51 : decode cX6_tellFilling 51 = .ok (.invokevirtual 122, 3) := by decide +kernel
theorem dX6_tellFilling_54 : decode cX6_tellFilling 54 = .ok (.iastore, 1) := by decide +kernel
theorem dX6_tellFilling_55 : decode cX6_tellFilling 55 = .ok (.iinc 1 1, 3) := by decide +kernel
theorem dX6_tellFilling_58 : decode cX6_tellFilling 58 = .ok (.goto (-28), 3) := by decide +kernel
theorem dX6_tellFilling_61 : decode cX6_tellFilling 61 = .ok (.return_, 1) := by decide +kernel
theorem dX6_mostFilled_0 : decode cX6_mostFilled 0 = .ok (.aload_n 0, 1) := by decide +kernel
theorem dX6_mostFilled_1 : decode cX6_mostFilled 1 = .ok (.invokevirtual 182, 3) := by decide +kernel
theorem dX6_mostFilled_4 : decode cX6_mostFilled 4 = .ok (.aload_n 0, 1) := by decide +kernel
theorem dX6_mostFilled_5 : decode cX6_mostFilled 5 = .ok (.getfield 41, 3) := by decide +kernel
theorem dX6_mostFilled_8 : decode cX6_mostFilled 8 = .ok (.invokevirtual 194, 3) := by decide +kernel
theorem dX6_mostFilled_11 : decode cX6_mostFilled 11 = .ok (.ireturn, 1) := by decide +kernel
theorem dX6_roomsToDo_0 : decode cX6_roomsToDo 0 = .ok (.iconst 0, 1) := by decide +kernel
theorem dX6_roomsToDo_1 : decode cX6_roomsToDo 1 = .ok (.istore_n 2, 1) := by decide +kernel
theorem dX6_roomsToDo_2 : decode cX6_roomsToDo 2 = .ok (.iconst 0, 1) := by decide +kernel
theorem dX6_roomsToDo_3 : decode cX6_roomsToDo 3 = .ok (.istore_n 3, 1) := by decide +kernel
theorem dX6_roomsToDo_4 : decode cX6_roomsToDo 4 = .ok (.iload_n 3, 1) := by decide +kernel
theorem dX6_roomsToDo_5 : decode cX6_roomsToDo 5 = .ok (.aload_n 0, 1) := by decide +kernel
theorem dX6_roomsToDo_6 : decode cX6_roomsToDo 6 = .ok (.getfield 55, 3) := by decide +kernel
theorem dX6_roomsToDo_9 : decode cX6_roomsToDo 9 = .ok (.getfield 185, 3) := by decide +kernel
theorem dX6_roomsToDo_12 : decode cX6_roomsToDo 12 = .ok (.if_icmp .ge 31, 3) := by decide +kernel
theorem dX6_roomsToDo_15 : decode cX6_roomsToDo 15 = .ok (.aload_n 0, 1) := by decide +kernel
theorem dX6_roomsToDo_16 : decode cX6_roomsToDo 16 = .ok (.getfield 55, 3) := by decide +kernel
theorem dX6_roomsToDo_19 : decode cX6_roomsToDo 19 = .ok (.iload_n 1, 1) := by decide +kernel
theorem dX6_roomsToDo_20 : decode cX6_roomsToDo 20 = .ok (.aload_n 0, 1) := by decide +kernel
theorem dX6_roomsToDo_21 : decode cX6_roomsToDo 21 = .ok (.getfield 19, 3) := by decide +kernel
theorem dX6_roomsToDo_24 : decode cX6_roomsToDo 24 = .ok (.iload_n 3, 1) := by decide +kernel
theorem dX6_roomsToDo_25 : decode cX6_roomsToDo 25 = .ok (.invokevirtual 99, 3) := by decide +kernel
theorem dX6_roomsToDo_28 : decode cX6_roomsToDo 28 = .ok (.invokevirtual 269, 3) := by decide +kernel
theorem dX6_roomsToDo_31 : decode cX6_roomsToDo 31 = .ok (.ifCond .eq 6, 3) := by decide +kernel
theorem dX6_roomsToDo_34 : decode cX6_roomsToDo 34 = .ok (.iinc 2 1, 3) := by decide +kernel
theorem dX6_roomsToDo_37 : decode cX6_roomsToDo 37 = .ok (.iinc 3 1, 3) := by decide +kernel
theorem dX6_roomsToDo_40 : decode cX6_roomsToDo 40 = .ok (.goto (-36), 3) := by decide +kernel
theorem dX6_roomsToDo_43 : decode cX6_roomsToDo 43 = .ok (.iload_n 2, 1) := by decide +kernel
theorem dX6_roomsToDo_44 : decode cX6_roomsToDo 44 = .ok (.ireturn, 1) := by decide +kernel
theorem dX6_power_0 : decode cX6_power 0 = .ok (.iconst 1, 1) := by decide +kernel
theorem dX6_power_1 : decode cX6_power 1 = .ok (.istore_n 2, 1) := by decide +kernel
theorem dX6_power_2 : decode cX6_power 2 = .ok (.iconst 0, 1) := by decide +kernel
theorem dX6_power_3 : decode cX6_power 3 = .ok (.istore_n 3, 1) := by decide +kernel
theorem dX6_power_4 : decode cX6_power 4 = .ok (.iload_n 3, 1) := by decide +kernel
theorem dX6_power_5 : decode cX6_power 5 = .ok (.iload_n 1, 1) := by decide +kernel
theorem dX6_power_6 : decode cX6_power 6 = .ok (.if_icmp .ge 13, 3) := by decide +kernel
theorem dX6_power_9 : decode cX6_power 9 = .ok (.iload_n 2, 1) := by decide +kernel
theorem dX6_power_10 : decode cX6_power 10 = .ok (.iload_n 0, 1) := by decide +kernel
theorem dX6_power_11 : decode cX6_power 11 = .ok (.imul, 1) := by decide +kernel
theorem dX6_power_12 : decode cX6_power 12 = .ok (.istore_n 2, 1) := by decide +kernel
theorem dX6_power_13 : decode cX6_power 13 = .ok (.iinc 3 1, 3) := by decide +kernel
theorem dX6_power_16 : decode cX6_power 16 = .ok (.goto (-12), 3) := by decide +kernel
theorem dX6_power_19 : decode cX6_power 19 = .ok (.iload_n 2, 1) := by decide +kernel
theorem dX6_power_20 : decode cX6_power 20 = .ok (.ireturn, 1) := by decide +kernel
theorem dX6_greatestDivisor_0 : decode cX6_greatestDivisor 0 = .ok (.iload_n 0, 1) := by decide +kernel
theorem dX6_greatestDivisor_1 : decode cX6_greatestDivisor 1 = .ok (.istore_n 2, 1) := by decide +kernel
theorem dX6_greatestDivisor_2 : decode cX6_greatestDivisor 2 = .ok (.iload_n 1, 1) := by decide +kernel
theorem dX6_greatestDivisor_3 : decode cX6_greatestDivisor 3 = .ok (.istore_n 3, 1) := by decide +kernel
theorem dX6_greatestDivisor_4 : decode cX6_greatestDivisor 4 = .ok (.iconst 0, 1) := by decide +kernel
theorem dX6_greatestDivisor_5 : decode cX6_greatestDivisor 5 = .ok (.istore 4, 2) := by decide +kernel
theorem dX6_greatestDivisor_7 : decode cX6_greatestDivisor 7 = .ok (.iload 4, 2) := by decide +kernel
theorem dX6_greatestDivisor_9 : decode cX6_greatestDivisor 9 = .ok (.bipush 40, 2) := by decide +kernel
theorem dX6_greatestDivisor_11 : decode cX6_greatestDivisor 11 = .ok (.if_icmp .ge 23, 3) := by decide +kernel
theorem dX6_greatestDivisor_14 : decode cX6_greatestDivisor 14 = .ok (.iload_n 3, 1) := by decide +kernel
theorem dX6_greatestDivisor_15 : decode cX6_greatestDivisor 15 = .ok (.ifCond .eq 19, 3) := by decide +kernel
theorem dX6_greatestDivisor_18 : decode cX6_greatestDivisor 18 = .ok (.iload_n 2, 1) := by decide +kernel
theorem dX6_greatestDivisor_19 : decode cX6_greatestDivisor 19 = .ok (.iload_n 3, 1) := by decide +kernel
theorem dX6_greatestDivisor_20 : decode cX6_greatestDivisor 20 = .ok (.irem, 1) := by decide +kernel
theorem dX6_greatestDivisor_21 : decode cX6_greatestDivisor 21 = .ok (.istore 5, 2) := by decide +kernel
theorem dX6_greatestDivisor_23 : decode cX6_greatestDivisor 23 = .ok (.iload_n 3, 1) := by decide +kernel
theorem dX6_greatestDivisor_24 : decode cX6_greatestDivisor 24 = .ok (.istore_n 2, 1) := by decide +kernel
theorem dX6_greatestDivisor_25 : decode cX6_greatestDivisor 25 = .ok (.iload 5, 2) := by decide +kernel
theorem dX6_greatestDivisor_27 : decode cX6_greatestDivisor 27 = .ok (.istore_n 3, 1) := by decide +kernel
theorem dX6_greatestDivisor_28 : decode cX6_greatestDivisor 28 = .ok (.iinc 4 1, 3) := by decide +kernel
theorem dX6_greatestDivisor_31 : decode cX6_greatestDivisor 31 = .ok (.goto (-24), 3) := by decide +kernel
theorem dX6_greatestDivisor_34 : decode cX6_greatestDivisor 34 = .ok (.iload_n 2, 1) := by decide +kernel
theorem dX6_greatestDivisor_35 : decode cX6_greatestDivisor 35 = .ok (.ireturn, 1) := by decide +kernel
theorem dX6_possibleAges_0 : decode cX6_possibleAges 0 = .ok (.iconst 0, 1) := by decide +kernel
theorem dX6_possibleAges_1 : decode cX6_possibleAges 1 = .ok (.istore_n 1, 1) := by decide +kernel
theorem dX6_possibleAges_2 : decode cX6_possibleAges 2 = .ok (.iconst 0, 1) := by decide +kernel
theorem dX6_possibleAges_3 : decode cX6_possibleAges 3 = .ok (.istore_n 2, 1) := by decide +kernel
theorem dX6_possibleAges_4 : decode cX6_possibleAges 4 = .ok (.iload_n 2, 1) := by decide +kernel
theorem dX6_possibleAges_5 : decode cX6_possibleAges 5 = .ok (.bipush 99, 2) := by decide +kernel
theorem dX6_possibleAges_7 : decode cX6_possibleAges 7 = .ok (.if_icmp .gt 27, 3) := by decide +kernel
theorem dX6_possibleAges_10 : decode cX6_possibleAges 10 = .ok (.aload_n 0, 1) := by decide +kernel
theorem dX6_possibleAges_11 : decode cX6_possibleAges 11 = .ok (.getfield 48, 3) := by decide +kernel
theorem dX6_possibleAges_14 : decode cX6_possibleAges 14 = .ok (.aload_n 0, 1) := by decide +kernel
theorem dX6_possibleAges_15 : decode cX6_possibleAges 15 = .ok (.getfield 55, 3) := by decide +kernel
theorem dX6_possibleAges_18 : decode cX6_possibleAges 18 = .ok (.iload_n 2, 1) := by decide +kernel
theorem dX6_possibleAges_19 : decode cX6_possibleAges 19 = .ok (.invokevirtual 276, 3) := by decide +kernel
theorem dX6_possibleAges_22 : decode cX6_possibleAges 22 = .ok (.ifCond .eq 6, 3) := by decide +kernel
theorem dX6_possibleAges_25 : decode cX6_possibleAges 25 = .ok (.iinc 1 1, 3) := by decide +kernel
theorem dX6_possibleAges_28 : decode cX6_possibleAges 28 = .ok (.iinc 2 1, 3) := by decide +kernel
theorem dX6_possibleAges_31 : decode cX6_possibleAges 31 = .ok (.goto (-27), 3) := by decide +kernel
theorem dX6_possibleAges_34 : decode cX6_possibleAges 34 = .ok (.iload_n 1, 1) := by decide +kernel
theorem dX6_possibleAges_35 : decode cX6_possibleAges 35 = .ok (.ireturn, 1) := by decide +kernel
theorem dX6_possibleAgesAtWork_0 : decode cX6_possibleAgesAtWork 0 = .ok (.iconst 0, 1) := by decide +kernel
theorem dX6_possibleAgesAtWork_1 : decode cX6_possibleAgesAtWork 1 = .ok (.istore_n 2, 1) := by decide +kernel
theorem dX6_possibleAgesAtWork_2 : decode cX6_possibleAgesAtWork 2 = .ok (.iconst 0, 1) := by decide +kernel
theorem dX6_possibleAgesAtWork_3 : decode cX6_possibleAgesAtWork 3 = .ok (.istore_n 3, 1) := by decide +kernel
theorem dX6_possibleAgesAtWork_4 : decode cX6_possibleAgesAtWork 4 = .ok (.iload_n 3, 1) := by decide +kernel
theorem dX6_possibleAgesAtWork_5 : decode cX6_possibleAgesAtWork 5 = .ok (.bipush 99, 2) := by decide +kernel
theorem dX6_possibleAgesAtWork_7 : decode cX6_possibleAgesAtWork 7 = .ok (.if_icmp .gt 39, 3) := by decide +kernel
theorem dX6_possibleAgesAtWork_10 : decode cX6_possibleAgesAtWork 10 = .ok (.aload_n 0, 1) := by decide +kernel
theorem dX6_possibleAgesAtWork_11 : decode cX6_possibleAgesAtWork 11 = .ok (.getfield 55, 3) := by decide +kernel
theorem dX6_possibleAgesAtWork_14 : decode cX6_possibleAgesAtWork 14 = .ok (.iload_n 1, 1) := by decide +kernel
theorem dX6_possibleAgesAtWork_15 : decode cX6_possibleAgesAtWork 15 = .ok (.iload_n 3, 1) := by decide +kernel
theorem dX6_possibleAgesAtWork_16 : decode cX6_possibleAgesAtWork 16 = .ok (.invokevirtual 280, 3) := by decide +kernel
theorem dX6_possibleAgesAtWork_19 : decode cX6_possibleAgesAtWork 19 = .ok (.ifCond .eq 21, 3) := by decide +kernel
theorem dX6_possibleAgesAtWork_22 : decode cX6_possibleAgesAtWork 22 = .ok (.aload_n 0, 1) := by decide +kernel
theorem dX6_possibleAgesAtWork_23 : decode cX6_possibleAgesAtWork 23 = .ok (.getfield 48, 3) := by decide +kernel
theorem dX6_possibleAgesAtWork_26 : decode cX6_possibleAgesAtWork 26 = .ok (.aload_n 0, 1) := by decide +kernel
theorem dX6_possibleAgesAtWork_27 : decode cX6_possibleAgesAtWork 27 = .ok (.getfield 55, 3) := by decide +kernel
theorem dX6_possibleAgesAtWork_30 : decode cX6_possibleAgesAtWork 30 = .ok (.iload_n 3, 1) := by decide +kernel
theorem dX6_possibleAgesAtWork_31 : decode cX6_possibleAgesAtWork 31 = .ok (.invokevirtual 276, 3) := by decide +kernel
theorem dX6_possibleAgesAtWork_34 : decode cX6_possibleAgesAtWork 34 = .ok (.ifCond .eq 6, 3) := by decide +kernel
theorem dX6_possibleAgesAtWork_37 : decode cX6_possibleAgesAtWork 37 = .ok (.iinc 2 1, 3) := by decide +kernel
theorem dX6_possibleAgesAtWork_40 : decode cX6_possibleAgesAtWork 40 = .ok (.iinc 3 1, 3) := by decide +kernel
theorem dX6_possibleAgesAtWork_43 : decode cX6_possibleAgesAtWork 43 = .ok (.goto (-39), 3) := by decide +kernel
theorem dX6_possibleAgesAtWork_46 : decode cX6_possibleAgesAtWork 46 = .ok (.iload_n 2, 1) := by decide +kernel
theorem dX6_possibleAgesAtWork_47 : decode cX6_possibleAgesAtWork 47 = .ok (.ireturn, 1) := by decide +kernel
theorem dX6_leastAge_0 : decode cX6_leastAge 0 = .ok (.iconst 0, 1) := by decide +kernel
theorem dX6_leastAge_1 : decode cX6_leastAge 1 = .ok (.istore_n 1, 1) := by decide +kernel
theorem dX6_leastAge_2 : decode cX6_leastAge 2 = .ok (.iload_n 1, 1) := by decide +kernel
theorem dX6_leastAge_3 : decode cX6_leastAge 3 = .ok (.bipush 99, 2) := by decide +kernel
theorem dX6_leastAge_5 : decode cX6_leastAge 5 = .ok (.if_icmp .gt 26, 3) := by decide +kernel
theorem dX6_leastAge_8 : decode cX6_leastAge 8 = .ok (.aload_n 0, 1) := by decide +kernel
theorem dX6_leastAge_9 : decode cX6_leastAge 9 = .ok (.getfield 48, 3) := by decide +kernel
theorem dX6_leastAge_12 : decode cX6_leastAge 12 = .ok (.aload_n 0, 1) := by decide +kernel
theorem dX6_leastAge_13 : decode cX6_leastAge 13 = .ok (.getfield 55, 3) := by decide +kernel
theorem dX6_leastAge_16 : decode cX6_leastAge 16 = .ok (.iload_n 1, 1) := by decide +kernel
theorem dX6_leastAge_17 : decode cX6_leastAge 17 = .ok (.invokevirtual 276, 3) := by decide +kernel
theorem dX6_leastAge_20 : decode cX6_leastAge 20 = .ok (.ifCond .eq 5, 3) := by decide +kernel
theorem dX6_leastAge_23 : decode cX6_leastAge 23 = .ok (.iload_n 1, 1) := by decide +kernel
theorem dX6_leastAge_24 : decode cX6_leastAge 24 = .ok (.ireturn, 1) := by decide +kernel
theorem dX6_leastAge_25 : decode cX6_leastAge 25 = .ok (.iinc 1 1, 3) := by decide +kernel
theorem dX6_leastAge_28 : decode cX6_leastAge 28 = .ok (.goto (-26), 3) := by decide +kernel
theorem dX6_leastAge_31 : decode cX6_leastAge 31 = .ok (.bipush (-9), 2) := by decide +kernel
theorem dX6_leastAge_33 : decode cX6_leastAge 33 = .ok (.ireturn, 1) := by decide +kernel
theorem dX6_greatestAge_0 : decode cX6_greatestAge 0 = .ok (.bipush 99, 2) := by decide +kernel
theorem dX6_greatestAge_2 : decode cX6_greatestAge 2 = .ok (.istore_n 1, 1) := by decide +kernel
theorem dX6_greatestAge_3 : decode cX6_greatestAge 3 = .ok (.iload_n 1, 1) := by decide +kernel
theorem dX6_greatestAge_4 : decode cX6_greatestAge 4 = .ok (.ifCond .lt 26, 3) := by decide +kernel
theorem dX6_greatestAge_7 : decode cX6_greatestAge 7 = .ok (.aload_n 0, 1) := by decide +kernel
theorem dX6_greatestAge_8 : decode cX6_greatestAge 8 = .ok (.getfield 48, 3) := by decide +kernel
theorem dX6_greatestAge_11 : decode cX6_greatestAge 11 = .ok (.aload_n 0, 1) := by decide +kernel
theorem dX6_greatestAge_12 : decode cX6_greatestAge 12 = .ok (.getfield 55, 3) := by decide +kernel
theorem dX6_greatestAge_15 : decode cX6_greatestAge 15 = .ok (.iload_n 1, 1) := by decide +kernel
theorem dX6_greatestAge_16 : decode cX6_greatestAge 16 = .ok (.invokevirtual 276, 3) := by decide +kernel
theorem dX6_greatestAge_19 : decode cX6_greatestAge 19 = .ok (.ifCond .eq 5, 3) := by decide +kernel
theorem dX6_greatestAge_22 : decode cX6_greatestAge 22 = .ok (.iload_n 1, 1) := by decide +kernel
theorem dX6_greatestAge_23 : decode cX6_greatestAge 23 = .ok (.ireturn, 1) := by decide +kernel
theorem dX6_greatestAge_24 : decode cX6_greatestAge 24 = .ok (.iinc 1 (-1), 3) := by decide +kernel
theorem dX6_greatestAge_27 : decode cX6_greatestAge 27 = .ok (.goto (-24), 3) := by decide +kernel
theorem dX6_greatestAge_30 : decode cX6_greatestAge 30 = .ok (.bipush (-9), 2) := by decide +kernel
theorem dX6_greatestAge_32 : decode cX6_greatestAge 32 = .ok (.ireturn, 1) := by decide +kernel
theorem dX6_rateChild_0 : decode cX6_rateChild 0 = .ok (.aload_n 0, 1) := by decide +kernel
theorem dX6_rateChild_1 : decode cX6_rateChild 1 = .ok (.dup, 1) := by decide +kernel
theorem dX6_rateChild_2 : decode cX6_rateChild 2 = .ok (.getfield 62, 3) := by decide +kernel
theorem dX6_rateChild_5 : decode cX6_rateChild 5 = .ok (.lconst 1, 1) := by decide +kernel
theorem dX6_rateChild_6 : decode cX6_rateChild 6 = .ok (.ladd, 1) := by decide +kernel
theorem dX6_rateChild_7 : decode cX6_rateChild 7 = .ok (.putfield 62, 3) := by decide +kernel
theorem dX6_rateChild_10 : decode cX6_rateChild 10 = .ok (.aload_n 0, 1) := by decide +kernel
theorem dX6_rateChild_11 : decode cX6_rateChild 11 = .ok (.getfield 19, 3) := by decide +kernel
theorem dX6_rateChild_14 : decode cX6_rateChild 14 = .ok (.getfield 116, 3) := by decide +kernel
theorem dX6_rateChild_17 : decode cX6_rateChild 17 = .ok (.iload_n 1, 1) := by decide +kernel
theorem dX6_rateChild_18 : decode cX6_rateChild 18 = .ok (.invokestatic 112, 3) := by decide +kernel
theorem dX6_rateChild_21 : decode cX6_rateChild 21 = .ok (.ifCond .eq 15, 3) := by decide +kernel
theorem dX6_rateChild_24 : decode cX6_rateChild 24 = .ok (.aload_n 0, 1) := by decide +kernel
theorem dX6_rateChild_25 : decode cX6_rateChild 25 = .ok (.getfield 19, 3) := by decide +kernel
theorem dX6_rateChild_28 : decode cX6_rateChild 28 = .ok (.getfield 119, 3) := by decide +kernel
theorem dX6_rateChild_31 : decode cX6_rateChild 31 = .ok (.iload_n 1, 1) := by decide +kernel
theorem dX6_rateChild_32 : decode cX6_rateChild 32 = .ok (.iaload, 1) := by decide +kernel
theorem dX6_rateChild_33 : decode cX6_rateChild 33 = .ok (.goto 4, 3) := by decide +kernel
theorem dX6_rateChild_36 : decode cX6_rateChild 36 = .ok (.iconst 0, 1) := by decide +kernel
theorem dX6_rateChild_37 : decode cX6_rateChild 37 = .ok (.ireturn, 1) := by decide +kernel
theorem dX6_rateAttic_0 : decode cX6_rateAttic 0 = .ok (.aload_n 0, 1) := by decide +kernel
theorem dX6_rateAttic_1 : decode cX6_rateAttic 1 = .ok (.dup, 1) := by decide +kernel
theorem dX6_rateAttic_2 : decode cX6_rateAttic 2 = .ok (.getfield 62, 3) := by decide +kernel
theorem dX6_rateAttic_5 : decode cX6_rateAttic 5 = .ok (.ldc2_w 283, 3) := by decide +kernel
theorem dX6_rateAttic_8 : decode cX6_rateAttic 8 = .ok (.ladd, 1) := by decide +kernel
theorem dX6_rateAttic_9 : decode cX6_rateAttic 9 = .ok (.putfield 62, 3) := by decide +kernel
theorem dX6_rateAttic_12 : decode cX6_rateAttic 12 = .ok (.aload_n 0, 1) := by decide +kernel
theorem dX6_rateAttic_13 : decode cX6_rateAttic 13 = .ok (.iload_n 1, 1) := by decide +kernel
theorem dX6_rateAttic_14 : decode cX6_rateAttic 14 = .ok (.invokevirtual 260, 3) := by decide +kernel
theorem dX6_rateAttic_17 : decode cX6_rateAttic 17 = .ok (.aload_n 0, 1) := by decide +kernel
theorem dX6_rateAttic_18 : decode cX6_rateAttic 18 = .ok (.getfield 19, 3) := by decide +kernel
theorem dX6_rateAttic_21 : decode cX6_rateAttic 21 = .ok (.getfield 141, 3) := by decide +kernel
theorem dX6_rateAttic_24 : decode cX6_rateAttic 24 = .ok (.iadd, 1) := by decide +kernel
theorem dX6_rateAttic_25 : decode cX6_rateAttic 25 = .ok (.ireturn, 1) := by decide +kernel
theorem dX6_rateCellar_0 : decode cX6_rateCellar 0 = .ok (.aload_n 0, 1) := by decide +kernel
theorem dX6_rateCellar_1 : decode cX6_rateCellar 1 = .ok (.dup, 1) := by decide +kernel
theorem dX6_rateCellar_2 : decode cX6_rateCellar 2 = .ok (.getfield 62, 3) := by decide +kernel
theorem dX6_rateCellar_5 : decode cX6_rateCellar 5 = .ok (.ldc2_w 285, 3) := by decide +kernel
theorem dX6_rateCellar_8 : decode cX6_rateCellar 8 = .ok (.ladd, 1) := by decide +kernel
theorem dX6_rateCellar_9 : decode cX6_rateCellar 9 = .ok (.putfield 62, 3) := by decide +kernel
theorem dX6_rateCellar_12 : decode cX6_rateCellar 12 = .ok (.aload_n 0, 1) := by decide +kernel
theorem dX6_rateCellar_13 : decode cX6_rateCellar 13 = .ok (.iload_n 1, 1) := by decide +kernel
theorem dX6_rateCellar_14 : decode cX6_rateCellar 14 = .ok (.invokevirtual 260, 3) := by decide +kernel
theorem dX6_rateCellar_17 : decode cX6_rateCellar 17 = .ok (.aload_n 0, 1) := by decide +kernel
theorem dX6_rateCellar_18 : decode cX6_rateCellar 18 = .ok (.iload_n 1, 1) := by decide +kernel
theorem dX6_rateCellar_19 : decode cX6_rateCellar 19 = .ok (.invokevirtual 122, 3) := by decide +kernel
theorem dX6_rateCellar_22 : decode cX6_rateCellar 22 = .ok (.invokestatic 197, 3) := by decide +kernel
theorem dX6_rateCellar_25 : decode cX6_rateCellar 25 = .ok (.isub, 1) := by decide +kernel
theorem dX6_rateCellar_26 : decode cX6_rateCellar 26 = .ok (.ireturn, 1) := by decide +kernel
theorem dX6_rateGable_0 : decode cX6_rateGable 0 = .ok (.aload_n 0, 1) := by decide +kernel
theorem dX6_rateGable_1 : decode cX6_rateGable 1 = .ok (.dup, 1) := by decide +kernel
theorem dX6_rateGable_2 : decode cX6_rateGable 2 = .ok (.getfield 62, 3) := by decide +kernel
theorem dX6_rateGable_5 : decode cX6_rateGable 5 = .ok (.ldc2_w 287, 3) := by decide +kernel
theorem dX6_rateGable_8 : decode cX6_rateGable 8 = .ok (.ladd, 1) := by decide +kernel
theorem dX6_rateGable_9 : decode cX6_rateGable 9 = .ok (.putfield 62, 3) := by decide +kernel
theorem dX6_rateGable_12 : decode cX6_rateGable 12 = .ok (.iconst 2, 1) := by decide +kernel
theorem dX6_rateGable_13 : decode cX6_rateGable 13 = .ok (.aload_n 0, 1) := by decide +kernel
theorem dX6_rateGable_14 : decode cX6_rateGable 14 = .ok (.iload_n 1, 1) := by decide +kernel
theorem dX6_rateGable_15 : decode cX6_rateGable 15 = .ok (.invokevirtual 245, 3) := by decide +kernel
theorem dX6_rateGable_18 : decode cX6_rateGable 18 = .ok (.imul, 1) := by decide +kernel
theorem dX6_rateGable_19 : decode cX6_rateGable 19 = .ok (.ireturn, 1) := by decide +kernel
theorem dX6_rateCrypt_0 : decode cX6_rateCrypt 0 = .ok (.aload_n 0, 1) := by decide +kernel
theorem dX6_rateCrypt_1 : decode cX6_rateCrypt 1 = .ok (.dup, 1) := by decide +kernel
theorem dX6_rateCrypt_2 : decode cX6_rateCrypt 2 = .ok (.getfield 62, 3) := by decide +kernel
theorem dX6_rateCrypt_5 : decode cX6_rateCrypt 5 = .ok (.ldc2_w 289, 3) := by decide +kernel
theorem dX6_rateCrypt_8 : decode cX6_rateCrypt 8 = .ok (.ladd, 1) := by decide +kernel
theorem dX6_rateCrypt_9 : decode cX6_rateCrypt 9 = .ok (.putfield 62, 3) := by decide +kernel
theorem dX6_rateCrypt_12 : decode cX6_rateCrypt 12 = .ok (.aload_n 0, 1) := by decide +kernel
theorem dX6_rateCrypt_13 : decode cX6_rateCrypt 13 = .ok (.iload_n 1, 1) := by decide +kernel
theorem dX6_rateCrypt_14 : decode cX6_rateCrypt 14 = .ok (.invokevirtual 248, 3) := by decide +kernel
theorem dX6_rateCrypt_17 : decode cX6_rateCrypt 17 = .ok (.iload_n 1, 1) := by decide +kernel
theorem dX6_rateCrypt_18 : decode cX6_rateCrypt 18 = .ok (.iadd, 1) := by decide +kernel
theorem dX6_rateCrypt_19 : decode cX6_rateCrypt 19 = .ok (.ireturn, 1) := by decide +kernel
theorem dX6_rateCart_0 : decode cX6_rateCart 0 = .ok (.aload_n 0, 1) := by decide +kernel
theorem dX6_rateCart_1 : decode cX6_rateCart 1 = .ok (.dup, 1) := by decide +kernel
theorem dX6_rateCart_2 : decode cX6_rateCart 2 = .ok (.getfield 62, 3) := by decide +kernel
theorem dX6_rateCart_5 : decode cX6_rateCart 5 = .ok (.ldc2_w 291, 3) := by decide +kernel
theorem dX6_rateCart_8 : decode cX6_rateCart 8 = .ok (.ladd, 1) := by decide +kernel
theorem dX6_rateCart_9 : decode cX6_rateCart 9 = .ok (.putfield 62, 3) := by decide +kernel
theorem dX6_rateCart_12 : decode cX6_rateCart 12 = .ok (.aload_n 0, 1) := by decide +kernel
theorem dX6_rateCart_13 : decode cX6_rateCart 13 = .ok (.iload_n 1, 1) := by decide +kernel
theorem dX6_rateCart_14 : decode cX6_rateCart 14 = .ok (.invokevirtual 260, 3) := by decide +kernel
theorem dX6_rateCart_17 : decode cX6_rateCart 17 = .ok (.aload_n 0, 1) := by decide +kernel
theorem dX6_rateCart_18 : decode cX6_rateCart 18 = .ok (.getfield 19, 3) := by decide +kernel
theorem dX6_rateCart_21 : decode cX6_rateCart 21 = .ok (.getfield 116, 3) := by decide +kernel
theorem dX6_rateCart_24 : decode cX6_rateCart 24 = .ok (.invokestatic 197, 3) := by decide +kernel
theorem dX6_rateCart_27 : decode cX6_rateCart 27 = .ok (.iadd, 1) := by decide +kernel
theorem dX6_rateCart_28 : decode cX6_rateCart 28 = .ok (.ireturn, 1) := by decide +kernel
