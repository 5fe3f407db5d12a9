theorem dX0_init_0 : decode cX0_init 0 = .ok (.aload_n 0, 1) := by decide +kernel
theorem dX0_init_1 : decode cX0_init 1 = .ok (.invokespecial 3, 3) := by decide +kernel
theorem dX0_init_4 : decode cX0_init 4 = .ok (.aload_n 0, 1) := by decide +kernel
theorem dX0_init_5 : decode cX0_init 5 = .ok (.bipush 6, 2) := by decide +kernel
theorem dX0_init_7 : decode cX0_init 7 = .ok (.newarray .int, 2) := by decide +kernel
theorem dX0_init_9 : decode cX0_init 9 = .ok (.putfield 9, 3) := by decide +kernel
theorem dX0_init_12 : decode cX0_init 12 = .ok (.aload_n 0, 1) := by decide +kernel
theorem dX0_init_13 : decode cX0_init 13 = .ok (.bipush 7, 2) := by decide +kernel
theorem dX0_init_15 : decode cX0_init 15 = .ok (.bipush 32, 2) := by decide +kernel
theorem dX0_init_17 : decode cX0_init 17 = .ok (.multianewarray 15 2, 4) := by decide +kernel
theorem dX0_init_21 : decode cX0_init 21 = .ok (.putfield 17, 3) := by decide +kernel
theorem dX0_init_24 : decode cX0_init 24 = .ok (.aload_n 0, 1) := by decide +kernel
theorem dX0_init_25 : decode cX0_init 25 = .ok (.iconst 0, 1) := by decide +kernel
theorem dX0_init_26 : decode cX0_init 26 = .ok (.putfield 20, 3) := by decide +kernel
theorem dX0_init_29 : decode cX0_init 29 = .ok (.aload_n 0, 1) := by decide +kernel
theorem dX0_init_30 : decode cX0_init 30 = .ok (.iconst 0, 1) := by decide +kernel
theorem dX0_init_31 : decode cX0_init 31 = .ok (.putfield 24, 3) := by decide +kernel
theorem dX0_init_34 : decode cX0_init 34 = .ok (.return_, 1) := by decide +kernel
theorem dX0_solve_0 : decode cX0_solve 0 = .ok (.iconst 0, 1) := by decide +kernel
theorem dX0_solve_1 : decode cX0_solve 1 = .ok (.istore_n 1, 1) := by decide +kernel
theorem dX0_solve_2 : decode cX0_solve 2 = .ok (.iload_n 1, 1) := by decide +kernel
theorem dX0_solve_3 : decode cX0_solve 3 = .ok (.aload_n 0, 1) := by decide +kernel
theorem dX0_solve_4 : decode cX0_solve 4 = .ok (.getfield 24, 3) := by decide +kernel
theorem dX0_solve_7 : decode cX0_solve 7 = .ok (.invokestatic 27, 3) := by decide +kernel
theorem dX0_solve_10 : decode cX0_solve 10 = .ok (.if_icmp .ge 21, 3) := by decide +kernel
theorem dX0_solve_13 : decode cX0_solve 13 = .ok (.aload_n 0, 1) := by decide +kernel
theorem dX0_solve_14 : decode cX0_solve 14 = .ok (.getfield 17, 3) := by decide +kernel
theorem dX0_solve_17 : decode cX0_solve 17 = .ok (.aload_n 0, 1) := by decide +kernel
theorem dX0_solve_18 : decode cX0_solve 18 = .ok (.getfield 20, 3) := by decide +kernel
theorem dX0_solve_21 : decode cX0_solve 21 = .ok (.aaload, 1) := by decide +kernel
theorem dX0_solve_22 : decode cX0_solve 22 = .ok (.iload_n 1, 1) := by decide +kernel
theorem dX0_solve_23 : decode cX0_solve 23 = .ok (.iconst 0, 1) := by decide +kernel
theorem dX0_solve_24 : decode cX0_solve 24 = .ok (.iastore, 1) := by decide +kernel
theorem dX0_solve_25 : decode cX0_solve 25 = .ok (.iinc 1 1, 3) := by decide +kernel
theorem dX0_solve_28 : decode cX0_solve 28 = .ok (.goto (-26), 3) := by decide +kernel
theorem dX0_solve_31 : decode cX0_solve 31 = .ok (.aload_n 0, 1) := by decide +kernel
theorem dX0_solve_32 : decode cX0_solve 32 = .ok (.getfield 20, 3) := by decide +kernel
theorem dX0_solve_35 : decode cX0_solve 35 = .ok (.iconst 1, 1) := by decide +kernel
theorem dX0_solve_36 : decode cX0_solve 36 = .ok (.isub, 1) := by decide +kernel
theorem dX0_solve_37 : decode cX0_solve 37 = .ok (.istore_n 1, 1) := by decide +kernel
theorem dX0_solve_38 : decode cX0_solve 38 = .ok (.iload_n 1, 1) := by decide +kernel
theorem dX0_solve_39 : decode cX0_solve 39 = .ok (.ifCond .lt 42, 3) := by decide +kernel
theorem dX0_solve_42 : decode cX0_solve 42 = .ok (.iconst 0, 1) := by decide +kernel
theorem dX0_solve_43 : decode cX0_solve 43 = .ok (.istore_n 2, 1) := by decide +kernel
theorem dX0_solve_44 : decode cX0_solve 44 = .ok (.iload_n 2, 1) := by decide +kernel
theorem dX0_solve_45 : decode cX0_solve 45 = .ok (.aload_n 0, 1) := by decide +kernel
theorem dX0_solve_46 : decode cX0_solve 46 = .ok (.getfield 24, 3) := by decide +kernel
theorem dX0_solve_49 : decode cX0_solve 49 = .ok (.invokestatic 27, 3) := by decide +kernel
theorem dX0_solve_52 : decode cX0_solve 52 = .ok (.if_icmp .ge 23, 3) := by decide +kernel
theorem dX0_solve_55 : decode cX0_solve 55 = .ok (.aload_n 0, 1) := by decide +kernel
theorem dX0_solve_56 : decode cX0_solve 56 = .ok (.getfield 17, 3) := by decide +kernel
theorem dX0_solve_59 : decode cX0_solve 59 = .ok (.iload_n 1, 1) := by decide +kernel
theorem dX0_solve_60 : decode cX0_solve 60 = .ok (.aaload, 1) := by decide +kernel
theorem dX0_solve_61 : decode cX0_solve 61 = .ok (.iload_n 2, 1) := by decide +kernel
theorem dX0_solve_62 : decode cX0_solve 62 = .ok (.aload_n 0, 1) := by decide +kernel
theorem dX0_solve_63 : decode cX0_solve 63 = .ok (.iload_n 1, 1) := by decide +kernel
theorem dX0_solve_64 : decode cX0_solve 64 = .ok (.iload_n 2, 1) := by decide +kernel
theorem dX0_solve_65 : decode cX0_solve 65 = .ok (.invokevirtual 31, 3) := by decide +kernel
theorem dX0_solve_68 : decode cX0_solve 68 = .ok (.iastore, 1) := by decide +kernel
theorem dX0_solve_69 : decode cX0_solve 69 = .ok (.iinc 2 1, 3) := by decide +kernel
theorem dX0_solve_72 : decode cX0_solve 72 = .ok (.goto (-28), 3) := by decide +kernel
theorem dX0_solve_75 : decode cX0_solve 75 = .ok (.iinc 1 (-1), 3) := by decide +kernel
theorem dX0_solve_78 : decode cX0_solve 78 = .ok (.goto (-40), 3) := by decide +kernel
theorem dX0_solve_81 : decode cX0_solve 81 = .ok (.aload_n 0, 1) := by decide +kernel
theorem dX0_solve_82 : decode cX0_solve 82 = .ok (.getfield 17, 3) := by decide +kernel
theorem dX0_solve_85 : decode cX0_solve 85 = .ok (.iconst 0, 1) := by decide +kernel
theorem dX0_solve_86 : decode cX0_solve 86 = .ok (.aaload, 1) := by decide +kernel
theorem dX0_solve_87 : decode cX0_solve 87 = .ok (.iconst 0, 1) := by decide +kernel
theorem dX0_solve_88 : decode cX0_solve 88 = .ok (.iaload, 1) := by decide +kernel
theorem dX0_solve_89 : decode cX0_solve 89 = .ok (.ireturn, 1) := by decide +kernel
theorem dX0_mostFrom_0 : decode cX0_mostFrom 0 = .ok (.aload_n 0, 1) := by decide +kernel
theorem dX0_mostFrom_1 : decode cX0_mostFrom 1 = .ok (.getfield 17, 3) := by decide +kernel
theorem dX0_mostFrom_4 : decode cX0_mostFrom 4 = .ok (.iload_n 1, 1) := by decide +kernel
theorem dX0_mostFrom_5 : decode cX0_mostFrom 5 = .ok (.iconst 1, 1) := by decide +kernel
theorem dX0_mostFrom_6 : decode cX0_mostFrom 6 = .ok (.iadd, 1) := by decide +kernel
theorem dX0_mostFrom_7 : decode cX0_mostFrom 7 = .ok (.aaload, 1) := by decide +kernel
theorem dX0_mostFrom_8 : decode cX0_mostFrom 8 = .ok (.iload_n 2, 1) := by decide +kernel
theorem dX0_mostFrom_9 : decode cX0_mostFrom 9 = .ok (.iaload, 1) := by decide +kernel
theorem dX0_mostFrom_10 : decode cX0_mostFrom 10 = .ok (.istore_n 3, 1) := by decide +kernel
theorem dX0_mostFrom_11 : decode cX0_mostFrom 11 = .ok (.iconst 0, 1) := by decide +kernel
theorem dX0_mostFrom_12 : decode cX0_mostFrom 12 = .ok (.istore 4, 2) := by decide +kernel
theorem dX0_mostFrom_14 : decode cX0_mostFrom 14 = .ok (.iload 4, 2) := by decide +kernel
theorem dX0_mostFrom_16 : decode cX0_mostFrom 16 = .ok (.aload_n 0, 1) := by decide +kernel
theorem dX0_mostFrom_17 : decode cX0_mostFrom 17 = .ok (.getfield 24, 3) := by decide +kernel
theorem dX0_mostFrom_20 : decode cX0_mostFrom 20 = .ok (.if_icmp .ge 43, 3) := by decide +kernel
theorem dX0_mostFrom_23 : decode cX0_mostFrom 23 = .ok (.aload_n 0, 1) := by decide +kernel
theorem dX0_mostFrom_24 : decode cX0_mostFrom 24 = .ok (.iload_n 1, 1) := by decide +kernel
theorem dX0_mostFrom_25 : decode cX0_mostFrom 25 = .ok (.iload 4, 2) := by decide +kernel
theorem dX0_mostFrom_27 : decode cX0_mostFrom 27 = .ok (.iload_n 2, 1) := by decide +kernel
theorem dX0_mostFrom_28 : decode cX0_mostFrom 28 = .ok (.invokevirtual 35, 3) := by decide +kernel
theorem dX0_mostFrom_31 : decode cX0_mostFrom 31 = .ok (.ifCond .eq 26, 3) := by decide +kernel
theorem dX0_mostFrom_34 : decode cX0_mostFrom 34 = .ok (.iload_n 3, 1) := by decide +kernel
theorem dX0_mostFrom_35 : decode cX0_mostFrom 35 = .ok (.iconst 1, 1) := by decide +kernel
theorem dX0_mostFrom_36 : decode cX0_mostFrom 36 = .ok (.aload_n 0, 1) := by decide +kernel
theorem dX0_mostFrom_37 : decode cX0_mostFrom 37 = .ok (.getfield 17, 3) := by decide +kernel
theorem dX0_mostFrom_40 : decode cX0_mostFrom 40 = .ok (.iload_n 1, 1) := by decide +kernel
theorem dX0_mostFrom_41 : decode cX0_mostFrom 41 = .ok (.iconst 1, 1) := by decide +kernel
theorem dX0_mostFrom_42 : decode cX0_mostFrom 42 = .ok (.iadd, 1) := by decide +kernel
theorem dX0_mostFrom_43 : decode cX0_mostFrom 43 = .ok (.aaload, 1) := by decide +kernel
theorem dX0_mostFrom_44 : decode cX0_mostFrom 44 = .ok (.iload_n 2, 1) := by decide +kernel
theorem dX0_mostFrom_45 : decode cX0_mostFrom 45 = .ok (.iload 4, 2) := by decide +kernel
theorem dX0_mostFrom_47 : decode cX0_mostFrom 47 = .ok (.invokestatic 27, 3) := by decide +kernel
theorem dX0_mostFrom_50 : decode cX0_mostFrom 50 = .ok (.ior, 1) := by decide +kernel
theorem dX0_mostFrom_51 : decode cX0_mostFrom 51 = .ok (.iaload, 1) := by decide +kernel
theorem dX0_mostFrom_52 : decode cX0_mostFrom 52 = .ok (.iadd, 1) := by decide +kernel
theorem dX0_mostFrom_53 : decode cX0_mostFrom 53 = .ok (.invokestatic 39, 3) := by decide +kernel
theorem dX0_mostFrom_56 : decode cX0_mostFrom 56 = .ok (.istore_n 3, 1) := by decide +kernel
theorem dX0_mostFrom_57 : decode cX0_mostFrom 57 = .ok (.iinc 4 1, 3) := by decide +kernel
theorem dX0_mostFrom_60 : decode cX0_mostFrom 60 = .ok (.goto (-46), 3) := by decide +kernel
theorem dX0_mostFrom_63 : decode cX0_mostFrom 63 = .ok (.iload_n 3, 1) := by decide +kernel
theorem dX0_mostFrom_64 : decode cX0_mostFrom 64 = .ok (.ireturn, 1) := by decide +kernel
theorem dX0_isFree_0 : decode cX0_isFree 0 = .ok (.aload_n 0, 1) := by decide +kernel
theorem dX0_isFree_1 : decode cX0_isFree 1 = .ok (.getfield 9, 3) := by decide +kernel
theorem dX0_isFree_4 : decode cX0_isFree 4 = .ok (.iload_n 1, 1) := by decide +kernel
theorem dX0_isFree_5 : decode cX0_isFree 5 = .ok (.iaload, 1) := by decide +kernel
theorem dX0_isFree_6 : decode cX0_isFree 6 = .ok (.iload_n 2, 1) := by decide +kernel
theorem dX0_isFree_7 : decode cX0_isFree 7 = .ok (.invokestatic 44, 3) := by decide +kernel
theorem dX0_isFree_10 : decode cX0_isFree 10 = .ok (.ifCond .eq 15, 3) := by decide +kernel
theorem dX0_isFree_13 : decode cX0_isFree 13 = .ok (.iload_n 3, 1) := by decide +kernel
theorem dX0_isFree_14 : decode cX0_isFree 14 = .ok (.iload_n 2, 1) := by decide +kernel
theorem dX0_isFree_15 : decode cX0_isFree 15 = .ok (.invokestatic 44, 3) := by decide +kernel
theorem dX0_isFree_18 : decode cX0_isFree 18 = .ok (.ifCond .ne 7, 3) := by decide +kernel
theorem dX0_isFree_21 : decode cX0_isFree 21 = .ok (.iconst 1, 1) := by decide +kernel
theorem dX0_isFree_22 : decode cX0_isFree 22 = .ok (.goto 4, 3) := by decide +kernel
theorem dX0_isFree_25 : decode cX0_isFree 25 = .ok (.iconst 0, 1) := by decide +kernel
theorem dX0_isFree_26 : decode cX0_isFree 26 = .ok (.ireturn, 1) := by decide +kernel
theorem dX0_workOf_0 : decode cX0_workOf 0 = .ok (.iconst 0, 1) := by decide +kernel
theorem dX0_workOf_1 : decode cX0_workOf 1 = .ok (.istore_n 2, 1) := by decide +kernel
theorem dX0_workOf_2 : decode cX0_workOf 2 = .ok (.bipush (-9), 2) := by decide +kernel
theorem dX0_workOf_4 : decode cX0_workOf 4 = .ok (.istore_n 3, 1) := by decide +kernel
theorem dX0_workOf_5 : decode cX0_workOf 5 = .ok (.iconst 0, 1) := by decide +kernel
theorem dX0_workOf_6 : decode cX0_workOf 6 = .ok (.istore 4, 2) := by decide +kernel
theorem dX0_workOf_8 : decode cX0_workOf 8 = .ok (.iload 4, 2) := by decide +kernel
theorem dX0_workOf_10 : decode cX0_workOf 10 = .ok (.iload_n 1, 1) := by decide +kernel
theorem dX0_workOf_11 : decode cX0_workOf 11 = .ok (.if_icmp .gt 30, 3) := by decide +kernel
theorem dX0_workOf_14 : decode cX0_workOf 14 = .ok (.aload_n 0, 1) := by decide +kernel
theorem dX0_workOf_15 : decode cX0_workOf 15 = .ok (.iload 4, 2) := by decide +kernel
theorem dX0_workOf_17 : decode cX0_workOf 17 = .ok (.iload_n 2, 1) := by decide +kernel
theorem dX0_workOf_18 : decode cX0_workOf 18 = .ok (.invokevirtual 48, 3) := by decide +kernel
theorem dX0_workOf_21 : decode cX0_workOf 21 = .ok (.istore_n 3, 1) := by decide +kernel
theorem dX0_workOf_22 : decode cX0_workOf 22 = .ok (.iload_n 3, 1) := by decide +kernel
theorem dX0_workOf_23 : decode cX0_workOf 23 = .ok (.bipush (-9), 2) := by decide +kernel
theorem dX0_workOf_25 : decode cX0_workOf 25 = .ok (.if_icmp .eq 10, 3) := by decide +kernel
theorem dX0_workOf_28 : decode cX0_workOf 28 = .ok (.iload_n 2, 1) := by decide +kernel
theorem dX0_workOf_29 : decode cX0_workOf 29 = .ok (.iload_n 3, 1) := by decide +kernel
theorem dX0_workOf_30 : decode cX0_workOf 30 = .ok (.invokestatic 27, 3) := by decide +kernel
theorem dX0_workOf_33 : decode cX0_workOf 33 = .ok (.ior, 1) := by decide +kernel
theorem dX0_workOf_34 : decode cX0_workOf 34 = .ok (.istore_n 2, 1) := by decide +kernel
theorem dX0_workOf_35 : decode cX0_workOf 35 = .ok (.iinc 4 1, 3) := by decide +kernel
theorem dX0_workOf_38 : decode cX0_workOf 38 = .ok (.goto (-30), 3) := by decide +kernel
theorem dX0_workOf_41 : decode cX0_workOf 41 = .ok (.iload_n 3, 1) := by decide +kernel
theorem dX0_workOf_42 : decode cX0_workOf 42 = .ok (.ireturn, 1) := by decide +kernel
theorem dX0_firstWork_0 : decode cX0_firstWork 0 = .ok (.iconst 0, 1) := by decide +kernel
theorem dX0_firstWork_1 : decode cX0_firstWork 1 = .ok (.istore_n 3, 1) := by decide +kernel
theorem dX0_firstWork_2 : decode cX0_firstWork 2 = .ok (.iload_n 3, 1) := by decide +kernel
theorem dX0_firstWork_3 : decode cX0_firstWork 3 = .ok (.aload_n 0, 1) := by decide +kernel
theorem dX0_firstWork_4 : decode cX0_firstWork 4 = .ok (.getfield 24, 3) := by decide +kernel
theorem dX0_firstWork_7 : decode cX0_firstWork 7 = .ok (.if_icmp .ge 49, 3) := by decide +kernel
theorem dX0_firstWork_10 : decode cX0_firstWork 10 = .ok (.aload_n 0, 1) := by decide +kernel
theorem dX0_firstWork_11 : decode cX0_firstWork 11 = .ok (.iload_n 1, 1) := by decide +kernel
theorem dX0_firstWork_12 : decode cX0_firstWork 12 = .ok (.iload_n 3, 1) := by decide +kernel
theorem dX0_firstWork_13 : decode cX0_firstWork 13 = .ok (.iload_n 2, 1) := by decide +kernel
theorem dX0_firstWork_14 : decode cX0_firstWork 14 = .ok (.invokevirtual 35, 3) := by decide +kernel
theorem dX0_firstWork_17 : decode cX0_firstWork 17 = .ok (.ifCond .eq 33, 3) := by decide +kernel
theorem dX0_firstWork_20 : decode cX0_firstWork 20 = .ok (.iconst 1, 1) := by decide +kernel
theorem dX0_firstWork_21 : decode cX0_firstWork 21 = .ok (.aload_n 0, 1) := by decide +kernel
theorem dX0_firstWork_22 : decode cX0_firstWork 22 = .ok (.getfield 17, 3) := by decide +kernel
theorem dX0_firstWork_25 : decode cX0_firstWork 25 = .ok (.iload_n 1, 1) := by decide +kernel
theorem dX0_firstWork_26 : decode cX0_firstWork 26 = .ok (.iconst 1, 1) := by decide +kernel
theorem dX0_firstWork_27 : decode cX0_firstWork 27 = .ok (.iadd, 1) := by decide +kernel
theorem dX0_firstWork_28 : decode cX0_firstWork 28 = .ok (.aaload, 1) := by decide +kernel
theorem dX0_firstWork_29 : decode cX0_firstWork 29 = .ok (.iload_n 2, 1) := by decide +kernel
theorem dX0_firstWork_30 : decode cX0_firstWork 30 = .ok (.iload_n 3, 1) := by decide +kernel
theorem dX0_firstWork_31 : decode cX0_firstWork 31 = .ok (.invokestatic 27, 3) := by decide +kernel
theorem dX0_firstWork_34 : decode cX0_firstWork 34 = .ok (.ior, 1) := by decide +kernel
theorem dX0_firstWork_35 : decode cX0_firstWork 35 = .ok (.iaload, 1) := by decide +kernel
theorem dX0_firstWork_36 : decode cX0_firstWork 36 = .ok (.iadd, 1) := by decide +kernel
theorem dX0_firstWork_37 : decode cX0_firstWork 37 = .ok (.aload_n 0, 1) := by decide +kernel
theorem dX0_firstWork_38 : decode cX0_firstWork 38 = .ok (.getfield 17, 3) := by decide +kernel
theorem dX0_firstWork_41 : decode cX0_firstWork 41 = .ok (.iload_n 1, 1) := by decide +kernel
theorem dX0_firstWork_42 : decode cX0_firstWork 42 = .ok (.aaload, 1) := by decide +kernel
theorem dX0_firstWork_43 : decode cX0_firstWork 43 = .ok (.iload_n 2, 1) := by decide +kernel
theorem dX0_firstWork_44 : decode cX0_firstWork 44 = .ok (.iaload, 1) := by decide +kernel
theorem dX0_firstWork_45 : decode cX0_firstWork 45 = .ok (.if_icmp .ne 5, 3) := by decide +kernel
theorem dX0_firstWork_48 : decode cX0_firstWork 48 = .ok (.iload_n 3, 1) := by decide +kernel
theorem dX0_firstWork_49 : decode cX0_firstWork 49 = .ok (.ireturn, 1) := by decide +kernel
theorem dX0_firstWork_50 : decode cX0_firstWork 50 = .ok (.iinc 3 1, 3) := by decide +kernel
theorem dX0_firstWork_53 : decode cX0_firstWork 53 = .ok (.goto (-51), 3) := by decide +kernel
theorem dX0_firstWork_56 : decode cX0_firstWork 56 = .ok (.bipush (-9), 2) := by decide +kernel
theorem dX0_firstWork_58 : decode cX0_firstWork 58 = .ok (.ireturn, 1) := by decide +kernel
theorem dX1_init_0 : decode cX1_init 0 = .ok (.aload_n 0, 1) := by decide +kernel
theorem dX1_init_1 : decode cX1_init 1 = .ok (.invokespecial 3, 3) := by decide +kernel
theorem dX1_init_4 : decode cX1_init 4 = .ok (.aload_n 0, 1) := by decide +kernel
theorem dX1_init_5 : decode cX1_init 5 = .ok (.bipush 6, 2) := by decide +kernel
theorem dX1_init_7 : decode cX1_init 7 = .ok (.newarray .int, 2) := by decide +kernel
theorem dX1_init_9 : decode cX1_init 9 = .ok (.putfield 9, 3) := by decide +kernel
theorem dX1_init_12 : decode cX1_init 12 = .ok (.aload_n 0, 1) := by decide +kernel
theorem dX1_init_13 : decode cX1_init 13 = .ok (.bipush 6, 2) := by decide +kernel
theorem dX1_init_15 : decode cX1_init 15 = .ok (.newarray .int, 2) := by decide +kernel
theorem dX1_init_17 : decode cX1_init 17 = .ok (.putfield 15, 3) := by decide +kernel
theorem dX1_init_20 : decode cX1_init 20 = .ok (.aload_n 0, 1) := by decide +kernel
theorem dX1_init_21 : decode cX1_init 21 = .ok (.bipush 6, 2) := by decide +kernel
theorem dX1_init_23 : decode cX1_init 23 = .ok (.newarray .int, 2) := by decide +kernel
theorem dX1_init_25 : decode cX1_init 25 = .ok (.putfield 18, 3) := by decide +kernel
theorem dX1_init_28 : decode cX1_init 28 = .ok (.return_, 1) := by decide +kernel
theorem dX1_begin_0 : decode cX1_begin 0 = .ok (.aload_n 0, 1) := by decide +kernel
theorem dX1_begin_1 : decode cX1_begin 1 = .ok (.iconst 0, 1) := by decide +kernel
theorem dX1_begin_2 : decode cX1_begin 2 = .ok (.putfield 21, 3) := by decide +kernel
theorem dX1_begin_5 : decode cX1_begin 5 = .ok (.aload_n 0, 1) := by decide +kernel
theorem dX1_begin_6 : decode cX1_begin 6 = .ok (.iconst 0, 1) := by decide +kernel
theorem dX1_begin_7 : decode cX1_begin 7 = .ok (.putfield 25, 3) := by decide +kernel
theorem dX1_begin_10 : decode cX1_begin 10 = .ok (.aload_n 0, 1) := by decide +kernel
theorem dX1_begin_11 : decode cX1_begin 11 = .ok (.iconst 0, 1) := by decide +kernel
theorem dX1_begin_12 : decode cX1_begin 12 = .ok (.putfield 28, 3) := by decide +kernel
theorem dX1_begin_15 : decode cX1_begin 15 = .ok (.iconst 0, 1) := by decide +kernel
theorem dX1_begin_16 : decode cX1_begin 16 = .ok (.istore_n 2, 1) := by decide +kernel
theorem dX1_begin_17 : decode cX1_begin 17 = .ok (.iload_n 2, 1) := by decide +kernel
theorem dX1_begin_18 : decode cX1_begin 18 = .ok (.bipush 6, 2) := by decide +kernel
theorem dX1_begin_20 : decode cX1_begin 20 = .ok (.if_icmp .ge 31, 3) := by decide +kernel
theorem dX1_begin_23 : decode cX1_begin 23 = .ok (.aload_n 0, 1) := by decide +kernel
theorem dX1_begin_24 : decode cX1_begin 24 = .ok (.getfield 9, 3) := by decide +kernel
theorem dX1_begin_27 : decode cX1_begin 27 = .ok (.iload_n 2, 1) := by decide +kernel
theorem dX1_begin_28 : decode cX1_begin 28 = .ok (.aload_n 1, 1) := by decide +kernel
theorem dX1_begin_29 : decode cX1_begin 29 = .ok (.getfield 31, 3) := by decide +kernel
theorem dX1_begin_32 : decode cX1_begin 32 = .ok (.iload_n 2, 1) := by decide +kernel
theorem dX1_begin_33 : decode cX1_begin 33 = .ok (.iaload, 1) := by decide +kernel
theorem dX1_begin_34 : decode cX1_begin 34 = .ok (.iastore, 1) := by decide +kernel
theorem dX1_begin_35 : decode cX1_begin 35 = .ok (.aload_n 0, 1) := by decide +kernel
theorem dX1_begin_36 : decode cX1_begin 36 = .ok (.getfield 15, 3) := by decide +kernel
theorem dX1_begin_39 : decode cX1_begin 39 = .ok (.iload_n 2, 1) := by decide +kernel
theorem dX1_begin_40 : decode cX1_begin 40 = .ok (.iload_n 2, 1) := by decide +kernel
theorem dX1_begin_41 : decode cX1_begin 41 = .ok (.invokestatic 34, 3) := by decide +kernel
theorem dX1_begin_44 : decode cX1_begin 44 = .ok (.iastore, 1) := by decide +kernel
theorem dX1_begin_45 : decode cX1_begin 45 = .ok (.iinc 2 1, 3) := by decide +kernel
theorem dX1_begin_48 : decode cX1_begin 48 = .ok (.goto (-31), 3) := by decide +kernel
theorem dX1_begin_51 : decode cX1_begin 51 = .ok (.return_, 1) := by decide +kernel
theorem dX1_become_0 : decode cX1_become 0 = .ok (.aload_n 0, 1) := by decide +kernel
theorem dX1_become_1 : decode cX1_become 1 = .ok (.aload_n 1, 1) := by decide +kernel
theorem dX1_become_2 : decode cX1_become 2 = .ok (.getfield 21, 3) := by decide +kernel
theorem dX1_become_5 : decode cX1_become 5 = .ok (.putfield 21, 3) := by decide +kernel
theorem dX1_become_8 : decode cX1_become 8 = .ok (.aload_n 0, 1) := by decide +kernel
theorem dX1_become_9 : decode cX1_become 9 = .ok (.aload_n 1, 1) := by decide +kernel
theorem dX1_become_10 : decode cX1_become 10 = .ok (.getfield 25, 3) := by decide +kernel
theorem dX1_become_13 : decode cX1_become 13 = .ok (.putfield 25, 3) := by decide +kernel
theorem dX1_become_16 : decode cX1_become 16 = .ok (.aload_n 0, 1) := by decide +kernel
theorem dX1_become_17 : decode cX1_become 17 = .ok (.aload_n 1, 1) := by decide +kernel
theorem dX1_become_18 : decode cX1_become 18 = .ok (.getfield 28, 3) := by decide +kernel
theorem dX1_become_21 : decode cX1_become 21 = .ok (.putfield 28, 3) := by decide +kernel
theorem dX1_become_24 : decode cX1_become 24 = .ok (.aload_n 1, 1) := by decide +kernel
theorem dX1_become_25 : decode cX1_become 25 = .ok (.getfield 9, 3) := by decide +kernel
theorem dX1_become_28 : decode cX1_become 28 = .ok (.iconst 0, 1) := by decide +kernel
theorem dX1_become_29 : decode cX1_become 29 = .ok (.aload_n 0, 1) := by decide +kernel
theorem dX1_become_30 : decode cX1_become 30 = .ok (.getfield 9, 3) := by decide +kernel
theorem dX1_become_33 : decode cX1_become 33 = .ok (.iconst 0, 1) := by decide +kernel
theorem dX1_become_34 : decode cX1_become 34 = .ok (.bipush 6, 2) := by decide +kernel
theorem dX1_become_36 : decode cX1_become 36 = .ok (.invokestatic 38, 3) := by decide +kernel
theorem dX1_become_39 : decode cX1_become 39 = .ok (.aload_n 1, 1) := by decide +kernel
theorem dX1_become_40 : decode cX1_become 40 = .ok (.getfield 15, 3) := by decide +kernel
theorem dX1_become_43 : decode cX1_become 43 = .ok (.iconst 0, 1) := by decide +kernel
theorem dX1_become_44 : decode cX1_become 44 = .ok (.aload_n 0, 1) := by decide +kernel
theorem dX1_become_45 : decode cX1_become 45 = .ok (.getfield 15, 3) := by decide +kernel
theorem dX1_become_48 : decode cX1_become 48 = .ok (.iconst 0, 1) := by decide +kernel
theorem dX1_become_49 : decode cX1_become 49 = .ok (.bipush 6, 2) := by decide +kernel
theorem dX1_become_51 : decode cX1_become 51 = .ok (.invokestatic 38, 3) := by decide +kernel
theorem dX1_become_54 : decode cX1_become 54 = .ok (.aload_n 1, 1) := by decide +kernel
theorem dX1_become_55 : decode cX1_become 55 = .ok (.getfield 18, 3) := by decide +kernel
theorem dX1_become_58 : decode cX1_become 58 = .ok (.iconst 0, 1) := by decide +kernel
theorem dX1_become_59 : decode cX1_become 59 = .ok (.aload_n 0, 1) := by decide +kernel
theorem dX1_become_60 : decode cX1_become 60 = .ok (.getfield 18, 3) := by decide +kernel
theorem dX1_become_63 : decode cX1_become 63 = .ok (.iconst 0, 1) := by decide +kernel
theorem dX1_become_64 : decode cX1_become 64 = .ok (.bipush 6, 2) := by decide +kernel
theorem dX1_become_66 : decode cX1_become 66 = .ok (.invokestatic 38, 3) := by decide +kernel
theorem dX1_become_69 : decode cX1_become 69 = .ok (.return_, 1) := by decide +kernel
theorem dX1_ageOfRoom_0 : decode cX1_ageOfRoom 0 = .ok (.aload_n 0, 1) := by decide +kernel
theorem dX1_ageOfRoom_1 : decode cX1_ageOfRoom 1 = .ok (.aload_n 0, 1) := by decide +kernel
theorem dX1_ageOfRoom_2 : decode cX1_ageOfRoom 2 = .ok (.getfield 15, 3) := by decide +kernel
theorem dX1_ageOfRoom_5 : decode cX1_ageOfRoom 5 = .ok (.iload_n 1, 1) := by decide +kernel
theorem dX1_ageOfRoom_6 : decode cX1_ageOfRoom 6 = .ok (.iaload, 1) := by decide +kernel
theorem dX1_ageOfRoom_7 : decode cX1_ageOfRoom 7 = .ok (.invokevirtual 44, 3) := by decide +kernel
theorem dX1_ageOfRoom_10 : decode cX1_ageOfRoom 10 = .ok (.ireturn, 1) := by decide +kernel
theorem dX1_ageTogether_0 : decode cX1_ageTogether 0 = .ok (.iconst 0, 1) := by decide +kernel
theorem dX1_ageTogether_1 : decode cX1_ageTogether 1 = .ok (.istore_n 2, 1) := by decide +kernel
theorem dX1_ageTogether_2 : decode cX1_ageTogether 2 = .ok (.iconst 0, 1) := by decide +kernel
theorem dX1_ageTogether_3 : decode cX1_ageTogether 3 = .ok (.istore_n 3, 1) := by decide +kernel
theorem dX1_ageTogether_4 : decode cX1_ageTogether 4 = .ok (.iconst 0, 1) := by decide +kernel
theorem dX1_ageTogether_5 : decode cX1_ageTogether 5 = .ok (.istore 4, 2) := by decide +kernel
theorem dX1_ageTogether_7 : decode cX1_ageTogether 7 = .ok (.iload 4, 2) := by decide +kernel
theorem dX1_ageTogether_9 : decode cX1_ageTogether 9 = .ok (.bipush 6, 2) := by decide +kernel
theorem dX1_ageTogether_11 : decode cX1_ageTogether 11 = .ok (.if_icmp .ge 31, 3) := by decide +kernel
theorem dX1_ageTogether_14 : decode cX1_ageTogether 14 = .ok (.iload_n 1, 1) := by decide +kernel
theorem dX1_ageTogether_15 : decode cX1_ageTogether 15 = .ok (.iload 4, 2) := by decide +kernel
theorem dX1_ageTogether_17 : decode cX1_ageTogether 17 = .ok (.invokestatic 47, 3) := by decide +kernel
theorem dX1_ageTogether_20 : decode cX1_ageTogether 20 = .ok (.ifCond .eq 16, 3) := by decide +kernel
theorem dX1_ageTogether_23 : decode cX1_ageTogether 23 = .ok (.iload_n 2, 1) := by decide +kernel
theorem dX1_ageTogether_24 : decode cX1_ageTogether 24 = .ok (.aload_n 0, 1) := by decide +kernel
theorem dX1_ageTogether_25 : decode cX1_ageTogether 25 = .ok (.getfield 9, 3) := by decide +kernel
theorem dX1_ageTogether_28 : decode cX1_ageTogether 28 = .ok (.iload 4, 2) := by decide +kernel
theorem dX1_ageTogether_30 : decode cX1_ageTogether 30 = .ok (.iaload, 1) := by decide +kernel
theorem dX1_ageTogether_31 : decode cX1_ageTogether 31 = .ok (.iadd, 1) := by decide +kernel
theorem dX1_ageTogether_32 : decode cX1_ageTogether 32 = .ok (.istore_n 2, 1) := by decide +kernel
theorem dX1_ageTogether_33 : decode cX1_ageTogether 33 = .ok (.iinc 3 1, 3) := by decide +kernel
theorem dX1_ageTogether_36 : decode cX1_ageTogether 36 = .ok (.iinc 4 1, 3) := by decide +kernel
theorem dX1_ageTogether_39 : decode cX1_ageTogether 39 = .ok (.goto (-32), 3) := by decide +kernel
theorem dX1_ageTogether_42 : decode cX1_ageTogether 42 = .ok (.iload_n 3, 1) := by decide +kernel
theorem dX1_ageTogether_43 : decode cX1_ageTogether 43 = .ok (.ifCond .ne 7, 3) := by decide +kernel
theorem dX1_ageTogether_46 : decode cX1_ageTogether 46 = .ok (.iconst 0, 1) := by decide +kernel
theorem dX1_ageTogether_47 : decode cX1_ageTogether 47 = .ok (.goto 6, 3) := by decide +kernel
theorem dX1_ageTogether_50 : decode cX1_ageTogether 50 = .ok (.iload_n 2, 1) := by decide +kernel
theorem dX1_ageTogether_51 : decode cX1_ageTogether 51 = .ok (.iload_n 3, 1) := by decide +kernel
theorem dX1_ageTogether_52 : decode cX1_ageTogether 52 = .ok (.idiv, 1) := by decide +kernel
theorem dX1_ageTogether_53 : decode cX1_ageTogether 53 = .ok (.ireturn, 1) := by decide +kernel
theorem dX1_bear_0 : decode cX1_bear 0 = .ok (.aload_n 0, 1) := by decide +kernel
theorem dX1_bear_1 : decode cX1_bear 1 = .ok (.getfield 18, 3) := by decide +kernel
theorem dX1_bear_4 : decode cX1_bear 4 = .ok (.iload_n 1, 1) := by decide +kernel
theorem dX1_bear_5 : decode cX1_bear 5 = .ok (.aload_n 0, 1) := by decide +kernel
theorem dX1_bear_6 : decode cX1_bear 6 = .ok (.iload_n 2, 1) := by decide +kernel
theorem dX1_bear_7 : decode cX1_bear 7 = .ok (.invokevirtual 51, 3) := by decide +kernel
theorem dX1_bear_10 : decode cX1_bear 10 = .ok (.iastore, 1) := by decide +kernel
theorem dX1_bear_11 : decode cX1_bear 11 = .ok (.aload_n 0, 1) := by decide +kernel
theorem dX1_bear_12 : decode cX1_bear 12 = .ok (.dup, 1) := by decide +kernel
theorem dX1_bear_13 : decode cX1_bear 13 = .ok (.getfield 25, 3) := by decide +kernel
theorem dX1_bear_16 : decode cX1_bear 16 = .ok (.iload_n 1, 1) := by decide +kernel
theorem dX1_bear_17 : decode cX1_bear 17 = .ok (.invokestatic 34, 3) := by decide +kernel
theorem dX1_bear_20 : decode cX1_bear 20 = .ok (.ior, 1) := by decide +kernel
theorem dX1_bear_21 : decode cX1_bear 21 = .ok (.putfield 25, 3) := by decide +kernel
theorem dX1_bear_24 : decode cX1_bear 24 = .ok (.aload_n 0, 1) := by decide +kernel
theorem dX1_bear_25 : decode cX1_bear 25 = .ok (.getfield 18, 3) := by decide +kernel
theorem dX1_bear_28 : decode cX1_bear 28 = .ok (.iload_n 1, 1) := by decide +kernel
theorem dX1_bear_29 : decode cX1_bear 29 = .ok (.iaload, 1) := by decide +kernel
theorem dX1_bear_30 : decode cX1_bear 30 = .ok (.iload_n 3, 1) := by decide +kernel
theorem dX1_bear_31 : decode cX1_bear 31 = .ok (.if_icmp .ge 16, 3) := by decide +kernel
theorem dX1_bear_34 : decode cX1_bear 34 = .ok (.aload_n 0, 1) := by decide +kernel
theorem dX1_bear_35 : decode cX1_bear 35 = .ok (.dup, 1) := by decide +kernel
theorem dX1_bear_36 : decode cX1_bear 36 = .ok (.getfield 28, 3) := by decide +kernel
theorem dX1_bear_39 : decode cX1_bear 39 = .ok (.iload_n 1, 1) := by decide +kernel
theorem dX1_bear_40 : decode cX1_bear 40 = .ok (.invokestatic 34, 3) := by decide +kernel
theorem dX1_bear_43 : decode cX1_bear 43 = .ok (.ior, 1) := by decide +kernel
theorem dX1_bear_44 : decode cX1_bear 44 = .ok (.putfield 28, 3) := by decide +kernel
theorem dX1_bear_47 : decode cX1_bear 47 = .ok (.aload_n 0, 1) := by decide +kernel
theorem dX1_bear_48 : decode cX1_bear 48 = .ok (.getfield 18, 3) := by decide +kernel
theorem dX1_bear_51 : decode cX1_bear 51 = .ok (.iload_n 1, 1) := by decide +kernel
theorem dX1_bear_52 : decode cX1_bear 52 = .ok (.iaload, 1) := by decide +kernel
theorem dX1_bear_53 : decode cX1_bear 53 = .ok (.ireturn, 1) := by decide +kernel
theorem dX1_passYear_0 : decode cX1_passYear 0 = .ok (.aload_n 0, 1) := by decide +kernel
theorem dX1_passYear_1 : decode cX1_passYear 1 = .ok (.dup, 1) := by decide +kernel
theorem dX1_passYear_2 : decode cX1_passYear 2 = .ok (.getfield 21, 3) := by decide +kernel
theorem dX1_passYear_5 : decode cX1_passYear 5 = .ok (.iconst 1, 1) := by decide +kernel
theorem dX1_passYear_6 : decode cX1_passYear 6 = .ok (.iadd, 1) := by decide +kernel
theorem dX1_passYear_7 : decode cX1_passYear 7 = .ok (.putfield 21, 3) := by decide +kernel
theorem dX1_passYear_10 : decode cX1_passYear 10 = .ok (.iconst 0, 1) := by decide +kernel
theorem dX1_passYear_11 : decode cX1_passYear 11 = .ok (.istore_n 2, 1) := by decide +kernel
theorem dX1_passYear_12 : decode cX1_passYear 12 = .ok (.iload_n 2, 1) := by decide +kernel
theorem dX1_passYear_13 : decode cX1_passYear 13 = .ok (.aload_n 1, 1) := by decide +kernel
theorem dX1_passYear_14 : decode cX1_passYear 14 = .ok (.getfield 54, 3) := by decide +kernel
theorem dX1_passYear_17 : decode cX1_passYear 17 = .ok (.if_icmp .ge 19, 3) := by decide +kernel
theorem dX1_passYear_20 : decode cX1_passYear 20 = .ok (.aload_n 0, 1) := by decide +kernel
theorem dX1_passYear_21 : decode cX1_passYear 21 = .ok (.getfield 9, 3) := by decide +kernel
theorem dX1_passYear_24 : decode cX1_passYear 24 = .ok (.iload_n 2, 1) := by decide +kernel
theorem dX1_passYear_25 : decode cX1_passYear 25 = .ok (.dup2, 1) := by decide +kernel
theorem dX1_passYear_26 : decode cX1_passYear 26 = .ok (.iaload, 1) := by decide +kernel
theorem dX1_passYear_27 : decode cX1_passYear 27 = .ok (.iconst 1, 1) := by decide +kernel
theorem dX1_passYear_28 : decode cX1_passYear 28 = .ok (.iadd, 1) := by decide +kernel
theorem dX1_passYear_29 : decode cX1_passYear 29 = .ok (.iastore, 1) := by decide +kernel
theorem dX1_passYear_30 : decode cX1_passYear 30 = .ok (.iinc 2 1, 3) := by decide +kernel
theorem dX1_passYear_33 : decode cX1_passYear 33 = .ok (.goto (-21), 3) := by decide +kernel
theorem dX1_passYear_36 : decode cX1_passYear 36 = .ok (.iconst 0, 1) := by decide +kernel
theorem dX1_passYear_37 : decode cX1_passYear 37 = .ok (.istore_n 2, 1) := by decide +kernel
theorem dX1_passYear_38 : decode cX1_passYear 38 = .ok (.iconst 0, 1) := by decide +kernel
theorem dX1_passYear_39 : decode cX1_passYear 39 = .ok (.istore_n 3, 1) := by decide +kernel
theorem dX1_passYear_40 : decode cX1_passYear 40 = .ok (.iload_n 3, 1) := by decide +kernel
theorem dX1_passYear_41 : decode cX1_passYear 41 = .ok (.aload_n 1, 1) := by decide +kernel
theorem dX1_passYear_42 : decode cX1_passYear 42 = .ok (.getfield 57, 3) := by decide +kernel
theorem dX1_passYear_45 : decode cX1_passYear 45 = .ok (.if_icmp .ge 61, 3) := by decide +kernel
theorem dX1_passYear_48 : decode cX1_passYear 48 = .ok (.aload_n 0, 1) := by decide +kernel
theorem dX1_passYear_49 : decode cX1_passYear 49 = .ok (.getfield 28, 3) := by decide +kernel
theorem dX1_passYear_52 : decode cX1_passYear 52 = .ok (.iload_n 3, 1) := by decide +kernel
theorem dX1_passYear_53 : decode cX1_passYear 53 = .ok (.invokestatic 47, 3) := by decide +kernel
theorem dX1_passYear_56 : decode cX1_passYear 56 = .ok (.ifCond .eq 44, 3) := by decide +kernel
theorem dX1_passYear_59 : decode cX1_passYear 59 = .ok (.aload_n 0, 1) := by decide +kernel
theorem dX1_passYear_60 : decode cX1_passYear 60 = .ok (.getfield 18, 3) := by decide +kernel
theorem dX1_passYear_63 : decode cX1_passYear 63 = .ok (.iload_n 3, 1) := by decide +kernel
theorem dX1_passYear_64 : decode cX1_passYear 64 = .ok (.dup2, 1) := by decide +kernel
theorem dX1_passYear_65 : decode cX1_passYear 65 = .ok (.iaload, 1) := by decide +kernel
theorem dX1_passYear_66 : decode cX1_passYear 66 = .ok (.iconst 1, 1) := by decide +kernel
theorem dX1_passYear_67 : decode cX1_passYear 67 = .ok (.iadd, 1) := by decide +kernel
theorem dX1_passYear_68 : decode cX1_passYear 68 = .ok (.iastore, 1) := by decide +kernel
theorem dX1_passYear_69 : decode cX1_passYear 69 = .ok (.aload_n 0, 1) := by decide +kernel
theorem dX1_passYear_70 : decode cX1_passYear 70 = .ok (.getfield 18, 3) := by decide +kernel
theorem dX1_passYear_73 : decode cX1_passYear 73 = .ok (.iload_n 3, 1) := by decide +kernel
theorem dX1_passYear_74 : decode cX1_passYear 74 = .ok (.iaload, 1) := by decide +kernel
theorem dX1_passYear_75 : decode cX1_passYear 75 = .ok (.aload_n 1, 1) := by decide +kernel
theorem dX1_passYear_76 : decode cX1_passYear 76 = .ok (.getfield 60, 3) := by decide +kernel
theorem dX1_passYear_79 : decode cX1_passYear 79 = .ok (.if_icmp .lt 21, 3) := by decide +kernel
theorem dX1_passYear_82 : decode cX1_passYear 82 = .ok (.aload_n 0, 1) := by decide +kernel
theorem dX1_passYear_83 : decode cX1_passYear 83 = .ok (.dup, 1) := by decide +kernel
theorem dX1_passYear_84 : decode cX1_passYear 84 = .ok (.getfield 28, 3) := by decide +kernel
theorem dX1_passYear_87 : decode cX1_passYear 87 = .ok (.iload_n 3, 1) := by decide +kernel
theorem dX1_passYear_88 : decode cX1_passYear 88 = .ok (.invokestatic 34, 3) := by decide +kernel
theorem dX1_passYear_91 : decode cX1_passYear 91 = .ok (.iconst (-1), 1) := by decide +kernel
theorem dX1_passYear_92 : decode cX1_passYear 92 = .ok (.ixor, 1) := by decide +kernel
theorem dX1_passYear_93 : decode cX1_passYear 93 = .ok (.iand, 1) := by decide +kernel
theorem dX1_passYear_94 : decode cX1_passYear 94 = .ok (.putfield 28, 3) := by decide +kernel
theorem dX1_passYear_97 : decode cX1_passYear 97 = .ok (.iinc 2 1, 3) := by decide +kernel
theorem dX1_passYear_100 : decode cX1_passYear 100 = .ok (.iinc 3 1, 3) := by decide +kernel
theorem dX1_passYear_103 : decode cX1_passYear 103 = .ok (.goto (-63), 3) := by decide +kernel
theorem dX1_passYear_106 : decode cX1_passYear 106 = .ok (.iload_n 2, 1) := by decide +kernel
theorem dX1_passYear_107 : decode cX1_passYear 107 = .ok (.ireturn, 1) := by decide +kernel
theorem dX1_knockThrough_0 : decode cX1_knockThrough 0 = .ok (.aload_n 0, 1) := by decide +kernel
theorem dX1_knockThrough_1 : decode cX1_knockThrough 1 = .ok (.getfield 15, 3) := by decide +kernel
theorem dX1_knockThrough_4 : decode cX1_knockThrough 4 = .ok (.iload_n 1, 1) := by decide +kernel
theorem dX1_knockThrough_5 : decode cX1_knockThrough 5 = .ok (.iaload, 1) := by decide +kernel
theorem dX1_knockThrough_6 : decode cX1_knockThrough 6 = .ok (.aload_n 0, 1) := by decide +kernel
theorem dX1_knockThrough_7 : decode cX1_knockThrough 7 = .ok (.getfield 15, 3) := by decide +kernel
theorem dX1_knockThrough_10 : decode cX1_knockThrough 10 = .ok (.iload_n 2, 1) := by decide +kernel
theorem dX1_knockThrough_11 : decode cX1_knockThrough 11 = .ok (.iaload, 1) := by decide +kernel
theorem dX1_knockThrough_12 : decode cX1_knockThrough 12 = .ok (.ior, 1) := by decide +kernel
theorem dX1_knockThrough_13 : decode cX1_knockThrough 13 = .ok (.istore_n 3, 1) := by decide +kernel
theorem dX1_knockThrough_14 : decode cX1_knockThrough 14 = .ok (.iconst 0, 1) := by decide +kernel
theorem dX1_knockThrough_15 : decode cX1_knockThrough 15 = .ok (.istore 4, 2) := by decide +kernel
theorem dX1_knockThrough_17 : decode cX1_knockThrough 17 = .ok (.iload 4, 2) := by decide +kernel
theorem dX1_knockThrough_19 : decode cX1_knockThrough 19 = .ok (.bipush 6, 2) := by decide +kernel
theorem dX1_knockThrough_21 : decode cX1_knockThrough 21 = .ok (.if_icmp .ge 26, 3) := by decide +kernel
theorem dX1_knockThrough_24 : decode cX1_knockThrough 24 = .ok (.iload_n 3, 1) := by decide +kernel
theorem dX1_knockThrough_25 : decode cX1_knockThrough 25 = .ok (.iload 4, 2) := by decide +kernel
theorem dX1_knockThrough_27 : decode cX1_knockThrough 27 = .ok (.invokestatic 47, 3) := by decide +kernel
theorem dX1_knockThrough_30 : decode cX1_knockThrough 30 = .ok (.ifCond .eq 11, 3) := by decide +kernel
theorem dX1_knockThrough_33 : decode cX1_knockThrough 33 = .ok (.aload_n 0, 1) := by decide +kernel
theorem dX1_knockThrough_34 : decode cX1_knockThrough 34 = .ok (.getfield 15, 3) := by decide +kernel
theorem dX1_knockThrough_37 : decode cX1_knockThrough 37 = .ok (.iload 4, 2) := by decide +kernel
theorem dX1_knockThrough_39 : decode cX1_knockThrough 39 = .ok (.iload_n 3, 1) := by decide +kernel
theorem dX1_knockThrough_40 : decode cX1_knockThrough 40 = .ok (.iastore, 1) := by decide +kernel
theorem dX1_knockThrough_41 : decode cX1_knockThrough 41 = .ok (.iinc 4 1, 3) := by decide +kernel
theorem dX1_knockThrough_44 : decode cX1_knockThrough 44 = .ok (.goto (-27), 3) := by decide +kernel
theorem dX1_knockThrough_47 : decode cX1_knockThrough 47 = .ok (.return_, 1) := by decide +kernel
theorem dX1_buildAnew_0 : decode cX1_buildAnew 0 = .ok (.iconst 0, 1) := by decide +kernel
theorem dX1_buildAnew_1 : decode cX1_buildAnew 1 = .ok (.istore_n 2, 1) := by decide +kernel
theorem dX1_buildAnew_2 : decode cX1_buildAnew 2 = .ok (.iload_n 2, 1) := by decide +kernel
theorem dX1_buildAnew_3 : decode cX1_buildAnew 3 = .ok (.bipush 6, 2) := by decide +kernel
theorem dX1_buildAnew_5 : decode cX1_buildAnew 5 = .ok (.if_icmp .ge 24, 3) := by decide +kernel
theorem dX1_buildAnew_8 : decode cX1_buildAnew 8 = .ok (.aload_n 0, 1) := by decide +kernel
theorem dX1_buildAnew_9 : decode cX1_buildAnew 9 = .ok (.getfield 15, 3) := by decide +kernel
theorem dX1_buildAnew_12 : decode cX1_buildAnew 12 = .ok (.iload_n 2, 1) := by decide +kernel
theorem dX1_buildAnew_13 : decode cX1_buildAnew 13 = .ok (.dup2, 1) := by decide +kernel
theorem dX1_buildAnew_14 : decode cX1_buildAnew 14 = .ok (.iaload, 1) := by decide +kernel
theorem dX1_buildAnew_15 : decode cX1_buildAnew 15 = .ok (.iload_n 1, 1) := by decide +kernel
theorem dX1_buildAnew_16 : decode cX1_buildAnew 16 = .ok (.invokestatic 34, 3) := by decide +kernel
theorem dX1_buildAnew_19 : decode cX1_buildAnew 19 = .ok (.iconst (-1), 1) := by decide +kernel
theorem dX1_buildAnew_20 : decode cX1_buildAnew 20 = .ok (.ixor, 1) := by decide +kernel
theorem dX1_buildAnew_21 : decode cX1_buildAnew 21 = .ok (.iand, 1) := by decide +kernel
theorem dX1_buildAnew_22 : decode cX1_buildAnew 22 = .ok (.iastore, 1) := by decide +kernel
theorem dX1_buildAnew_23 : decode cX1_buildAnew 23 = .ok (.iinc 2 1, 3) := by decide +kernel
theorem dX1_buildAnew_26 : decode cX1_buildAnew 26 = .ok (.goto (-24), 3) := by decide +kernel
theorem dX1_buildAnew_29 : decode cX1_buildAnew 29 = .ok (.aload_n 0, 1) := by decide +kernel
theorem dX1_buildAnew_30 : decode cX1_buildAnew 30 = .ok (.getfield 15, 3) := by decide +kernel
theorem dX1_buildAnew_33 : decode cX1_buildAnew 33 = .ok (.iload_n 1, 1) := by decide +kernel
theorem dX1_buildAnew_34 : decode cX1_buildAnew 34 = .ok (.iload_n 1, 1) := by decide +kernel
theorem dX1_buildAnew_35 : decode cX1_buildAnew 35 = .ok (.invokestatic 34, 3) := by decide +kernel
theorem dX1_buildAnew_38 : decode cX1_buildAnew 38 = .ok (.iastore, 1) := by decide +kernel
theorem dX1_buildAnew_39 : decode cX1_buildAnew 39 = .ok (.aload_n 0, 1) := by decide +kernel
theorem dX1_buildAnew_40 : decode cX1_buildAnew 40 = .ok (.getfield 9, 3) := by decide +kernel
theorem dX1_buildAnew_43 : decode cX1_buildAnew 43 = .ok (.iload_n 1, 1) := by decide +kernel
theorem dX1_buildAnew_44 : decode cX1_buildAnew 44 = .ok (.iconst 0, 1) := by decide +kernel
theorem dX1_buildAnew_45 : decode cX1_buildAnew 45 = .ok (.iastore, 1) := by decide +kernel
theorem dX1_buildAnew_46 : decode cX1_buildAnew 46 = .ok (.return_, 1) := by decide +kernel
theorem dX1_howManyAheadOf_0 : decode cX1_howManyAheadOf 0 = .ok (.iconst 0, 1) := by decide +kernel
theorem dX1_howManyAheadOf_1 : decode cX1_howManyAheadOf 1 = .ok (.istore_n 2, 1) := by decide +kernel
theorem dX1_howManyAheadOf_2 : decode cX1_howManyAheadOf 2 = .ok (.iconst 0, 1) := by decide +kernel
theorem dX1_howManyAheadOf_3 : decode cX1_howManyAheadOf 3 = .ok (.istore_n 3, 1) := by decide +kernel
theorem dX1_howManyAheadOf_4 : decode cX1_howManyAheadOf 4 = .ok (.iload_n 3, 1) := by decide +kernel
theorem dX1_howManyAheadOf_5 : decode cX1_howManyAheadOf 5 = .ok (.bipush 6, 2) := by decide +kernel
theorem dX1_howManyAheadOf_7 : decode cX1_howManyAheadOf 7 = .ok (.if_icmp .ge 70, 3) := by decide +kernel
theorem dX1_howManyAheadOf_10 : decode cX1_howManyAheadOf 10 = .ok (.aload_n 0, 1) := by decide +kernel
theorem dX1_howManyAheadOf_11 : decode cX1_howManyAheadOf 11 = .ok (.getfield 18, 3) := by decide +kernel
theorem dX1_howManyAheadOf_14 : decode cX1_howManyAheadOf 14 = .ok (.iload_n 3, 1) := by decide +kernel
theorem dX1_howManyAheadOf_15 : decode cX1_howManyAheadOf 15 = .ok (.iaload, 1) := by decide +kernel
theorem dX1_howManyAheadOf_16 : decode cX1_howManyAheadOf 16 = .ok (.aload_n 0, 1) := by decide +kernel
theorem dX1_howManyAheadOf_17 : decode cX1_howManyAheadOf 17 = .ok (.getfield 18, 3) := by decide +kernel
theorem dX1_howManyAheadOf_20 : decode cX1_howManyAheadOf 20 = .ok (.iload_n 1, 1) := by decide +kernel
theorem dX1_howManyAheadOf_21 : decode cX1_howManyAheadOf 21 = .ok (.iaload, 1) := by decide +kernel
theorem dX1_howManyAheadOf_22 : decode cX1_howManyAheadOf 22 = .ok (.if_icmp .gt 23, 3) := by decide +kernel
theorem dX1_howManyAheadOf_25 : decode cX1_howManyAheadOf 25 = .ok (.aload_n 0, 1) := by decide +kernel
theorem dX1_howManyAheadOf_26 : decode cX1_howManyAheadOf 26 = .ok (.getfield 18, 3) := by decide +kernel
theorem dX1_howManyAheadOf_29 : decode cX1_howManyAheadOf 29 = .ok (.iload_n 3, 1) := by decide +kernel
theorem dX1_howManyAheadOf_30 : decode cX1_howManyAheadOf 30 = .ok (.iaload, 1) := by decide +kernel
theorem dX1_howManyAheadOf_31 : decode cX1_howManyAheadOf 31 = .ok (.aload_n 0, 1) := by decide +kernel
theorem dX1_howManyAheadOf_32 : decode cX1_howManyAheadOf 32 = .ok (.getfield 18, 3) := by decide +kernel
theorem dX1_howManyAheadOf_35 : decode cX1_howManyAheadOf 35 = .ok (.iload_n 1, 1) := by decide +kernel
theorem dX1_howManyAheadOf_36 : decode cX1_howManyAheadOf 36 = .ok (.iaload, 1) := by decide +kernel
theorem dX1_howManyAheadOf_37 : decode cX1_howManyAheadOf 37 = .ok (.if_icmp .ne 12, 3) := by decide +kernel
theorem dX1_howManyAheadOf_40 : decode cX1_howManyAheadOf 40 = .ok (.iload_n 3, 1) := by decide +kernel
theorem dX1_howManyAheadOf_41 : decode cX1_howManyAheadOf 41 = .ok (.iload_n 1, 1) := by decide +kernel
theorem dX1_howManyAheadOf_42 : decode cX1_howManyAheadOf 42 = .ok (.if_icmp .ge 7, 3) := by decide +kernel
theorem dX1_howManyAheadOf_45 : decode cX1_howManyAheadOf 45 = .ok (.iconst 1, 1) := by decide +kernel
theorem dX1_howManyAheadOf_46 : decode cX1_howManyAheadOf 46 = .ok (.goto 4, 3) := by decide +kernel
theorem dX1_howManyAheadOf_49 : decode cX1_howManyAheadOf 49 = .ok (.iconst 0, 1) := by decide +kernel
theorem dX1_howManyAheadOf_50 : decode cX1_howManyAheadOf 50 = .ok (.istore 4, 2) := by decide +kernel
theorem dX1_howManyAheadOf_52 : decode cX1_howManyAheadOf 52 = .ok (.aload_n 0, 1) := by decide +kernel
theorem dX1_howManyAheadOf_53 : decode cX1_howManyAheadOf 53 = .ok (.getfield 28, 3) := by decide +kernel
theorem dX1_howManyAheadOf_56 : decode cX1_howManyAheadOf 56 = .ok (.iload_n 3, 1) := by decide +kernel
theorem dX1_howManyAheadOf_57 : decode cX1_howManyAheadOf 57 = .ok (.invokestatic 47, 3) := by decide +kernel
theorem dX1_howManyAheadOf_60 : decode cX1_howManyAheadOf 60 = .ok (.ifCond .eq 11, 3) := by decide +kernel
theorem dX1_howManyAheadOf_63 : decode cX1_howManyAheadOf 63 = .ok (.iload 4, 2) := by decide +kernel
theorem dX1_howManyAheadOf_65 : decode cX1_howManyAheadOf 65 = .ok (.ifCond .eq 6, 3) := by decide +kernel
theorem dX1_howManyAheadOf_68 : decode cX1_howManyAheadOf 68 = .ok (.iinc 2 1, 3) := by decide +kernel
theorem dX1_howManyAheadOf_71 : decode cX1_howManyAheadOf 71 = .ok (.iinc 3 1, 3) := by decide +kernel
theorem dX1_howManyAheadOf_74 : decode cX1_howManyAheadOf 74 = .ok (.goto (-70), 3) := by decide +kernel
theorem dX1_howManyAheadOf_77 : decode cX1_howManyAheadOf 77 = .ok (.iload_n 2, 1) := by decide +kernel
theorem dX1_howManyAheadOf_78 : decode cX1_howManyAheadOf 78 = .ok (.ireturn, 1) := by decide +kernel
theorem dX2_init_0 : decode cX2_init 0 = .ok (.aload_n 0, 1) := by decide +kernel
theorem dX2_init_1 : decode cX2_init 1 = .ok (.invokespecial 3, 3) := by decide +kernel
theorem dX2_init_4 : decode cX2_init 4 = .ok (.aload_n 0, 1) := by decide +kernel
theorem dX2_init_5 : decode cX2_init 5 = .ok (.bipush 10, 2) := by decide +kernel
theorem dX2_init_7 : decode cX2_init 7 = .ok (.anewarray 9, 3) := by decide +kernel
theorem dX2_init_10 : decode cX2_init 10 = .ok (.putfield 11, 3) := by decide +kernel
theorem dX2_init_13 : decode cX2_init 13 = .ok (.aload_n 0, 1) := by decide +kernel
theorem dX2_init_14 : decode cX2_init 14 = .ok (.iconst 0, 1) := by decide +kernel
theorem dX2_init_15 : decode cX2_init 15 = .ok (.putfield 17, 3) := by decide +kernel
theorem dX2_init_18 : decode cX2_init 18 = .ok (.aload_n 0, 1) := by decide +kernel
theorem dX2_init_19 : decode cX2_init 19 = .ok (.iconst 0, 1) := by decide +kernel
theorem dX2_init_20 : decode cX2_init 20 = .ok (.putfield 21, 3) := by decide +kernel
theorem dX2_init_23 : decode cX2_init 23 = .ok (.iconst 0, 1) := by decide +kernel
theorem dX2_init_24 : decode cX2_init 24 = .ok (.istore_n 1, 1) := by decide +kernel
theorem dX2_init_25 : decode cX2_init 25 = .ok (.iload_n 1, 1) := by decide +kernel
theorem dX2_init_26 : decode cX2_init 26 = .ok (.bipush 10, 2) := by decide +kernel
theorem dX2_init_28 : decode cX2_init 28 = .ok (.if_icmp .ge 22, 3) := by decide +kernel
theorem dX2_init_31 : decode cX2_init 31 = .ok (.aload_n 0, 1) := by decide +kernel
theorem dX2_init_32 : decode cX2_init 32 = .ok (.getfield 11, 3) := by decide +kernel
theorem dX2_init_35 : decode cX2_init 35 = .ok (.iload_n 1, 1) := by decide +kernel
theorem dX2_init_36 : decode cX2_init 36 = .ok (.new 9, 3) := by decide +kernel
theorem dX2_init_39 : decode cX2_init 39 = .ok (.dup, 1) := by decide +kernel
theorem dX2_init_40 : decode cX2_init 40 = .ok (.invokespecial 24, 3) := by decide +kernel
theorem dX2_init_43 : decode cX2_init 43 = .ok (.aastore, 1) := by decide +kernel
theorem dX2_init_44 : decode cX2_init 44 = .ok (.iinc 1 1, 3) := by decide +kernel
theorem dX2_init_47 : decode cX2_init 47 = .ok (.goto (-22), 3) := by decide +kernel
theorem dX2_init_50 : decode cX2_init 50 = .ok (.return_, 1) := by decide +kernel
theorem dX2_remember_0 : decode cX2_remember 0 = .ok (.aload_n 0, 1) := by decide +kernel
theorem dX2_remember_1 : decode cX2_remember 1 = .ok (.getfield 11, 3) := by decide +kernel
theorem dX2_remember_4 : decode cX2_remember 4 = .ok (.aload_n 0, 1) := by decide +kernel
theorem dX2_remember_5 : decode cX2_remember 5 = .ok (.getfield 17, 3) := by decide +kernel
theorem dX2_remember_8 : decode cX2_remember 8 = .ok (.aaload, 1) := by decide +kernel
theorem dX2_remember_9 : decode cX2_remember 9 = .ok (.aload_n 1, 1) := by decide +kernel
theorem dX2_remember_10 : decode cX2_remember 10 = .ok (.invokevirtual 25, 3) := by decide +kernel
theorem dX2_remember_13 : decode cX2_remember 13 = .ok (.aload_n 0, 1) := by decide +kernel
theorem dX2_remember_14 : decode cX2_remember 14 = .ok (.aload_n 0, 1) := by decide +kernel
theorem dX2_remember_15 : decode cX2_remember 15 = .ok (.getfield 17, 3) := by decide +kernel
theorem dX2_remember_18 : decode cX2_remember 18 = .ok (.iconst 1, 1) := by decide +kernel
theorem dX2_remember_19 : decode cX2_remember 19 = .ok (.iadd, 1) := by decide +kernel
theorem dX2_remember_20 : decode cX2_remember 20 = .ok (.bipush 10, 2) := by decide +kernel
theorem dX2_remember_22 : decode cX2_remember 22 = .ok (.irem, 1) := by decide +kernel
theorem dX2_remember_23 : decode cX2_remember 23 = .ok (.putfield 17, 3) := by decide +kernel
theorem dX2_remember_26 : decode cX2_remember 26 = .ok (.aload_n 0, 1) := by decide +kernel
theorem dX2_remember_27 : decode cX2_remember 27 = .ok (.aload_n 0, 1) := by decide +kernel
theorem dX2_remember_28 : decode cX2_remember 28 = .ok (.getfield 21, 3) := by decide +kernel
theorem dX2_remember_31 : decode cX2_remember 31 = .ok (.iconst 1, 1) := by decide +kernel
theorem dX2_remember_32 : decode cX2_remember 32 = .ok (.iadd, 1) := by decide +kernel
theorem dX2_remember_33 : decode cX2_remember 33 = .ok (.bipush 10, 2) := by decide +kernel
theorem dX2_remember_35 : decode cX2_remember 35 = .ok (.invokestatic 29, 3) := by decide +kernel
theorem dX2_remember_38 : decode cX2_remember 38 = .ok (.putfield 21, 3) := by decide +kernel
theorem dX2_remember_41 : decode cX2_remember 41 = .ok (.return_, 1) := by decide +kernel
theorem dX2_restore_0 : decode cX2_restore 0 = .ok (.aload_n 0, 1) := by decide +kernel
theorem dX2_restore_1 : decode cX2_restore 1 = .ok (.aload_n 0, 1) := by decide +kernel
theorem dX2_restore_2 : decode cX2_restore 2 = .ok (.getfield 17, 3) := by decide +kernel
theorem dX2_restore_5 : decode cX2_restore 5 = .ok (.bipush 10, 2) := by decide +kernel
theorem dX2_restore_7 : decode cX2_restore 7 = .ok (.iadd, 1) := by decide +kernel
theorem dX2_restore_8 : decode cX2_restore 8 = .ok (.iconst 1, 1) := by decide +kernel
theorem dX2_restore_9 : decode cX2_restore 9 = .ok (.isub, 1) := by decide +kernel
theorem dX2_restore_10 : decode cX2_restore 10 = .ok (.bipush 10, 2) := by decide +kernel
theorem dX2_restore_12 : decode cX2_restore 12 = .ok (.irem, 1) := by decide +kernel
theorem dX2_restore_13 : decode cX2_restore 13 = .ok (.putfield 17, 3) := by decide +kernel
theorem dX2_restore_16 : decode cX2_restore 16 = .ok (.aload_n 0, 1) := by decide +kernel
theorem dX2_restore_17 : decode cX2_restore 17 = .ok (.dup, 1) := by decide +kernel
theorem dX2_restore_18 : decode cX2_restore 18 = .ok (.getfield 21, 3) := by decide +kernel
theorem dX2_restore_21 : decode cX2_restore 21 = .ok (.iconst 1, 1) := by decide +kernel
theorem dX2_restore_22 : decode cX2_restore 22 = .ok (.isub, 1) := by decide +kernel
theorem dX2_restore_23 : decode cX2_restore 23 = .ok (.putfield 21, 3) := by decide +kernel
theorem dX2_restore_26 : decode cX2_restore 26 = .ok (.aload_n 1, 1) := by decide +kernel
theorem dX2_restore_27 : decode cX2_restore 27 = .ok (.aload_n 0, 1) := by decide +kernel
theorem dX2_restore_28 : decode cX2_restore 28 = .ok (.getfield 11, 3) := by decide +kernel
theorem dX2_restore_31 : decode cX2_restore 31 = .ok (.aload_n 0, 1) := by decide +kernel
theorem dX2_restore_32 : decode cX2_restore 32 = .ok (.getfield 17, 3) := by decide +kernel
theorem dX2_restore_35 : decode cX2_restore 35 = .ok (.aaload, 1) := by decide +kernel
theorem dX2_restore_36 : decode cX2_restore 36 = .ok (.invokevirtual 25, 3) := by decide +kernel
theorem dX2_restore_39 : decode cX2_restore 39 = .ok (.return_, 1) := by decide +kernel
theorem dX3_init_0 : decode cX3_init 0 = .ok (.aload_n 0, 1) := by decide +kernel
theorem dX3_init_1 : decode cX3_init 1 = .ok (.invokespecial 3, 3) := by decide +kernel
theorem dX3_init_4 : decode cX3_init 4 = .ok (.aload_n 0, 1) := by decide +kernel
theorem dX3_init_5 : decode cX3_init 5 = .ok (.bipush 6, 2) := by decide +kernel
theorem dX3_init_7 : decode cX3_init 7 = .ok (.newarray .int, 2) := by decide +kernel
theorem dX3_init_9 : decode cX3_init 9 = .ok (.putfield 9, 3) := by decide +kernel
theorem dX3_init_12 : decode cX3_init 12 = .ok (.aload_n 0, 1) := by decide +kernel
theorem dX3_init_13 : decode cX3_init 13 = .ok (.bipush 6, 2) := by decide +kernel
theorem dX3_init_15 : decode cX3_init 15 = .ok (.newarray .boolean, 2) := by decide +kernel
theorem dX3_init_17 : decode cX3_init 17 = .ok (.putfield 15, 3) := by decide +kernel
theorem dX3_init_20 : decode cX3_init 20 = .ok (.aload_n 0, 1) := by decide +kernel
theorem dX3_init_21 : decode cX3_init 21 = .ok (.iconst 0, 1) := by decide +kernel
theorem dX3_init_22 : decode cX3_init 22 = .ok (.putfield 19, 3) := by decide +kernel
theorem dX3_init_25 : decode cX3_init 25 = .ok (.return_, 1) := by decide +kernel
theorem dX3_add_0 : decode cX3_add 0 = .ok (.aload_n 0, 1) := by decide +kernel
theorem dX3_add_1 : decode cX3_add 1 = .ok (.getfield 9, 3) := by decide +kernel
theorem dX3_add_4 : decode cX3_add 4 = .ok (.aload_n 0, 1) := by decide +kernel
theorem dX3_add_5 : decode cX3_add 5 = .ok (.getfield 19, 3) := by decide +kernel
theorem dX3_add_8 : decode cX3_add 8 = .ok (.iload_n 1, 1) := by decide +kernel
theorem dX3_add_9 : decode cX3_add 9 = .ok (.iastore, 1) := by decide +kernel
theorem dX3_add_10 : decode cX3_add 10 = .ok (.aload_n 0, 1) := by decide +kernel
theorem dX3_add_11 : decode cX3_add 11 = .ok (.getfield 15, 3) := by decide +kernel
theorem dX3_add_14 : decode cX3_add 14 = .ok (.aload_n 0, 1) := by decide +kernel
theorem dX3_add_15 : decode cX3_add 15 = .ok (.getfield 19, 3) := by decide +kernel
theorem dX3_add_18 : decode cX3_add 18 = .ok (.iload_n 2, 1) := by decide +kernel
theorem dX3_add_19 : decode cX3_add 19 = .ok (.bastore, 1) := by decide +kernel
theorem dX3_add_20 : decode cX3_add 20 = .ok (.aload_n 0, 1) := by decide +kernel
theorem dX3_add_21 : decode cX3_add 21 = .ok (.dup, 1) := by decide +kernel
theorem dX3_add_22 : decode cX3_add 22 = .ok (.getfield 19, 3) := by decide +kernel
theorem dX3_add_25 : decode cX3_add 25 = .ok (.iconst 1, 1) := by decide +kernel
theorem dX3_add_26 : decode cX3_add 26 = .ok (.iadd, 1) := by decide +kernel
theorem dX3_add_27 : decode cX3_add 27 = .ok (.putfield 19, 3) := by decide +kernel
theorem dX3_add_30 : decode cX3_add 30 = .ok (.return_, 1) := by decide +kernel
theorem dX3_allows_0 : decode cX3_allows 0 = .ok (.iconst 0, 1) := by decide +kernel
theorem dX3_allows_1 : decode cX3_allows 1 = .ok (.istore_n 3, 1) := by decide +kernel
theorem dX3_allows_2 : decode cX3_allows 2 = .ok (.iload_n 3, 1) := by decide +kernel
theorem dX3_allows_3 : decode cX3_allows 3 = .ok (.aload_n 0, 1) := by decide +kernel
theorem dX3_allows_4 : decode cX3_allows 4 = .ok (.getfield 19, 3) := by decide +kernel
theorem dX3_allows_7 : decode cX3_allows 7 = .ok (.if_icmp .ge 31, 3) := by decide +kernel
theorem dX3_allows_10 : decode cX3_allows 10 = .ok (.aload_n 1, 1) := by decide +kernel
theorem dX3_allows_11 : decode cX3_allows 11 = .ok (.aload_n 0, 1) := by decide +kernel
theorem dX3_allows_12 : decode cX3_allows 12 = .ok (.getfield 9, 3) := by decide +kernel
theorem dX3_allows_15 : decode cX3_allows 15 = .ok (.iload_n 3, 1) := by decide +kernel
theorem dX3_allows_16 : decode cX3_allows 16 = .ok (.iaload, 1) := by decide +kernel
theorem dX3_allows_17 : decode cX3_allows 17 = .ok (.iload_n 2, 1) := by decide +kernel
theorem dX3_allows_18 : decode cX3_allows 18 = .ok (.invokevirtual 23, 3) := by decide +kernel
theorem dX3_allows_21 : decode cX3_allows 21 = .ok (.aload_n 0, 1) := by decide +kernel
theorem dX3_allows_22 : decode cX3_allows 22 = .ok (.getfield 15, 3) := by decide +kernel
theorem dX3_allows_25 : decode cX3_allows 25 = .ok (.iload_n 3, 1) := by decide +kernel
theorem dX3_allows_26 : decode cX3_allows 26 = .ok (.baload, 1) := by decide +kernel
theorem dX3_allows_27 : decode cX3_allows 27 = .ok (.if_icmp .eq 5, 3) := by decide +kernel
theorem dX3_allows_30 : decode cX3_allows 30 = .ok (.iconst 0, 1) := by decide +kernel
theorem dX3_allows_31 : decode cX3_allows 31 = .ok (.ireturn, 1) := by decide +kernel
theorem dX3_allows_32 : decode cX3_allows 32 = .ok (.iinc 3 1, 3) := by decide +kernel
theorem dX3_allows_35 : decode cX3_allows 35 = .ok (.goto (-33), 3) := by decide +kernel
theorem dX3_allows_38 : decode cX3_allows 38 = .ok (.iconst 1, 1) := by decide +kernel
theorem dX3_allows_39 : decode cX3_allows 39 = .ok (.ireturn, 1) := by decide +kernel
theorem dX4_init_0 : decode cX4_init 0 = .ok (.aload_n 0, 1) := by decide +kernel
theorem dX4_init_1 : decode cX4_init 1 = .ok (.invokespecial 3, 3) := by decide +kernel
theorem dX4_init_4 : decode cX4_init 4 = .ok (.aload_n 0, 1) := by decide +kernel
theorem dX4_init_5 : decode cX4_init 5 = .ok (.bipush 120, 2) := by decide +kernel
theorem dX4_init_7 : decode cX4_init 7 = .ok (.newarray .int, 2) := by decide +kernel
theorem dX4_init_9 : decode cX4_init 9 = .ok (.putfield 9, 3) := by decide +kernel
theorem dX4_init_12 : decode cX4_init 12 = .ok (.aload_n 0, 1) := by decide +kernel
theorem dX4_init_13 : decode cX4_init 13 = .ok (.iconst 0, 1) := by decide +kernel
theorem dX4_init_14 : decode cX4_init 14 = .ok (.putfield 15, 3) := by decide +kernel
theorem dX4_init_17 : decode cX4_init 17 = .ok (.return_, 1) := by decide +kernel
theorem dX4_add_0 : decode cX4_add 0 = .ok (.aload_n 0, 1) := by decide +kernel
theorem dX4_add_1 : decode cX4_add 1 = .ok (.getfield 9, 3) := by decide +kernel
theorem dX4_add_4 : decode cX4_add 4 = .ok (.aload_n 0, 1) := by decide +kernel
theorem dX4_add_5 : decode cX4_add 5 = .ok (.getfield 15, 3) := by decide +kernel
theorem dX4_add_8 : decode cX4_add 8 = .ok (.iload_n 1, 1) := by decide +kernel
theorem dX4_add_9 : decode cX4_add 9 = .ok (.iastore, 1) := by decide +kernel
theorem dX4_add_10 : decode cX4_add 10 = .ok (.aload_n 0, 1) := by decide +kernel
theorem dX4_add_11 : decode cX4_add 11 = .ok (.dup, 1) := by decide +kernel
theorem dX4_add_12 : decode cX4_add 12 = .ok (.getfield 15, 3) := by decide +kernel
theorem dX4_add_15 : decode cX4_add 15 = .ok (.iconst 1, 1) := by decide +kernel
theorem dX4_add_16 : decode cX4_add 16 = .ok (.iadd, 1) := by decide +kernel
theorem dX4_add_17 : decode cX4_add 17 = .ok (.putfield 15, 3) := by decide +kernel
theorem dX4_add_20 : decode cX4_add 20 = .ok (.return_, 1) := by decide +kernel
theorem dX4_reads_0 : decode cX4_reads 0 = .ok (.aload_n 0, 1) := by decide +kernel
theorem dX4_reads_1 : decode cX4_reads 1 = .ok (.iconst 0, 1) := by decide +kernel
theorem dX4_reads_2 : decode cX4_reads 2 = .ok (.putfield 19, 3) := by decide +kernel
theorem dX4_reads_5 : decode cX4_reads 5 = .ok (.aload_n 0, 1) := by decide +kernel
theorem dX4_reads_6 : decode cX4_reads 6 = .ok (.iconst 0, 1) := by decide +kernel
theorem dX4_reads_7 : decode cX4_reads 7 = .ok (.putfield 22, 3) := by decide +kernel
theorem dX4_reads_10 : decode cX4_reads 10 = .ok (.aload_n 0, 1) := by decide +kernel
theorem dX4_reads_11 : decode cX4_reads 11 = .ok (.iconst 0, 1) := by decide +kernel
theorem dX4_reads_12 : decode cX4_reads 12 = .ok (.putfield 26, 3) := by decide +kernel
theorem dX4_reads_15 : decode cX4_reads 15 = .ok (.aload_n 1, 1) := by decide +kernel
theorem dX4_reads_16 : decode cX4_reads 16 = .ok (.invokevirtual 29, 3) := by decide +kernel
theorem dX4_reads_19 : decode cX4_reads 19 = .ok (.iconst 0, 1) := by decide +kernel
theorem dX4_reads_20 : decode cX4_reads 20 = .ok (.istore_n 2, 1) := by decide +kernel
theorem dX4_reads_21 : decode cX4_reads 21 = .ok (.iload_n 2, 1) := by decide +kernel
theorem dX4_reads_22 : decode cX4_reads 22 = .ok (.aload_n 0, 1) := by decide +kernel
theorem dX4_reads_23 : decode cX4_reads 23 = .ok (.getfield 15, 3) := by decide +kernel
theorem dX4_reads_26 : decode cX4_reads 26 = .ok (.if_icmp .gt 50, 3) := by decide +kernel
theorem dX4_reads_29 : decode cX4_reads 29 = .ok (.aload_n 0, 1) := by decide +kernel
theorem dX4_reads_30 : decode cX4_reads 30 = .ok (.invokevirtual 34, 3) := by decide +kernel
theorem dX4_reads_33 : decode cX4_reads 33 = .ok (.aload_n 0, 1) := by decide +kernel
theorem dX4_reads_34 : decode cX4_reads 34 = .ok (.getfield 37, 3) := by decide +kernel
theorem dX4_reads_37 : decode cX4_reads 37 = .ok (.iconst (-1), 1) := by decide +kernel
theorem dX4_reads_38 : decode cX4_reads 38 = .ok (.if_icmp .ne 5, 3) := by decide +kernel
theorem dX4_reads_41 : decode cX4_reads 41 = .ok (.iconst 1, 1) := by decide +kernel
theorem dX4_reads_42 : decode cX4_reads 42 = .ok (.ireturn, 1) := by decide +kernel
theorem dX4_reads_43 : decode cX4_reads 43 = .ok (.aload_n 0, 1) := by decide +kernel
theorem dX4_reads_44 : decode cX4_reads 44 = .ok (.aload_n 1, 1) := by decide +kernel
theorem dX4_reads_45 : decode cX4_reads 45 = .ok (.invokevirtual 40, 3) := by decide +kernel
theorem dX4_reads_48 : decode cX4_reads 48 = .ok (.ifCond .eq 10, 3) := by decide +kernel
theorem dX4_reads_51 : decode cX4_reads 51 = .ok (.aload_n 0, 1) := by decide +kernel
theorem dX4_reads_52 : decode cX4_reads 52 = .ok (.invokevirtual 44, 3) := by decide +kernel
theorem dX4_reads_55 : decode cX4_reads 55 = .ok (.ifCond .ne 5, 3) := by decide +kernel
theorem dX4_reads_58 : decode cX4_reads 58 = .ok (.iconst 0, 1) := by decide +kernel
theorem dX4_reads_59 : decode cX4_reads 59 = .ok (.ireturn, 1) := by decide +kernel
theorem dX4_reads_60 : decode cX4_reads 60 = .ok (.aload_n 1, 1) := by decide +kernel
theorem dX4_reads_61 : decode cX4_reads 61 = .ok (.dup, 1) := by decide +kernel
theorem dX4_reads_62 : decode cX4_reads 62 = .ok (.getfield 48, 3) := by decide +kernel
theorem dX4_reads_65 : decode cX4_reads 65 = .ok (.iconst 1, 1) := by decide +kernel
theorem dX4_reads_66 : decode cX4_reads 66 = .ok (.iadd, 1) := by decide +kernel
theorem dX4_reads_67 : decode cX4_reads 67 = .ok (.putfield 48, 3) := by decide +kernel
theorem dX4_reads_70 : decode cX4_reads 70 = .ok (.iinc 2 1, 3) := by decide +kernel
theorem dX4_reads_73 : decode cX4_reads 73 = .ok (.goto (-52), 3) := by decide +kernel
theorem dX4_reads_76 : decode cX4_reads 76 = .ok (.iconst 0, 1) := by decide +kernel
theorem dX4_reads_77 : decode cX4_reads 77 = .ok (.ireturn, 1) := by decide +kernel
theorem dX4_readsItem_0 : decode cX4_readsItem 0 = .ok (.aload_n 0, 1) := by decide +kernel
theorem dX4_readsItem_1 : decode cX4_readsItem 1 = .ok (.getfield 37, 3) := by decide +kernel
theorem dX4_readsItem_4 : decode cX4_readsItem 4 = .ok (.lookupswitch 68 #[(97, 44), (108, 62), (109, 56), (119, 50)], 44) := by decide +kernel
theorem dX4_readsItem_48 : decode cX4_readsItem 48 = .ok (.aload_n 0, 1) := by decide +kernel
theorem dX4_readsItem_49 : decode cX4_readsItem 49 = .ok (.aload_n 1, 1) := by decide +kernel
theorem dX4_readsItem_50 : decode cX4_readsItem 50 = .ok (.invokevirtual 51, 3) := by decide +kernel
theorem dX4_readsItem_53 : decode cX4_readsItem 53 = .ok (.ireturn, 1) := by decide +kernel
theorem dX4_readsItem_54 : decode cX4_readsItem 54 = .ok (.aload_n 0, 1) := by decide +kernel
theorem dX4_readsItem_55 : decode cX4_readsItem 55 = .ok (.aload_n 1, 1) := by decide +kernel
theorem dX4_readsItem_56 : decode cX4_readsItem 56 = .ok (.invokevirtual 54, 3) := by decide +kernel
theorem dX4_readsItem_59 : decode cX4_readsItem 59 = .ok (.ireturn, 1) := by decide +kernel
theorem dX4_readsItem_60 : decode cX4_readsItem 60 = .ok (.aload_n 0, 1) := by decide +kernel
theorem dX4_readsItem_61 : decode cX4_readsItem 61 = .ok (.aload_n 1, 1) := by decide +kernel
theorem dX4_readsItem_62 : decode cX4_readsItem 62 = .ok (.invokevirtual 57, 3) := by decide +kernel
theorem dX4_readsItem_65 : decode cX4_readsItem 65 = .ok (.ireturn, 1) := by decide +kernel
theorem dX4_readsItem_66 : decode cX4_readsItem 66 = .ok (.aload_n 0, 1) := by decide +kernel
theorem dX4_readsItem_67 : decode cX4_readsItem 67 = .ok (.aload_n 1, 1) := by decide +kernel
theorem dX4_readsItem_68 : decode cX4_readsItem 68 = .ok (.invokevirtual 60, 3) := by decide +kernel
theorem dX4_readsItem_71 : decode cX4_readsItem 71 = .ok (.ireturn, 1) := by decide +kernel
theorem dX4_readsItem_72 : decode cX4_readsItem 72 = .ok (.iconst 0, 1) := by decide +kernel
theorem dX4_readsItem_73 : decode cX4_readsItem 73 = .ok (.ireturn, 1) := by decide +kernel
theorem dX4_readsRoom_0 : decode cX4_readsRoom 0 = .ok (.aload_n 1, 1) := by decide +kernel
theorem dX4_readsRoom_1 : decode cX4_readsRoom 1 = .ok (.getfield 63, 3) := by decide +kernel
theorem dX4_readsRoom_4 : decode cX4_readsRoom 4 = .ok (.bipush 6, 2) := by decide +kernel
theorem dX4_readsRoom_6 : decode cX4_readsRoom 6 = .ok (.if_icmp .ge 13, 3) := by decide +kernel
theorem dX4_readsRoom_9 : decode cX4_readsRoom 9 = .ok (.aload_n 0, 1) := by decide +kernel
theorem dX4_readsRoom_10 : decode cX4_readsRoom 10 = .ok (.iconst 0, 1) := by decide +kernel
theorem dX4_readsRoom_11 : decode cX4_readsRoom 11 = .ok (.bipush 99, 2) := by decide +kernel
theorem dX4_readsRoom_13 : decode cX4_readsRoom 13 = .ok (.invokevirtual 66, 3) := by decide +kernel
theorem dX4_readsRoom_16 : decode cX4_readsRoom 16 = .ok (.ifCond .ne 5, 3) := by decide +kernel
theorem dX4_readsRoom_19 : decode cX4_readsRoom 19 = .ok (.iconst 0, 1) := by decide +kernel
theorem dX4_readsRoom_20 : decode cX4_readsRoom 20 = .ok (.ireturn, 1) := by decide +kernel
theorem dX4_readsRoom_21 : decode cX4_readsRoom 21 = .ok (.aload_n 1, 1) := by decide +kernel
theorem dX4_readsRoom_22 : decode cX4_readsRoom 22 = .ok (.getfield 70, 3) := by decide +kernel
theorem dX4_readsRoom_25 : decode cX4_readsRoom 25 = .ok (.aload_n 1, 1) := by decide +kernel
theorem dX4_readsRoom_26 : decode cX4_readsRoom 26 = .ok (.getfield 63, 3) := by decide +kernel
theorem dX4_readsRoom_29 : decode cX4_readsRoom 29 = .ok (.aload_n 0, 1) := by decide +kernel
theorem dX4_readsRoom_30 : decode cX4_readsRoom 30 = .ok (.getfield 73, 3) := by decide +kernel
theorem dX4_readsRoom_33 : decode cX4_readsRoom 33 = .ok (.iastore, 1) := by decide +kernel
theorem dX4_readsRoom_34 : decode cX4_readsRoom 34 = .ok (.aload_n 1, 1) := by decide +kernel
theorem dX4_readsRoom_35 : decode cX4_readsRoom 35 = .ok (.dup, 1) := by decide +kernel
theorem dX4_readsRoom_36 : decode cX4_readsRoom 36 = .ok (.getfield 63, 3) := by decide +kernel
theorem dX4_readsRoom_39 : decode cX4_readsRoom 39 = .ok (.iconst 1, 1) := by decide +kernel
theorem dX4_readsRoom_40 : decode cX4_readsRoom 40 = .ok (.iadd, 1) := by decide +kernel
theorem dX4_readsRoom_41 : decode cX4_readsRoom 41 = .ok (.putfield 63, 3) := by decide +kernel
theorem dX4_readsRoom_44 : decode cX4_readsRoom 44 = .ok (.iconst 1, 1) := by decide +kernel
theorem dX4_readsRoom_45 : decode cX4_readsRoom 45 = .ok (.ireturn, 1) := by decide +kernel
theorem dX4_readsWork_0 : decode cX4_readsWork 0 = .ok (.aload_n 1, 1) := by decide +kernel
theorem dX4_readsWork_1 : decode cX4_readsWork 1 = .ok (.getfield 76, 3) := by decide +kernel
theorem dX4_readsWork_4 : decode cX4_readsWork 4 = .ok (.iconst 5, 1) := by decide +kernel
theorem dX4_readsWork_5 : decode cX4_readsWork 5 = .ok (.if_icmp .ge 13, 3) := by decide +kernel
theorem dX4_readsWork_8 : decode cX4_readsWork 8 = .ok (.aload_n 0, 1) := by decide +kernel
theorem dX4_readsWork_9 : decode cX4_readsWork 9 = .ok (.iconst 0, 1) := by decide +kernel
theorem dX4_readsWork_10 : decode cX4_readsWork 10 = .ok (.bipush 99, 2) := by decide +kernel
theorem dX4_readsWork_12 : decode cX4_readsWork 12 = .ok (.invokevirtual 66, 3) := by decide +kernel
theorem dX4_readsWork_15 : decode cX4_readsWork 15 = .ok (.ifCond .ne 5, 3) := by decide +kernel
theorem dX4_readsWork_18 : decode cX4_readsWork 18 = .ok (.iconst 0, 1) := by decide +kernel
theorem dX4_readsWork_19 : decode cX4_readsWork 19 = .ok (.ireturn, 1) := by decide +kernel
theorem dX4_readsWork_20 : decode cX4_readsWork 20 = .ok (.aload_n 0, 1) := by decide +kernel
theorem dX4_readsWork_21 : decode cX4_readsWork 21 = .ok (.getfield 73, 3) := by decide +kernel
theorem dX4_readsWork_24 : decode cX4_readsWork 24 = .ok (.istore_n 2, 1) := by decide +kernel
theorem dX4_readsWork_25 : decode cX4_readsWork 25 = .ok (.aload_n 0, 1) := by decide +kernel
theorem dX4_readsWork_26 : decode cX4_readsWork 26 = .ok (.iload_n 2, 1) := by decide +kernel
theorem dX4_readsWork_27 : decode cX4_readsWork 27 = .ok (.bipush 99, 2) := by decide +kernel
theorem dX4_readsWork_29 : decode cX4_readsWork 29 = .ok (.invokevirtual 66, 3) := by decide +kernel
theorem dX4_readsWork_32 : decode cX4_readsWork 32 = .ok (.ifCond .ne 5, 3) := by decide +kernel
theorem dX4_readsWork_35 : decode cX4_readsWork 35 = .ok (.iconst 0, 1) := by decide +kernel
theorem dX4_readsWork_36 : decode cX4_readsWork 36 = .ok (.ireturn, 1) := by decide +kernel
theorem dX4_readsWork_37 : decode cX4_readsWork 37 = .ok (.aload_n 1, 1) := by decide +kernel
theorem dX4_readsWork_38 : decode cX4_readsWork 38 = .ok (.getfield 79, 3) := by decide +kernel
theorem dX4_readsWork_41 : decode cX4_readsWork 41 = .ok (.aload_n 1, 1) := by decide +kernel
theorem dX4_readsWork_42 : decode cX4_readsWork 42 = .ok (.getfield 76, 3) := by decide +kernel
theorem dX4_readsWork_45 : decode cX4_readsWork 45 = .ok (.iload_n 2, 1) := by decide +kernel
theorem dX4_readsWork_46 : decode cX4_readsWork 46 = .ok (.iastore, 1) := by decide +kernel
theorem dX4_readsWork_47 : decode cX4_readsWork 47 = .ok (.aload_n 1, 1) := by decide +kernel
theorem dX4_readsWork_48 : decode cX4_readsWork 48 = .ok (.getfield 82, 3) := by decide +kernel
theorem dX4_readsWork_51 : decode cX4_readsWork 51 = .ok (.aload_n 1, 1) := by decide +kernel
theorem dX4_readsWork_52 : decode cX4_readsWork 52 = .ok (.getfield 76, 3) := by decide +kernel
theorem dX4_readsWork_55 : decode cX4_readsWork 55 = .ok (.aload_n 0, 1) := by decide +kernel
theorem dX4_readsWork_56 : decode cX4_readsWork 56 = .ok (.getfield 73, 3) := by decide +kernel
theorem dX4_readsWork_59 : decode cX4_readsWork 59 = .ok (.iastore, 1) := by decide +kernel
theorem dX4_readsWork_60 : decode cX4_readsWork 60 = .ok (.aload_n 1, 1) := by decide +kernel
theorem dX4_readsWork_61 : decode cX4_readsWork 61 = .ok (.dup, 1) := by decide +kernel
theorem dX4_readsWork_62 : decode cX4_readsWork 62 = .ok (.getfield 76, 3) := by decide +kernel
theorem dX4_readsWork_65 : decode cX4_readsWork 65 = .ok (.iconst 1, 1) := by decide +kernel
theorem dX4_readsWork_66 : decode cX4_readsWork 66 = .ok (.iadd, 1) := by decide +kernel
theorem dX4_readsWork_67 : decode cX4_readsWork 67 = .ok (.putfield 76, 3) := by decide +kernel
theorem dX4_readsWork_70 : decode cX4_readsWork 70 = .ok (.iconst 1, 1) := by decide +kernel
theorem dX4_readsWork_71 : decode cX4_readsWork 71 = .ok (.ireturn, 1) := by decide +kernel
theorem dX4_readsMothers_0 : decode cX4_readsMothers 0 = .ok (.aload_n 0, 1) := by decide +kernel
theorem dX4_readsMothers_1 : decode cX4_readsMothers 1 = .ok (.getfield 22, 3) := by decide +kernel
theorem dX4_readsMothers_4 : decode cX4_readsMothers 4 = .ok (.ifCond .ne 13, 3) := by decide +kernel
theorem dX4_readsMothers_7 : decode cX4_readsMothers 7 = .ok (.aload_n 0, 1) := by decide +kernel
theorem dX4_readsMothers_8 : decode cX4_readsMothers 8 = .ok (.iconst 1, 1) := by decide +kernel
theorem dX4_readsMothers_9 : decode cX4_readsMothers 9 = .ok (.bipush 6, 2) := by decide +kernel
theorem dX4_readsMothers_11 : decode cX4_readsMothers 11 = .ok (.invokevirtual 66, 3) := by decide +kernel
theorem dX4_readsMothers_14 : decode cX4_readsMothers 14 = .ok (.ifCond .ne 5, 3) := by decide +kernel
theorem dX4_readsMothers_17 : decode cX4_readsMothers 17 = .ok (.iconst 0, 1) := by decide +kernel
theorem dX4_readsMothers_18 : decode cX4_readsMothers 18 = .ok (.ireturn, 1) := by decide +kernel
theorem dX4_readsMothers_19 : decode cX4_readsMothers 19 = .ok (.aload_n 1, 1) := by decide +kernel
theorem dX4_readsMothers_20 : decode cX4_readsMothers 20 = .ok (.aload_n 0, 1) := by decide +kernel
theorem dX4_readsMothers_21 : decode cX4_readsMothers 21 = .ok (.getfield 73, 3) := by decide +kernel
theorem dX4_readsMothers_24 : decode cX4_readsMothers 24 = .ok (.putfield 85, 3) := by decide +kernel
theorem dX4_readsMothers_27 : decode cX4_readsMothers 27 = .ok (.aload_n 0, 1) := by decide +kernel
theorem dX4_readsMothers_28 : decode cX4_readsMothers 28 = .ok (.iconst 1, 1) := by decide +kernel
theorem dX4_readsMothers_29 : decode cX4_readsMothers 29 = .ok (.putfield 22, 3) := by decide +kernel
theorem dX4_readsMothers_32 : decode cX4_readsMothers 32 = .ok (.iconst 1, 1) := by decide +kernel
theorem dX4_readsMothers_33 : decode cX4_readsMothers 33 = .ok (.ireturn, 1) := by decide +kernel
theorem dX4_readsLife_0 : decode cX4_readsLife 0 = .ok (.aload_n 0, 1) := by decide +kernel
theorem dX4_readsLife_1 : decode cX4_readsLife 1 = .ok (.getfield 26, 3) := by decide +kernel
theorem dX4_readsLife_4 : decode cX4_readsLife 4 = .ok (.ifCond .ne 14, 3) := by decide +kernel
theorem dX4_readsLife_7 : decode cX4_readsLife 7 = .ok (.aload_n 0, 1) := by decide +kernel
theorem dX4_readsLife_8 : decode cX4_readsLife 8 = .ok (.bipush 10, 2) := by decide +kernel
theorem dX4_readsLife_10 : decode cX4_readsLife 10 = .ok (.bipush 99, 2) := by decide +kernel
theorem dX4_readsLife_12 : decode cX4_readsLife 12 = .ok (.invokevirtual 66, 3) := by decide +kernel
theorem dX4_readsLife_15 : decode cX4_readsLife 15 = .ok (.ifCond .ne 5, 3) := by decide +kernel
theorem dX4_readsLife_18 : decode cX4_readsLife 18 = .ok (.iconst 0, 1) := by decide +kernel
theorem dX4_readsLife_19 : decode cX4_readsLife 19 = .ok (.ireturn, 1) := by decide +kernel
theorem dX4_readsLife_20 : decode cX4_readsLife 20 = .ok (.aload_n 1, 1) := by decide +kernel
theorem dX4_readsLife_21 : decode cX4_readsLife 21 = .ok (.aload_n 0, 1) := by decide +kernel
theorem dX4_readsLife_22 : decode cX4_readsLife 22 = .ok (.getfield 73, 3) := by decide +kernel
theorem dX4_readsLife_25 : decode cX4_readsLife 25 = .ok (.putfield 88, 3) := by decide +kernel
theorem dX4_readsLife_28 : decode cX4_readsLife 28 = .ok (.aload_n 0, 1) := by decide +kernel
theorem dX4_readsLife_29 : decode cX4_readsLife 29 = .ok (.iconst 1, 1) := by decide +kernel
theorem dX4_readsLife_30 : decode cX4_readsLife 30 = .ok (.putfield 26, 3) := by decide +kernel
theorem dX4_readsLife_33 : decode cX4_readsLife 33 = .ok (.iconst 1, 1) := by decide +kernel
theorem dX4_readsLife_34 : decode cX4_readsLife 34 = .ok (.ireturn, 1) := by decide +kernel
theorem dX4_readsItemEnd_0 : decode cX4_readsItemEnd 0 = .ok (.aload_n 0, 1) := by decide +kernel
theorem dX4_readsItemEnd_1 : decode cX4_readsItemEnd 1 = .ok (.invokevirtual 34, 3) := by decide +kernel
theorem dX4_readsItemEnd_4 : decode cX4_readsItemEnd 4 = .ok (.aload_n 0, 1) := by decide +kernel
theorem dX4_readsItemEnd_5 : decode cX4_readsItemEnd 5 = .ok (.getfield 37, 3) := by decide +kernel
theorem dX4_readsItemEnd_8 : decode cX4_readsItemEnd 8 = .ok (.bipush 59, 2) := by decide +kernel
theorem dX4_readsItemEnd_10 : decode cX4_readsItemEnd 10 = .ok (.if_icmp .ne 7, 3) := by decide +kernel
theorem dX4_readsItemEnd_13 : decode cX4_readsItemEnd 13 = .ok (.iconst 1, 1) := by decide +kernel
theorem dX4_readsItemEnd_14 : decode cX4_readsItemEnd 14 = .ok (.goto 4, 3) := by decide +kernel
theorem dX4_readsItemEnd_17 : decode cX4_readsItemEnd 17 = .ok (.iconst 0, 1) := by decide +kernel
theorem dX4_readsItemEnd_18 : decode cX4_readsItemEnd 18 = .ok (.ireturn, 1) := by decide +kernel
theorem dX4_readsNumber_0 : decode cX4_readsNumber 0 = .ok (.aload_n 0, 1) := by decide +kernel
theorem dX4_readsNumber_1 : decode cX4_readsNumber 1 = .ok (.invokevirtual 34, 3) := by decide +kernel
theorem dX4_readsNumber_4 : decode cX4_readsNumber 4 = .ok (.aload_n 0, 1) := by decide +kernel
theorem dX4_readsNumber_5 : decode cX4_readsNumber 5 = .ok (.getfield 37, 3) := by decide +kernel
theorem dX4_readsNumber_8 : decode cX4_readsNumber 8 = .ok (.bipush (-2), 2) := by decide +kernel
theorem dX4_readsNumber_10 : decode cX4_readsNumber 10 = .ok (.if_icmp .ne 23, 3) := by decide +kernel
theorem dX4_readsNumber_13 : decode cX4_readsNumber 13 = .ok (.aload_n 0, 1) := by decide +kernel
theorem dX4_readsNumber_14 : decode cX4_readsNumber 14 = .ok (.getfield 73, 3) := by decide +kernel
theorem dX4_readsNumber_17 : decode cX4_readsNumber 17 = .ok (.iload_n 1, 1) := by decide +kernel
theorem dX4_readsNumber_18 : decode cX4_readsNumber 18 = .ok (.if_icmp .lt 15, 3) := by decide +kernel
theorem dX4_readsNumber_21 : decode cX4_readsNumber 21 = .ok (.aload_n 0, 1) := by decide +kernel
theorem dX4_readsNumber_22 : decode cX4_readsNumber 22 = .ok (.getfield 73, 3) := by decide +kernel
theorem dX4_readsNumber_25 : decode cX4_readsNumber 25 = .ok (.iload_n 2, 1) := by decide +kernel
theorem dX4_readsNumber_26 : decode cX4_readsNumber 26 = .ok (.if_icmp .gt 7, 3) := by decide +kernel
theorem dX4_readsNumber_29 : decode cX4_readsNumber 29 = .ok (.iconst 1, 1) := by decide +kernel
theorem dX4_readsNumber_30 : decode cX4_readsNumber 30 = .ok (.goto 4, 3) := by decide +kernel
theorem dX4_readsNumber_33 : decode cX4_readsNumber 33 = .ok (.iconst 0, 1) := by decide +kernel
theorem dX4_readsNumber_34 : decode cX4_readsNumber 34 = .ok (.ireturn, 1) := by decide +kernel
theorem dX4_readToken_0 : decode cX4_readToken 0 = .ok (.aload_n 0, 1) := by decide +kernel
theorem dX4_readToken_1 : decode cX4_readToken 1 = .ok (.getfield 19, 3) := by decide +kernel
theorem dX4_readToken_4 : decode cX4_readToken 4 = .ok (.aload_n 0, 1) := by decide +kernel
theorem dX4_readToken_5 : decode cX4_readToken 5 = .ok (.getfield 15, 3) := by decide +kernel
theorem dX4_readToken_8 : decode cX4_readToken 8 = .ok (.if_icmp .ge 30, 3) := by decide +kernel
theorem dX4_readToken_11 : decode cX4_readToken 11 = .ok (.aload_n 0, 1) := by decide +kernel
theorem dX4_readToken_12 : decode cX4_readToken 12 = .ok (.getfield 9, 3) := by decide +kernel
theorem dX4_readToken_15 : decode cX4_readToken 15 = .ok (.aload_n 0, 1) := by decide +kernel
theorem dX4_readToken_16 : decode cX4_readToken 16 = .ok (.getfield 19, 3) := by decide +kernel
theorem dX4_readToken_19 : decode cX4_readToken 19 = .ok (.iaload, 1) := by decide +kernel
theorem dX4_readToken_20 : decode cX4_readToken 20 = .ok (.bipush 32, 2) := by decide +kernel
theorem dX4_readToken_22 : decode cX4_readToken 22 = .ok (.if_icmp .ne 16, 3) := by decide +kernel
theorem dX4_readToken_25 : decode cX4_readToken 25 = .ok (.aload_n 0, 1) := by decide +kernel
theorem dX4_readToken_26 : decode cX4_readToken 26 = .ok (.dup, 1) := by decide +kernel
theorem dX4_readToken_27 : decode cX4_readToken 27 = .ok (.getfield 19, 3) := by decide +kernel
theorem dX4_readToken_30 : decode cX4_readToken 30 = .ok (.iconst 1, 1) := by decide +kernel
theorem dX4_readToken_31 : decode cX4_readToken 31 = .ok (.iadd, 1) := by decide +kernel
theorem dX4_readToken_32 : decode cX4_readToken 32 = .ok (.putfield 19, 3) := by decide +kernel
theorem dX4_readToken_35 : decode cX4_readToken 35 = .ok (.goto (-35), 3) := by decide +kernel
theorem dX4_readToken_38 : decode cX4_readToken 38 = .ok (.aload_n 0, 1) := by decide +kernel
theorem dX4_readToken_39 : decode cX4_readToken 39 = .ok (.aload_n 0, 1) := by decide +kernel
theorem dX4_readToken_40 : decode cX4_readToken 40 = .ok (.getfield 19, 3) := by decide +kernel
theorem dX4_readToken_43 : decode cX4_readToken 43 = .ok (.putfield 91, 3) := by decide +kernel
theorem dX4_readToken_46 : decode cX4_readToken 46 = .ok (.aload_n 0, 1) := by decide +kernel
theorem dX4_readToken_47 : decode cX4_readToken 47 = .ok (.getfield 19, 3) := by decide +kernel
theorem dX4_readToken_50 : decode cX4_readToken 50 = .ok (.aload_n 0, 1) := by decide +kernel
theorem dX4_readToken_51 : decode cX4_readToken 51 = .ok (.getfield 15, 3) := by decide +kernel
theorem dX4_readToken_54 : decode cX4_readToken 54 = .ok (.if_icmp .lt 11, 3) := by decide +kernel
theorem dX4_readToken_57 : decode cX4_readToken 57 = .ok (.aload_n 0, 1) := by decide +kernel
theorem dX4_readToken_58 : decode cX4_readToken 58 = .ok (.iconst (-1), 1) := by decide +kernel
theorem dX4_readToken_59 : decode cX4_readToken 59 = .ok (.putfield 37, 3) := by decide +kernel
theorem dX4_readToken_62 : decode cX4_readToken 62 = .ok (.goto 54, 3) := by decide +kernel
theorem dX4_readToken_65 : decode cX4_readToken 65 = .ok (.aload_n 0, 1) := by decide +kernel
theorem dX4_readToken_66 : decode cX4_readToken 66 = .ok (.getfield 9, 3) := by decide +kernel
theorem dX4_readToken_69 : decode cX4_readToken 69 = .ok (.aload_n 0, 1) := by decide +kernel
theorem dX4_readToken_70 : decode cX4_readToken 70 = .ok (.getfield 19, 3) := by decide +kernel
theorem dX4_readToken_73 : decode cX4_readToken 73 = .ok (.iaload, 1) := by decide +kernel
theorem dX4_readToken_74 : decode cX4_readToken 74 = .ok (.invokestatic 94, 3) := by decide +kernel
theorem dX4_readToken_77 : decode cX4_readToken 77 = .ok (.ifCond .eq 16, 3) := by decide +kernel
theorem dX4_readToken_80 : decode cX4_readToken 80 = .ok (.aload_n 0, 1) := by decide +kernel
theorem dX4_readToken_81 : decode cX4_readToken 81 = .ok (.bipush (-2), 2) := by decide +kernel
theorem dX4_readToken_83 : decode cX4_readToken 83 = .ok (.putfield 37, 3) := by decide +kernel
theorem dX4_readToken_86 : decode cX4_readToken 86 = .ok (.aload_n 0, 1) := by decide +kernel
theorem dX4_readToken_87 : decode cX4_readToken 87 = .ok (.invokevirtual 98, 3) := by decide +kernel
theorem dX4_readToken_90 : decode cX4_readToken 90 = .ok (.goto 26, 3) := by decide +kernel
theorem dX4_readToken_93 : decode cX4_readToken 93 = .ok (.aload_n 0, 1) := by decide +kernel
theorem dX4_readToken_94 : decode cX4_readToken 94 = .ok (.aload_n 0, 1) := by decide +kernel
theorem dX4_readToken_95 : decode cX4_readToken 95 = .ok (.getfield 9, 3) := by decide +kernel
theorem dX4_readToken_98 : decode cX4_readToken 98 = .ok (.aload_n 0, 1) := by decide +kernel
theorem dX4_readToken_99 : decode cX4_readToken 99 = .ok (.getfield 19, 3) := by decide +kernel
theorem dX4_readToken_102 : decode cX4_readToken 102 = .ok (.iaload, 1) := by decide +kernel
theorem dX4_readToken_103 : decode cX4_readToken 103 = .ok (.putfield 37, 3) := by decide +kernel
theorem dX4_readToken_106 : decode cX4_readToken 106 = .ok (.aload_n 0, 1) := by decide +kernel
theorem dX4_readToken_107 : decode cX4_readToken 107 = .ok (.dup, 1) := by decide +kernel
theorem dX4_readToken_108 : decode cX4_readToken 108 = .ok (.getfield 19, 3) := by decide +kernel
theorem dX4_readToken_111 : decode cX4_readToken 111 = .ok (.iconst 1, 1) := by decide +kernel
theorem dX4_readToken_112 : decode cX4_readToken 112 = .ok (.iadd, 1) := by decide +kernel
theorem dX4_readToken_113 : decode cX4_readToken 113 = .ok (.putfield 19, 3) := by decide +kernel
theorem dX4_readToken_116 : decode cX4_readToken 116 = .ok (.return_, 1) := by decide +kernel
theorem dX4_readDigits_0 : decode cX4_readDigits 0 = .ok (.aload_n 0, 1) := by decide +kernel
theorem dX4_readDigits_1 : decode cX4_readDigits 1 = .ok (.getfield 9, 3) := by decide +kernel
theorem dX4_readDigits_4 : decode cX4_readDigits 4 = .ok (.aload_n 0, 1) := by decide +kernel
theorem dX4_readDigits_5 : decode cX4_readDigits 5 = .ok (.getfield 19, 3) := by decide +kernel
theorem dX4_readDigits_8 : decode cX4_readDigits 8 = .ok (.iaload, 1) := by decide +kernel
theorem dX4_readDigits_9 : decode cX4_readDigits 9 = .ok (.bipush 48, 2) := by decide +kernel
theorem dX4_readDigits_11 : decode cX4_readDigits 11 = .ok (.if_icmp .ne 7, 3) := by decide +kernel
theorem dX4_readDigits_14 : decode cX4_readDigits 14 = .ok (.iconst 1, 1) := by decide +kernel
theorem dX4_readDigits_15 : decode cX4_readDigits 15 = .ok (.goto 4, 3) := by decide +kernel
theorem dX4_readDigits_18 : decode cX4_readDigits 18 = .ok (.iconst 0, 1) := by decide +kernel
theorem dX4_readDigits_19 : decode cX4_readDigits 19 = .ok (.istore_n 1, 1) := by decide +kernel
theorem dX4_readDigits_20 : decode cX4_readDigits 20 = .ok (.aload_n 0, 1) := by decide +kernel
theorem dX4_readDigits_21 : decode cX4_readDigits 21 = .ok (.iconst 0, 1) := by decide +kernel
theorem dX4_readDigits_22 : decode cX4_readDigits 22 = .ok (.putfield 73, 3) := by decide +kernel
theorem dX4_readDigits_25 : decode cX4_readDigits 25 = .ok (.aload_n 0, 1) := by decide +kernel
theorem dX4_readDigits_26 : decode cX4_readDigits 26 = .ok (.getfield 19, 3) := by decide +kernel
theorem dX4_readDigits_29 : decode cX4_readDigits 29 = .ok (.aload_n 0, 1) := by decide +kernel
theorem dX4_readDigits_30 : decode cX4_readDigits 30 = .ok (.getfield 15, 3) := by decide +kernel
theorem dX4_readDigits_33 : decode cX4_readDigits 33 = .ok (.if_icmp .ge 60, 3) := by decide +kernel
theorem dX4_readDigits_36 : decode cX4_readDigits 36 = .ok (.aload_n 0, 1) := by decide +kernel
theorem dX4_readDigits_37 : decode cX4_readDigits 37 = .ok (.getfield 9, 3) := by decide +kernel
theorem dX4_readDigits_40 : decode cX4_readDigits 40 = .ok (.aload_n 0, 1) := by decide +kernel
theorem dX4_readDigits_41 : decode cX4_readDigits 41 = .ok (.getfield 19, 3) := by decide +kernel
theorem dX4_readDigits_44 : decode cX4_readDigits 44 = .ok (.iaload, 1) := by decide +kernel
theorem dX4_readDigits_45 : decode cX4_readDigits 45 = .ok (.invokestatic 94, 3) := by decide +kernel
theorem dX4_readDigits_48 : decode cX4_readDigits 48 = .ok (.ifCond .eq 45, 3) := by decide +kernel
theorem dX4_readDigits_51 : decode cX4_readDigits 51 = .ok (.aload_n 0, 1) := by decide +kernel
theorem dX4_readDigits_52 : decode cX4_readDigits 52 = .ok (.aload_n 0, 1) := by decide +kernel
theorem dX4_readDigits_53 : decode cX4_readDigits 53 = .ok (.getfield 73, 3) := by decide +kernel
theorem dX4_readDigits_56 : decode cX4_readDigits 56 = .ok (.bipush 10, 2) := by decide +kernel
theorem dX4_readDigits_58 : decode cX4_readDigits 58 = .ok (.imul, 1) := by decide +kernel
theorem dX4_readDigits_59 : decode cX4_readDigits 59 = .ok (.aload_n 0, 1) := by decide +kernel
theorem dX4_readDigits_60 : decode cX4_readDigits 60 = .ok (.getfield 9, 3) := by decide +kernel
theorem dX4_readDigits_63 : decode cX4_readDigits 63 = .ok (.aload_n 0, 1) := by decide +kernel
theorem dX4_readDigits_64 : decode cX4_readDigits 64 = .ok (.getfield 19, 3) := by decide +kernel
theorem dX4_readDigits_67 : decode cX4_readDigits 67 = .ok (.iaload, 1) := by decide +kernel
theorem dX4_readDigits_68 : decode cX4_readDigits 68 = .ok (.iadd, 1) := by decide +kernel
theorem dX4_readDigits_69 : decode cX4_readDigits 69 = .ok (.bipush 48, 2) := by decide +kernel
theorem dX4_readDigits_71 : decode cX4_readDigits 71 = .ok (.isub, 1) := by decide +kernel
theorem dX4_readDigits_72 : decode cX4_readDigits 72 = .ok (.bipush 100, 2) := by decide +kernel
theorem dX4_readDigits_74 : decode cX4_readDigits 74 = .ok (.invokestatic 101, 3) := by decide +kernel
theorem dX4_readDigits_77 : decode cX4_readDigits 77 = .ok (.putfield 73, 3) := by decide +kernel
theorem dX4_readDigits_80 : decode cX4_readDigits 80 = .ok (.aload_n 0, 1) := by decide +kernel
theorem dX4_readDigits_81 : decode cX4_readDigits 81 = .ok (.dup, 1) := by decide +kernel
theorem dX4_readDigits_82 : decode cX4_readDigits 82 = .ok (.getfield 19, 3) := by decide +kernel
theorem dX4_readDigits_85 : decode cX4_readDigits 85 = .ok (.iconst 1, 1) := by decide +kernel
theorem dX4_readDigits_86 : decode cX4_readDigits 86 = .ok (.iadd, 1) := by decide +kernel
theorem dX4_readDigits_87 : decode cX4_readDigits 87 = .ok (.putfield 19, 3) := by decide +kernel
theorem dX4_readDigits_90 : decode cX4_readDigits 90 = .ok (.goto (-65), 3) := by decide +kernel
theorem dX4_readDigits_93 : decode cX4_readDigits 93 = .ok (.iload_n 1, 1) := by decide +kernel
theorem dX4_readDigits_94 : decode cX4_readDigits 94 = .ok (.ifCond .eq 22, 3) := by decide +kernel
theorem dX4_readDigits_97 : decode cX4_readDigits 97 = .ok (.aload_n 0, 1) := by decide +kernel
theorem dX4_readDigits_98 : decode cX4_readDigits 98 = .ok (.getfield 19, 3) := by decide +kernel
theorem dX4_readDigits_101 : decode cX4_readDigits 101 = .ok (.aload_n 0, 1) := by decide +kernel
theorem dX4_readDigits_102 : decode cX4_readDigits 102 = .ok (.getfield 91, 3) := by decide +kernel
theorem dX4_readDigits_105 : decode cX4_readDigits 105 = .ok (.isub, 1) := by decide +kernel
theorem dX4_readDigits_106 : decode cX4_readDigits 106 = .ok (.iconst 1, 1) := by decide +kernel
theorem dX4_readDigits_107 : decode cX4_readDigits 107 = .ok (.if_icmp .le 9, 3) := by decide +kernel
theorem dX4_readDigits_110 : decode cX4_readDigits 110 = .ok (.aload_n 0, 1) := by decide +kernel
theorem dX4_readDigits_111 : decode cX4_readDigits 111 = .ok (.bipush 100, 2) := by decide +kernel
theorem dX4_readDigits_113 : decode cX4_readDigits 113 = .ok (.putfield 73, 3) := by decide +kernel
theorem dX4_readDigits_116 : decode cX4_readDigits 116 = .ok (.return_, 1) := by decide +kernel
theorem dX4_isDigit_0 : decode cX4_isDigit 0 = .ok (.iload_n 0, 1) := by decide +kernel
theorem dX4_isDigit_1 : decode cX4_isDigit 1 = .ok (.bipush 48, 2) := by decide +kernel
theorem dX4_isDigit_3 : decode cX4_isDigit 3 = .ok (.if_icmp .lt 13, 3) := by decide +kernel
theorem dX4_isDigit_6 : decode cX4_isDigit 6 = .ok (.iload_n 0, 1) := by decide +kernel
theorem dX4_isDigit_7 : decode cX4_isDigit 7 = .ok (.bipush 57, 2) := by decide +kernel
theorem dX4_isDigit_9 : decode cX4_isDigit 9 = .ok (.if_icmp .gt 7, 3) := by decide +kernel
theorem dX4_isDigit_12 : decode cX4_isDigit 12 = .ok (.iconst 1, 1) := by decide +kernel
theorem dX4_isDigit_13 : decode cX4_isDigit 13 = .ok (.goto 4, 3) := by decide +kernel
theorem dX4_isDigit_16 : decode cX4_isDigit 16 = .ok (.iconst 0, 1) := by decide +kernel
theorem dX4_isDigit_17 : decode cX4_isDigit 17 = .ok (.ireturn, 1) := by decide +kernel
theorem dX5_init_0 : decode cX5_init 0 = .ok (.aload_n 0, 1) := by decide +kernel
theorem dX5_init_1 : decode cX5_init 1 = .ok (.invokespecial 3, 3) := by decide +kernel
theorem dX5_init_4 : decode cX5_init 4 = .ok (.aload_n 0, 1) := by decide +kernel
theorem dX5_init_5 : decode cX5_init 5 = .ok (.bipush 6, 2) := by decide +kernel
theorem dX5_init_7 : decode cX5_init 7 = .ok (.newarray .int, 2) := by decide +kernel
theorem dX5_init_9 : decode cX5_init 9 = .ok (.putfield 9, 3) := by decide +kernel
theorem dX5_init_12 : decode cX5_init 12 = .ok (.aload_n 0, 1) := by decide +kernel
theorem dX5_init_13 : decode cX5_init 13 = .ok (.iconst 5, 1) := by decide +kernel
theorem dX5_init_14 : decode cX5_init 14 = .ok (.newarray .int, 2) := by decide +kernel
theorem dX5_init_16 : decode cX5_init 16 = .ok (.putfield 15, 3) := by decide +kernel
theorem dX5_init_19 : decode cX5_init 19 = .ok (.aload_n 0, 1) := by decide +kernel
theorem dX5_init_20 : decode cX5_init 20 = .ok (.iconst 5, 1) := by decide +kernel
theorem dX5_init_21 : decode cX5_init 21 = .ok (.newarray .int, 2) := by decide +kernel
theorem dX5_init_23 : decode cX5_init 23 = .ok (.putfield 18, 3) := by decide +kernel
theorem dX5_init_26 : decode cX5_init 26 = .ok (.aload_n 0, 1) := by decide +kernel
theorem dX5_init_27 : decode cX5_init 27 = .ok (.invokevirtual 21, 3) := by decide +kernel
theorem dX5_init_30 : decode cX5_init 30 = .ok (.return_, 1) := by decide +kernel
theorem dX5_tellNothing_0 : decode cX5_tellNothing 0 = .ok (.aload_n 0, 1) := by decide +kernel
theorem dX5_tellNothing_1 : decode cX5_tellNothing 1 = .ok (.iconst 0, 1) := by decide +kernel
theorem dX5_tellNothing_2 : decode cX5_tellNothing 2 = .ok (.putfield 24, 3) := by decide +kernel
theorem dX5_tellNothing_5 : decode cX5_tellNothing 5 = .ok (.aload_n 0, 1) := by decide +kernel
theorem dX5_tellNothing_6 : decode cX5_tellNothing 6 = .ok (.iconst 0, 1) := by decide +kernel
theorem dX5_tellNothing_7 : decode cX5_tellNothing 7 = .ok (.putfield 28, 3) := by decide +kernel
theorem dX5_tellNothing_10 : decode cX5_tellNothing 10 = .ok (.aload_n 0, 1) := by decide +kernel
theorem dX5_tellNothing_11 : decode cX5_tellNothing 11 = .ok (.iconst 3, 1) := by decide +kernel
theorem dX5_tellNothing_12 : decode cX5_tellNothing 12 = .ok (.putfield 31, 3) := by decide +kernel
theorem dX5_tellNothing_15 : decode cX5_tellNothing 15 = .ok (.aload_n 0, 1) := by decide +kernel
theorem dX5_tellNothing_16 : decode cX5_tellNothing 16 = .ok (.iconst 0, 1) := by decide +kernel
theorem dX5_tellNothing_17 : decode cX5_tellNothing 17 = .ok (.putfield 34, 3) := by decide +kernel
theorem dX5_tellNothing_20 : decode cX5_tellNothing 20 = .ok (.aload_n 0, 1) := by decide +kernel
theorem dX5_tellNothing_21 : decode cX5_tellNothing 21 = .ok (.bipush 70, 2) := by decide +kernel
theorem dX5_tellNothing_23 : decode cX5_tellNothing 23 = .ok (.putfield 37, 3) := by decide +kernel
theorem dX5_tellNothing_26 : decode cX5_tellNothing 26 = .ok (.return_, 1) := by decide +kernel
theorem dX5_spans_0 : decode cX5_spans 0 = .ok (.aload_n 0, 1) := by decide +kernel
theorem dX5_spans_1 : decode cX5_spans 1 = .ok (.getfield 15, 3) := by decide +kernel
theorem dX5_spans_4 : decode cX5_spans 4 = .ok (.iload_n 1, 1) := by decide +kernel
theorem dX5_spans_5 : decode cX5_spans 5 = .ok (.iaload, 1) := by decide +kernel
theorem dX5_spans_6 : decode cX5_spans 6 = .ok (.iload_n 2, 1) := by decide +kernel
theorem dX5_spans_7 : decode cX5_spans 7 = .ok (.if_icmp .gt 17, 3) := by decide +kernel
theorem dX5_spans_10 : decode cX5_spans 10 = .ok (.iload_n 2, 1) := by decide +kernel
theorem dX5_spans_11 : decode cX5_spans 11 = .ok (.aload_n 0, 1) := by decide +kernel
theorem dX5_spans_12 : decode cX5_spans 12 = .ok (.getfield 18, 3) := by decide +kernel
theorem dX5_spans_15 : decode cX5_spans 15 = .ok (.iload_n 1, 1) := by decide +kernel
theorem dX5_spans_16 : decode cX5_spans 16 = .ok (.iaload, 1) := by decide +kernel
theorem dX5_spans_17 : decode cX5_spans 17 = .ok (.if_icmp .gt 7, 3) := by decide +kernel
theorem dX5_spans_20 : decode cX5_spans 20 = .ok (.iconst 1, 1) := by decide +kernel
theorem dX5_spans_21 : decode cX5_spans 21 = .ok (.goto 4, 3) := by decide +kernel
theorem dX5_spans_24 : decode cX5_spans 24 = .ok (.iconst 0, 1) := by decide +kernel
theorem dX5_spans_25 : decode cX5_spans 25 = .ok (.ireturn, 1) := by decide +kernel
theorem dX5_does_0 : decode cX5_does 0 = .ok (.iload_n 2, 1) := by decide +kernel
theorem dX5_does_1 : decode cX5_does 1 = .ok (.aload_n 0, 1) := by decide +kernel
theorem dX5_does_2 : decode cX5_does 2 = .ok (.getfield 37, 3) := by decide +kernel
theorem dX5_does_5 : decode cX5_does 5 = .ok (.if_icmp .ge 16, 3) := by decide +kernel
theorem dX5_does_8 : decode cX5_does 8 = .ok (.aload_n 0, 1) := by decide +kernel
theorem dX5_does_9 : decode cX5_does 9 = .ok (.iload_n 1, 1) := by decide +kernel
theorem dX5_does_10 : decode cX5_does 10 = .ok (.iload_n 2, 1) := by decide +kernel
theorem dX5_does_11 : decode cX5_does 11 = .ok (.invokevirtual 40, 3) := by decide +kernel
theorem dX5_does_14 : decode cX5_does 14 = .ok (.ifCond .eq 7, 3) := by decide +kernel
theorem dX5_does_17 : decode cX5_does 17 = .ok (.iconst 1, 1) := by decide +kernel
theorem dX5_does_18 : decode cX5_does 18 = .ok (.goto 4, 3) := by decide +kernel
theorem dX5_does_21 : decode cX5_does 21 = .ok (.iconst 0, 1) := by decide +kernel
theorem dX5_does_22 : decode cX5_does 22 = .ok (.ireturn, 1) := by decide +kernel
theorem dX5_worksAt_0 : decode cX5_worksAt 0 = .ok (.iconst 0, 1) := by decide +kernel
theorem dX5_worksAt_1 : decode cX5_worksAt 1 = .ok (.istore_n 2, 1) := by decide +kernel
theorem dX5_worksAt_2 : decode cX5_worksAt 2 = .ok (.iconst 0, 1) := by decide +kernel
theorem dX5_worksAt_3 : decode cX5_worksAt 3 = .ok (.istore_n 3, 1) := by decide +kernel
theorem dX5_worksAt_4 : decode cX5_worksAt 4 = .ok (.iload_n 3, 1) := by decide +kernel
theorem dX5_worksAt_5 : decode cX5_worksAt 5 = .ok (.aload_n 0, 1) := by decide +kernel
theorem dX5_worksAt_6 : decode cX5_worksAt 6 = .ok (.getfield 34, 3) := by decide +kernel
theorem dX5_worksAt_9 : decode cX5_worksAt 9 = .ok (.if_icmp .ge 25, 3) := by decide +kernel
theorem dX5_worksAt_12 : decode cX5_worksAt 12 = .ok (.aload_n 0, 1) := by decide +kernel
theorem dX5_worksAt_13 : decode cX5_worksAt 13 = .ok (.iload_n 3, 1) := by decide +kernel
theorem dX5_worksAt_14 : decode cX5_worksAt 14 = .ok (.iload_n 1, 1) := by decide +kernel
theorem dX5_worksAt_15 : decode cX5_worksAt 15 = .ok (.invokevirtual 44, 3) := by decide +kernel
theorem dX5_worksAt_18 : decode cX5_worksAt 18 = .ok (.ifCond .eq 10, 3) := by decide +kernel
theorem dX5_worksAt_21 : decode cX5_worksAt 21 = .ok (.iload_n 2, 1) := by decide +kernel
theorem dX5_worksAt_22 : decode cX5_worksAt 22 = .ok (.iload_n 3, 1) := by decide +kernel
theorem dX5_worksAt_23 : decode cX5_worksAt 23 = .ok (.invokestatic 47, 3) := by decide +kernel
theorem dX5_worksAt_26 : decode cX5_worksAt 26 = .ok (.ior, 1) := by decide +kernel
theorem dX5_worksAt_27 : decode cX5_worksAt 27 = .ok (.istore_n 2, 1) := by decide +kernel
theorem dX5_worksAt_28 : decode cX5_worksAt 28 = .ok (.iinc 3 1, 3) := by decide +kernel
theorem dX5_worksAt_31 : decode cX5_worksAt 31 = .ok (.goto (-27), 3) := by decide +kernel
theorem dX5_worksAt_34 : decode cX5_worksAt 34 = .ok (.iload_n 2, 1) := by decide +kernel
theorem dX5_worksAt_35 : decode cX5_worksAt 35 = .ok (.ireturn, 1) := by decide +kernel
theorem dJ6_bitCount_0f7a4_0 : decode cJ6_bitCount_0f7a4 0 = .ok (.iload_n 0, 1) := by decide +kernel
theorem dJ6_bitCount_0f7a4_1 : decode cJ6_bitCount_0f7a4 1 = .ok (.iload_n 0, 1) := by decide +kernel
theorem dJ6_bitCount_0f7a4_2 : decode cJ6_bitCount_0f7a4 2 = .ok (.iconst 1, 1) := by decide +kernel
theorem dJ6_bitCount_0f7a4_3 : decode cJ6_bitCount_0f7a4 3 = .ok (.iushr, 1) := by decide +kernel
theorem dJ6_bitCount_0f7a4_4 : decode cJ6_bitCount_0f7a4 4 = .ok (.ldc_w 265, 3) := by decide +kernel
theorem dJ6_bitCount_0f7a4_7 : decode cJ6_bitCount_0f7a4 7 = .ok (.iand, 1) := by decide +kernel
theorem dJ6_bitCount_0f7a4_8 : decode cJ6_bitCount_0f7a4 8 = .ok (.isub, 1) := by decide +kernel
theorem dJ6_bitCount_0f7a4_9 : decode cJ6_bitCount_0f7a4 9 = .ok (.istore_n 0, 1) := by decide +kernel
theorem dJ6_bitCount_0f7a4_10 : decode cJ6_bitCount_0f7a4 10 = .ok (.iload_n 0, 1) := by decide +kernel
theorem dJ6_bitCount_0f7a4_11 : decode cJ6_bitCount_0f7a4 11 = .ok (.ldc_w 266, 3) := by decide +kernel
theorem dJ6_bitCount_0f7a4_14 : decode cJ6_bitCount_0f7a4 14 = .ok (.iand, 1) := by decide +kernel
theorem dJ6_bitCount_0f7a4_15 : decode cJ6_bitCount_0f7a4 15 = .ok (.iload_n 0, 1) := by decide +kernel
theorem dJ6_bitCount_0f7a4_16 : decode cJ6_bitCount_0f7a4 16 = .ok (.iconst 2, 1) := by decide +kernel
theorem dJ6_bitCount_0f7a4_17 : decode cJ6_bitCount_0f7a4 17 = .ok (.iushr, 1) := by decide +kernel
theorem dJ6_bitCount_0f7a4_18 : decode cJ6_bitCount_0f7a4 18 = .ok (.ldc_w 266, 3) := by decide +kernel
theorem dJ6_bitCount_0f7a4_21 : decode cJ6_bitCount_0f7a4 21 = .ok (.iand, 1) := by decide +kernel
theorem dJ6_bitCount_0f7a4_22 : decode cJ6_bitCount_0f7a4 22 = .ok (.iadd, 1) := by decide +kernel
theorem dJ6_bitCount_0f7a4_23 : decode cJ6_bitCount_0f7a4 23 = .ok (.istore_n 0, 1) := by decide +kernel
theorem dJ6_bitCount_0f7a4_24 : decode cJ6_bitCount_0f7a4 24 = .ok (.iload_n 0, 1) := by decide +kernel
theorem dJ6_bitCount_0f7a4_25 : decode cJ6_bitCount_0f7a4 25 = .ok (.iload_n 0, 1) := by decide +kernel
theorem dJ6_bitCount_0f7a4_26 : decode cJ6_bitCount_0f7a4 26 = .ok (.iconst 4, 1) := by decide +kernel
theorem dJ6_bitCount_0f7a4_27 : decode cJ6_bitCount_0f7a4 27 = .ok (.iushr, 1) := by decide +kernel
theorem dJ6_bitCount_0f7a4_28 : decode cJ6_bitCount_0f7a4 28 = .ok (.iadd, 1) := by decide +kernel
theorem dJ6_bitCount_0f7a4_29 : decode cJ6_bitCount_0f7a4 29 = .ok (.ldc_w 267, 3) := by decide +kernel
theorem dJ6_bitCount_0f7a4_32 : decode cJ6_bitCount_0f7a4 32 = .ok (.iand, 1) := by decide +kernel
theorem dJ6_bitCount_0f7a4_33 : decode cJ6_bitCount_0f7a4 33 = .ok (.istore_n 0, 1) := by decide +kernel
theorem dJ6_bitCount_0f7a4_34 : decode cJ6_bitCount_0f7a4 34 = .ok (.iload_n 0, 1) := by decide +kernel
theorem dJ6_bitCount_0f7a4_35 : decode cJ6_bitCount_0f7a4 35 = .ok (.iload_n 0, 1) := by decide +kernel
theorem dJ6_bitCount_0f7a4_36 : decode cJ6_bitCount_0f7a4 36 = .ok (.bipush 8, 2) := by decide +kernel
theorem dJ6_bitCount_0f7a4_38 : decode cJ6_bitCount_0f7a4 38 = .ok (.iushr, 1) := by decide +kernel
theorem dJ6_bitCount_0f7a4_39 : decode cJ6_bitCount_0f7a4 39 = .ok (.iadd, 1) := by decide +kernel
theorem dJ6_bitCount_0f7a4_40 : decode cJ6_bitCount_0f7a4 40 = .ok (.istore_n 0, 1) := by decide +kernel
theorem dJ6_bitCount_0f7a4_41 : decode cJ6_bitCount_0f7a4 41 = .ok (.iload_n 0, 1) := by decide +kernel
theorem dJ6_bitCount_0f7a4_42 : decode cJ6_bitCount_0f7a4 42 = .ok (.iload_n 0, 1) := by decide +kernel
theorem dJ6_bitCount_0f7a4_43 : decode cJ6_bitCount_0f7a4 43 = .ok (.bipush 16, 2) := by decide +kernel
theorem dJ6_bitCount_0f7a4_45 : decode cJ6_bitCount_0f7a4 45 = .ok (.iushr, 1) := by decide +kernel
theorem dJ6_bitCount_0f7a4_46 : decode cJ6_bitCount_0f7a4 46 = .ok (.iadd, 1) := by decide +kernel
theorem dJ6_bitCount_0f7a4_47 : decode cJ6_bitCount_0f7a4 47 = .ok (.istore_n 0, 1) := by decide +kernel
theorem dJ6_bitCount_0f7a4_48 : decode cJ6_bitCount_0f7a4 48 = .ok (.iload_n 0, 1) := by decide +kernel
theorem dJ6_bitCount_0f7a4_49 : decode cJ6_bitCount_0f7a4 49 = .ok (.bipush 63, 2) := by decide +kernel
theorem dJ6_bitCount_0f7a4_51 : decode cJ6_bitCount_0f7a4 51 = .ok (.iand, 1) := by decide +kernel
theorem dJ6_bitCount_0f7a4_52 : decode cJ6_bitCount_0f7a4 52 = .ok (.ireturn, 1) := by decide +kernel
