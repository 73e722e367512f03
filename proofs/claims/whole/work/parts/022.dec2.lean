theorem dX7_hasElder_25 : decode cX7_hasElder 25 = .ok (.aload_n 0, 1) := by decide +kernel
theorem dX7_hasElder_26 : decode cX7_hasElder 26 = .ok (.getfield 9, 3) := by decide +kernel
theorem dX7_hasElder_29 : decode cX7_hasElder 29 = .ok (.iload_n 1, 1) := by decide +kernel
theorem dX7_hasElder_30 : decode cX7_hasElder 30 = .ok (.iaload, 1) := by decide +kernel
theorem dX7_hasElder_31 : decode cX7_hasElder 31 = .ok (.if_icmp .ne 32, 3) := by decide +kernel
theorem dX7_hasElder_34 : decode cX7_hasElder 34 = .ok (.aload_n 0, 1) := by decide +kernel
theorem dX7_hasElder_35 : decode cX7_hasElder 35 = .ok (.getfield 30, 3) := by decide +kernel
theorem dX7_hasElder_38 : decode cX7_hasElder 38 = .ok (.iload_n 2, 1) := by decide +kernel
theorem dX7_hasElder_39 : decode cX7_hasElder 39 = .ok (.baload, 1) := by decide +kernel
theorem dX7_hasElder_40 : decode cX7_hasElder 40 = .ok (.ifCond .eq 23, 3) := by decide +kernel
theorem dX7_hasElder_43 : decode cX7_hasElder 43 = .ok (.aload_n 0, 1) := by decide +kernel
theorem dX7_hasElder_44 : decode cX7_hasElder 44 = .ok (.getfield 37, 3) := by decide +kernel
theorem dX7_hasElder_47 : decode cX7_hasElder 47 = .ok (.iload_n 2, 1) := by decide +kernel
theorem dX7_hasElder_48 : decode cX7_hasElder 48 = .ok (.baload, 1) := by decide +kernel
theorem dX7_hasElder_49 : decode cX7_hasElder 49 = .ok (.ifCond .ne 14, 3) := by decide +kernel
theorem dX7_hasElder_52 : decode cX7_hasElder 52 = .ok (.aload_n 0, 1) := by decide +kernel
theorem dX7_hasElder_53 : decode cX7_hasElder 53 = .ok (.iload_n 2, 1) := by decide +kernel
theorem dX7_hasElder_54 : decode cX7_hasElder 54 = .ok (.iload_n 1, 1) := by decide +kernel
theorem dX7_hasElder_55 : decode cX7_hasElder 55 = .ok (.invokevirtual 48, 3) := by decide +kernel
theorem dX7_hasElder_58 : decode cX7_hasElder 58 = .ok (.ifCond .eq 5, 3) := by decide +kernel
theorem dX7_hasElder_61 : decode cX7_hasElder 61 = .ok (.iconst 1, 1) := by decide +kernel
theorem dX7_hasElder_62 : decode cX7_hasElder 62 = .ok (.ireturn, 1) := by decide +kernel
theorem dX7_hasElder_63 : decode cX7_hasElder 63 = .ok (.iinc 2 1, 3) := by decide +kernel
theorem dX7_hasElder_66 : decode cX7_hasElder 66 = .ok (.goto (-64), 3) := by decide +kernel
theorem dX7_hasElder_69 : decode cX7_hasElder 69 = .ok (.iconst 0, 1) := by decide +kernel
theorem dX7_hasElder_70 : decode cX7_hasElder 70 = .ok (.ireturn, 1) := by decide +kernel
theorem dX7_isAhead_0 : decode cX7_isAhead 0 = .ok (.aload_n 0, 1) := by decide +kernel
theorem dX7_isAhead_1 : decode cX7_isAhead 1 = .ok (.getfield 21, 3) := by decide +kernel
theorem dX7_isAhead_4 : decode cX7_isAhead 4 = .ok (.iload_n 1, 1) := by decide +kernel
theorem dX7_isAhead_5 : decode cX7_isAhead 5 = .ok (.iaload, 1) := by decide +kernel
theorem dX7_isAhead_6 : decode cX7_isAhead 6 = .ok (.aload_n 0, 1) := by decide +kernel
theorem dX7_isAhead_7 : decode cX7_isAhead 7 = .ok (.getfield 21, 3) := by decide +kernel
theorem dX7_isAhead_10 : decode cX7_isAhead 10 = .ok (.iload_n 2, 1) := by decide +kernel
theorem dX7_isAhead_11 : decode cX7_isAhead 11 = .ok (.iaload, 1) := by decide +kernel
theorem dX7_isAhead_12 : decode cX7_isAhead 12 = .ok (.if_icmp .lt 23, 3) := by decide +kernel
theorem dX7_isAhead_15 : decode cX7_isAhead 15 = .ok (.aload_n 0, 1) := by decide +kernel
theorem dX7_isAhead_16 : decode cX7_isAhead 16 = .ok (.getfield 21, 3) := by decide +kernel
theorem dX7_isAhead_19 : decode cX7_isAhead 19 = .ok (.iload_n 1, 1) := by decide +kernel
theorem dX7_isAhead_20 : decode cX7_isAhead 20 = .ok (.iaload, 1) := by decide +kernel
theorem dX7_isAhead_21 : decode cX7_isAhead 21 = .ok (.aload_n 0, 1) := by decide +kernel
theorem dX7_isAhead_22 : decode cX7_isAhead 22 = .ok (.getfield 21, 3) := by decide +kernel
theorem dX7_isAhead_25 : decode cX7_isAhead 25 = .ok (.iload_n 2, 1) := by decide +kernel
theorem dX7_isAhead_26 : decode cX7_isAhead 26 = .ok (.iaload, 1) := by decide +kernel
theorem dX7_isAhead_27 : decode cX7_isAhead 27 = .ok (.if_icmp .ne 12, 3) := by decide +kernel
theorem dX7_isAhead_30 : decode cX7_isAhead 30 = .ok (.iload_n 1, 1) := by decide +kernel
theorem dX7_isAhead_31 : decode cX7_isAhead 31 = .ok (.iload_n 2, 1) := by decide +kernel
theorem dX7_isAhead_32 : decode cX7_isAhead 32 = .ok (.if_icmp .ge 7, 3) := by decide +kernel
theorem dX7_isAhead_35 : decode cX7_isAhead 35 = .ok (.iconst 1, 1) := by decide +kernel
theorem dX7_isAhead_36 : decode cX7_isAhead 36 = .ok (.goto 4, 3) := by decide +kernel
theorem dX7_isAhead_39 : decode cX7_isAhead 39 = .ok (.iconst 0, 1) := by decide +kernel
theorem dX7_isAhead_40 : decode cX7_isAhead 40 = .ok (.ireturn, 1) := by decide +kernel
theorem dX7_livingIn_0 : decode cX7_livingIn 0 = .ok (.iconst 0, 1) := by decide +kernel
theorem dX7_livingIn_1 : decode cX7_livingIn 1 = .ok (.istore_n 2, 1) := by decide +kernel
theorem dX7_livingIn_2 : decode cX7_livingIn 2 = .ok (.iconst 0, 1) := by decide +kernel
theorem dX7_livingIn_3 : decode cX7_livingIn 3 = .ok (.istore_n 3, 1) := by decide +kernel
theorem dX7_livingIn_4 : decode cX7_livingIn 4 = .ok (.iload_n 3, 1) := by decide +kernel
theorem dX7_livingIn_5 : decode cX7_livingIn 5 = .ok (.aload_n 0, 1) := by decide +kernel
theorem dX7_livingIn_6 : decode cX7_livingIn 6 = .ok (.getfield 40, 3) := by decide +kernel
theorem dX7_livingIn_9 : decode cX7_livingIn 9 = .ok (.if_icmp .ge 31, 3) := by decide +kernel
theorem dX7_livingIn_12 : decode cX7_livingIn 12 = .ok (.aload_n 0, 1) := by decide +kernel
theorem dX7_livingIn_13 : decode cX7_livingIn 13 = .ok (.getfield 9, 3) := by decide +kernel
theorem dX7_livingIn_16 : decode cX7_livingIn 16 = .ok (.iload_n 3, 1) := by decide +kernel
theorem dX7_livingIn_17 : decode cX7_livingIn 17 = .ok (.iaload, 1) := by decide +kernel
theorem dX7_livingIn_18 : decode cX7_livingIn 18 = .ok (.iload_n 1, 1) := by decide +kernel
theorem dX7_livingIn_19 : decode cX7_livingIn 19 = .ok (.if_icmp .ne 15, 3) := by decide +kernel
theorem dX7_livingIn_22 : decode cX7_livingIn 22 = .ok (.aload_n 0, 1) := by decide +kernel
theorem dX7_livingIn_23 : decode cX7_livingIn 23 = .ok (.getfield 30, 3) := by decide +kernel
theorem dX7_livingIn_26 : decode cX7_livingIn 26 = .ok (.iload_n 3, 1) := by decide +kernel
theorem dX7_livingIn_27 : decode cX7_livingIn 27 = .ok (.baload, 1) := by decide +kernel
theorem dX7_livingIn_28 : decode cX7_livingIn 28 = .ok (.ifCond .eq 6, 3) := by decide +kernel
theorem dX7_livingIn_31 : decode cX7_livingIn 31 = .ok (.iinc 2 1, 3) := by decide +kernel
theorem dX7_livingIn_34 : decode cX7_livingIn 34 = .ok (.iinc 3 1, 3) := by decide +kernel
theorem dX7_livingIn_37 : decode cX7_livingIn 37 = .ok (.goto (-33), 3) := by decide +kernel
theorem dX7_livingIn_40 : decode cX7_livingIn 40 = .ok (.iload_n 2, 1) := by decide +kernel
theorem dX7_livingIn_41 : decode cX7_livingIn 41 = .ok (.ireturn, 1) := by decide +kernel
theorem dX7_allFree_0 : decode cX7_allFree 0 = .ok (.iconst 0, 1) := by decide +kernel
theorem dX7_allFree_1 : decode cX7_allFree 1 = .ok (.istore_n 2, 1) := by decide +kernel
theorem dX7_allFree_2 : decode cX7_allFree 2 = .ok (.iconst 0, 1) := by decide +kernel
theorem dX7_allFree_3 : decode cX7_allFree 3 = .ok (.istore_n 3, 1) := by decide +kernel
theorem dX7_allFree_4 : decode cX7_allFree 4 = .ok (.iload_n 3, 1) := by decide +kernel
theorem dX7_allFree_5 : decode cX7_allFree 5 = .ok (.aload_n 0, 1) := by decide +kernel
theorem dX7_allFree_6 : decode cX7_allFree 6 = .ok (.getfield 40, 3) := by decide +kernel
theorem dX7_allFree_9 : decode cX7_allFree 9 = .ok (.if_icmp .ge 30, 3) := by decide +kernel
theorem dX7_allFree_12 : decode cX7_allFree 12 = .ok (.aload_n 0, 1) := by decide +kernel
theorem dX7_allFree_13 : decode cX7_allFree 13 = .ok (.getfield 15, 3) := by decide +kernel
theorem dX7_allFree_16 : decode cX7_allFree 16 = .ok (.iload_n 3, 1) := by decide +kernel
theorem dX7_allFree_17 : decode cX7_allFree 17 = .ok (.iaload, 1) := by decide +kernel
theorem dX7_allFree_18 : decode cX7_allFree 18 = .ok (.iload_n 1, 1) := by decide +kernel
theorem dX7_allFree_19 : decode cX7_allFree 19 = .ok (.if_icmp .ne 14, 3) := by decide +kernel
theorem dX7_allFree_22 : decode cX7_allFree 22 = .ok (.aload_n 0, 1) := by decide +kernel
theorem dX7_allFree_23 : decode cX7_allFree 23 = .ok (.iload_n 3, 1) := by decide +kernel
theorem dX7_allFree_24 : decode cX7_allFree 24 = .ok (.invokevirtual 52, 3) := by decide +kernel
theorem dX7_allFree_27 : decode cX7_allFree 27 = .ok (.ifCond .eq 6, 3) := by decide +kernel
theorem dX7_allFree_30 : decode cX7_allFree 30 = .ok (.iinc 2 1, 3) := by decide +kernel
theorem dX7_allFree_33 : decode cX7_allFree 33 = .ok (.iinc 3 1, 3) := by decide +kernel
theorem dX7_allFree_36 : decode cX7_allFree 36 = .ok (.goto (-32), 3) := by decide +kernel
theorem dX7_allFree_39 : decode cX7_allFree 39 = .ok (.iload_n 2, 1) := by decide +kernel
theorem dX7_allFree_40 : decode cX7_allFree 40 = .ok (.ireturn, 1) := by decide +kernel
theorem dX7_takeFrom_0 : decode cX7_takeFrom 0 = .ok (.aload_n 0, 1) := by decide +kernel
theorem dX7_takeFrom_1 : decode cX7_takeFrom 1 = .ok (.aload_n 1, 1) := by decide +kernel
theorem dX7_takeFrom_2 : decode cX7_takeFrom 2 = .ok (.getfield 40, 3) := by decide +kernel
theorem dX7_takeFrom_5 : decode cX7_takeFrom 5 = .ok (.putfield 40, 3) := by decide +kernel
theorem dX7_takeFrom_8 : decode cX7_takeFrom 8 = .ok (.aload_n 1, 1) := by decide +kernel
theorem dX7_takeFrom_9 : decode cX7_takeFrom 9 = .ok (.getfield 9, 3) := by decide +kernel
theorem dX7_takeFrom_12 : decode cX7_takeFrom 12 = .ok (.aload_n 0, 1) := by decide +kernel
theorem dX7_takeFrom_13 : decode cX7_takeFrom 13 = .ok (.getfield 9, 3) := by decide +kernel
theorem dX7_takeFrom_16 : decode cX7_takeFrom 16 = .ok (.invokestatic 55, 3) := by decide +kernel
theorem dX7_takeFrom_19 : decode cX7_takeFrom 19 = .ok (.aload_n 1, 1) := by decide +kernel
theorem dX7_takeFrom_20 : decode cX7_takeFrom 20 = .ok (.getfield 15, 3) := by decide +kernel
theorem dX7_takeFrom_23 : decode cX7_takeFrom 23 = .ok (.aload_n 0, 1) := by decide +kernel
theorem dX7_takeFrom_24 : decode cX7_takeFrom 24 = .ok (.getfield 15, 3) := by decide +kernel
theorem dX7_takeFrom_27 : decode cX7_takeFrom 27 = .ok (.invokestatic 55, 3) := by decide +kernel
theorem dX7_takeFrom_30 : decode cX7_takeFrom 30 = .ok (.aload_n 1, 1) := by decide +kernel
theorem dX7_takeFrom_31 : decode cX7_takeFrom 31 = .ok (.getfield 18, 3) := by decide +kernel
theorem dX7_takeFrom_34 : decode cX7_takeFrom 34 = .ok (.aload_n 0, 1) := by decide +kernel
theorem dX7_takeFrom_35 : decode cX7_takeFrom 35 = .ok (.getfield 18, 3) := by decide +kernel
theorem dX7_takeFrom_38 : decode cX7_takeFrom 38 = .ok (.invokestatic 55, 3) := by decide +kernel
theorem dX7_takeFrom_41 : decode cX7_takeFrom 41 = .ok (.aload_n 1, 1) := by decide +kernel
theorem dX7_takeFrom_42 : decode cX7_takeFrom 42 = .ok (.getfield 21, 3) := by decide +kernel
theorem dX7_takeFrom_45 : decode cX7_takeFrom 45 = .ok (.aload_n 0, 1) := by decide +kernel
theorem dX7_takeFrom_46 : decode cX7_takeFrom 46 = .ok (.getfield 21, 3) := by decide +kernel
theorem dX7_takeFrom_49 : decode cX7_takeFrom 49 = .ok (.invokestatic 55, 3) := by decide +kernel
theorem dX7_takeFrom_52 : decode cX7_takeFrom 52 = .ok (.aload_n 1, 1) := by decide +kernel
theorem dX7_takeFrom_53 : decode cX7_takeFrom 53 = .ok (.getfield 24, 3) := by decide +kernel
theorem dX7_takeFrom_56 : decode cX7_takeFrom 56 = .ok (.aload_n 0, 1) := by decide +kernel
theorem dX7_takeFrom_57 : decode cX7_takeFrom 57 = .ok (.getfield 24, 3) := by decide +kernel
theorem dX7_takeFrom_60 : decode cX7_takeFrom 60 = .ok (.invokestatic 55, 3) := by decide +kernel
theorem dX7_takeFrom_63 : decode cX7_takeFrom 63 = .ok (.aload_n 1, 1) := by decide +kernel
theorem dX7_takeFrom_64 : decode cX7_takeFrom 64 = .ok (.getfield 27, 3) := by decide +kernel
theorem dX7_takeFrom_67 : decode cX7_takeFrom 67 = .ok (.aload_n 0, 1) := by decide +kernel
theorem dX7_takeFrom_68 : decode cX7_takeFrom 68 = .ok (.getfield 27, 3) := by decide +kernel
theorem dX7_takeFrom_71 : decode cX7_takeFrom 71 = .ok (.invokestatic 55, 3) := by decide +kernel
theorem dX7_takeFrom_74 : decode cX7_takeFrom 74 = .ok (.aload_n 1, 1) := by decide +kernel
theorem dX7_takeFrom_75 : decode cX7_takeFrom 75 = .ok (.getfield 30, 3) := by decide +kernel
theorem dX7_takeFrom_78 : decode cX7_takeFrom 78 = .ok (.aload_n 0, 1) := by decide +kernel
theorem dX7_takeFrom_79 : decode cX7_takeFrom 79 = .ok (.getfield 30, 3) := by decide +kernel
theorem dX7_takeFrom_82 : decode cX7_takeFrom 82 = .ok (.invokestatic 59, 3) := by decide +kernel
theorem dX7_takeFrom_85 : decode cX7_takeFrom 85 = .ok (.aload_n 1, 1) := by decide +kernel
theorem dX7_takeFrom_86 : decode cX7_takeFrom 86 = .ok (.getfield 34, 3) := by decide +kernel
theorem dX7_takeFrom_89 : decode cX7_takeFrom 89 = .ok (.aload_n 0, 1) := by decide +kernel
theorem dX7_takeFrom_90 : decode cX7_takeFrom 90 = .ok (.getfield 34, 3) := by decide +kernel
theorem dX7_takeFrom_93 : decode cX7_takeFrom 93 = .ok (.invokestatic 59, 3) := by decide +kernel
theorem dX7_takeFrom_96 : decode cX7_takeFrom 96 = .ok (.aload_n 1, 1) := by decide +kernel
theorem dX7_takeFrom_97 : decode cX7_takeFrom 97 = .ok (.getfield 37, 3) := by decide +kernel
theorem dX7_takeFrom_100 : decode cX7_takeFrom 100 = .ok (.aload_n 0, 1) := by decide +kernel
theorem dX7_takeFrom_101 : decode cX7_takeFrom 101 = .ok (.getfield 37, 3) := by decide +kernel
theorem dX7_takeFrom_104 : decode cX7_takeFrom 104 = .ok (.invokestatic 59, 3) := by decide +kernel
theorem dX7_takeFrom_107 : decode cX7_takeFrom 107 = .ok (.return_, 1) := by decide +kernel
theorem dX8_init_0 : decode cX8_init 0 = .ok (.aload_n 0, 1) := by decide +kernel
theorem dX8_init_1 : decode cX8_init 1 = .ok (.invokespecial 3, 3) := by decide +kernel
theorem dX8_init_4 : decode cX8_init 4 = .ok (.aload_n 0, 1) := by decide +kernel
theorem dX8_init_5 : decode cX8_init 5 = .ok (.new 9, 3) := by decide +kernel
theorem dX8_init_8 : decode cX8_init 8 = .ok (.dup, 1) := by decide +kernel
theorem dX8_init_9 : decode cX8_init 9 = .ok (.bipush 16, 2) := by decide +kernel
theorem dX8_init_11 : decode cX8_init 11 = .ok (.bipush 64, 2) := by decide +kernel
theorem dX8_init_13 : decode cX8_init 13 = .ok (.invokespecial 11, 3) := by decide +kernel
theorem dX8_init_16 : decode cX8_init 16 = .ok (.putfield 14, 3) := by decide +kernel
theorem dX8_init_19 : decode cX8_init 19 = .ok (.aload_n 0, 1) := by decide +kernel
theorem dX8_init_20 : decode cX8_init 20 = .ok (.aload_n 1, 1) := by decide +kernel
theorem dX8_init_21 : decode cX8_init 21 = .ok (.putfield 20, 3) := by decide +kernel
theorem dX8_init_24 : decode cX8_init 24 = .ok (.return_, 1) := by decide +kernel
theorem dX8_take_0 : decode cX8_take 0 = .ok (.aload_n 0, 1) := by decide +kernel
theorem dX8_take_1 : decode cX8_take 1 = .ok (.iload_n 1, 1) := by decide +kernel
theorem dX8_take_2 : decode cX8_take 2 = .ok (.putfield 24, 3) := by decide +kernel
theorem dX8_take_5 : decode cX8_take 5 = .ok (.aload_n 0, 1) := by decide +kernel
theorem dX8_take_6 : decode cX8_take 6 = .ok (.iconst 0, 1) := by decide +kernel
theorem dX8_take_7 : decode cX8_take 7 = .ok (.putfield 28, 3) := by decide +kernel
theorem dX8_take_10 : decode cX8_take 10 = .ok (.aload_n 0, 1) := by decide +kernel
theorem dX8_take_11 : decode cX8_take 11 = .ok (.iconst 0, 1) := by decide +kernel
theorem dX8_take_12 : decode cX8_take 12 = .ok (.putfield 32, 3) := by decide +kernel
theorem dX8_take_15 : decode cX8_take 15 = .ok (.aload_n 0, 1) := by decide +kernel
theorem dX8_take_16 : decode cX8_take 16 = .ok (.iconst 0, 1) := by decide +kernel
theorem dX8_take_17 : decode cX8_take 17 = .ok (.putfield 35, 3) := by decide +kernel
theorem dX8_take_20 : decode cX8_take 20 = .ok (.aload_n 0, 1) := by decide +kernel
theorem dX8_take_21 : decode cX8_take 21 = .ok (.iconst 0, 1) := by decide +kernel
theorem dX8_take_22 : decode cX8_take 22 = .ok (.putfield 38, 3) := by decide +kernel
theorem dX8_take_25 : decode cX8_take 25 = .ok (.aload_n 0, 1) := by decide +kernel
theorem dX8_take_26 : decode cX8_take 26 = .ok (.iconst (-1), 1) := by decide +kernel
theorem dX8_take_27 : decode cX8_take 27 = .ok (.putfield 41, 3) := by decide +kernel
theorem dX8_take_30 : decode cX8_take 30 = .ok (.aload_n 0, 1) := by decide +kernel
theorem dX8_take_31 : decode cX8_take 31 = .ok (.invokevirtual 44, 3) := by decide +kernel
theorem dX8_take_34 : decode cX8_take 34 = .ok (.iconst 1, 1) := by decide +kernel
theorem dX8_take_35 : decode cX8_take 35 = .ok (.istore_n 2, 1) := by decide +kernel
theorem dX8_take_36 : decode cX8_take 36 = .ok (.iconst 0, 1) := by decide +kernel
theorem dX8_take_37 : decode cX8_take 37 = .ok (.istore_n 3, 1) := by decide +kernel
theorem dX8_take_38 : decode cX8_take 38 = .ok (.iload_n 3, 1) := by decide +kernel
theorem dX8_take_39 : decode cX8_take 39 = .ok (.sipush 500, 3) := by decide +kernel
theorem dX8_take_42 : decode cX8_take 42 = .ok (.if_icmp .gt 25, 3) := by decide +kernel
theorem dX8_take_45 : decode cX8_take 45 = .ok (.iload_n 2, 1) := by decide +kernel
theorem dX8_take_46 : decode cX8_take 46 = .ok (.ifCond .eq 21, 3) := by decide +kernel
theorem dX8_take_49 : decode cX8_take 49 = .ok (.aload_n 0, 1) := by decide +kernel
theorem dX8_take_50 : decode cX8_take 50 = .ok (.getfield 47, 3) := by decide +kernel
theorem dX8_take_53 : decode cX8_take 53 = .ok (.ifCond .eq 14, 3) := by decide +kernel
theorem dX8_take_56 : decode cX8_take 56 = .ok (.aload_n 0, 1) := by decide +kernel
theorem dX8_take_57 : decode cX8_take 57 = .ok (.invokevirtual 50, 3) := by decide +kernel
theorem dX8_take_60 : decode cX8_take 60 = .ok (.istore_n 2, 1) := by decide +kernel
theorem dX8_take_61 : decode cX8_take 61 = .ok (.iinc 3 1, 3) := by decide +kernel
theorem dX8_take_64 : decode cX8_take 64 = .ok (.goto (-26), 3) := by decide +kernel
theorem dX8_take_67 : decode cX8_take 67 = .ok (.aload_n 0, 1) := by decide +kernel
theorem dX8_take_68 : decode cX8_take 68 = .ok (.getfield 38, 3) := by decide +kernel
theorem dX8_take_71 : decode cX8_take 71 = .ok (.ifCond .ne 10, 3) := by decide +kernel
theorem dX8_take_74 : decode cX8_take 74 = .ok (.aload_n 0, 1) := by decide +kernel
theorem dX8_take_75 : decode cX8_take 75 = .ok (.invokevirtual 54, 3) := by decide +kernel
theorem dX8_take_78 : decode cX8_take 78 = .ok (.goto 4, 3) := by decide +kernel
theorem dX8_take_81 : decode cX8_take 81 = .ok (.aconst_null, 1) := by decide +kernel
theorem dX8_take_82 : decode cX8_take 82 = .ok (.areturn, 1) := by decide +kernel
theorem dX8_fairCopy_0 : decode cX8_fairCopy 0 = .ok (.new 9, 3) := by decide +kernel
theorem dX8_fairCopy_3 : decode cX8_fairCopy 3 = .ok (.dup, 1) := by decide +kernel
theorem dX8_fairCopy_4 : decode cX8_fairCopy 4 = .ok (.aload_n 0, 1) := by decide +kernel
theorem dX8_fairCopy_5 : decode cX8_fairCopy 5 = .ok (.getfield 32, 3) := by decide +kernel
theorem dX8_fairCopy_8 : decode cX8_fairCopy 8 = .ok (.aload_n 0, 1) := by decide +kernel
theorem dX8_fairCopy_9 : decode cX8_fairCopy 9 = .ok (.getfield 35, 3) := by decide +kernel
theorem dX8_fairCopy_12 : decode cX8_fairCopy 12 = .ok (.invokespecial 11, 3) := by decide +kernel
theorem dX8_fairCopy_15 : decode cX8_fairCopy 15 = .ok (.astore_n 1, 1) := by decide +kernel
theorem dX8_fairCopy_16 : decode cX8_fairCopy 16 = .ok (.aload_n 0, 1) := by decide +kernel
theorem dX8_fairCopy_17 : decode cX8_fairCopy 17 = .ok (.getfield 14, 3) := by decide +kernel
theorem dX8_fairCopy_20 : decode cX8_fairCopy 20 = .ok (.getfield 58, 3) := by decide +kernel
theorem dX8_fairCopy_23 : decode cX8_fairCopy 23 = .ok (.aload_n 1, 1) := by decide +kernel
theorem dX8_fairCopy_24 : decode cX8_fairCopy 24 = .ok (.getfield 58, 3) := by decide +kernel
theorem dX8_fairCopy_27 : decode cX8_fairCopy 27 = .ok (.invokestatic 62, 3) := by decide +kernel
theorem dX8_fairCopy_30 : decode cX8_fairCopy 30 = .ok (.aload_n 0, 1) := by decide +kernel
theorem dX8_fairCopy_31 : decode cX8_fairCopy 31 = .ok (.getfield 14, 3) := by decide +kernel
theorem dX8_fairCopy_34 : decode cX8_fairCopy 34 = .ok (.getfield 66, 3) := by decide +kernel
theorem dX8_fairCopy_37 : decode cX8_fairCopy 37 = .ok (.aload_n 1, 1) := by decide +kernel
theorem dX8_fairCopy_38 : decode cX8_fairCopy 38 = .ok (.getfield 66, 3) := by decide +kernel
theorem dX8_fairCopy_41 : decode cX8_fairCopy 41 = .ok (.invokestatic 62, 3) := by decide +kernel
theorem dX8_fairCopy_44 : decode cX8_fairCopy 44 = .ok (.aload_n 0, 1) := by decide +kernel
theorem dX8_fairCopy_45 : decode cX8_fairCopy 45 = .ok (.getfield 14, 3) := by decide +kernel
theorem dX8_fairCopy_48 : decode cX8_fairCopy 48 = .ok (.getfield 69, 3) := by decide +kernel
theorem dX8_fairCopy_51 : decode cX8_fairCopy 51 = .ok (.aload_n 1, 1) := by decide +kernel
theorem dX8_fairCopy_52 : decode cX8_fairCopy 52 = .ok (.getfield 69, 3) := by decide +kernel
theorem dX8_fairCopy_55 : decode cX8_fairCopy 55 = .ok (.invokestatic 62, 3) := by decide +kernel
theorem dX8_fairCopy_58 : decode cX8_fairCopy 58 = .ok (.aload_n 0, 1) := by decide +kernel
theorem dX8_fairCopy_59 : decode cX8_fairCopy 59 = .ok (.getfield 14, 3) := by decide +kernel
theorem dX8_fairCopy_62 : decode cX8_fairCopy 62 = .ok (.getfield 72, 3) := by decide +kernel
theorem dX8_fairCopy_65 : decode cX8_fairCopy 65 = .ok (.aload_n 1, 1) := by decide +kernel
theorem dX8_fairCopy_66 : decode cX8_fairCopy 66 = .ok (.getfield 72, 3) := by decide +kernel
theorem dX8_fairCopy_69 : decode cX8_fairCopy 69 = .ok (.invokestatic 62, 3) := by decide +kernel
theorem dX8_fairCopy_72 : decode cX8_fairCopy 72 = .ok (.aload_n 0, 1) := by decide +kernel
theorem dX8_fairCopy_73 : decode cX8_fairCopy 73 = .ok (.getfield 14, 3) := by decide +kernel
theorem dX8_fairCopy_76 : decode cX8_fairCopy 76 = .ok (.getfield 75, 3) := by decide +kernel
theorem dX8_fairCopy_79 : decode cX8_fairCopy 79 = .ok (.aload_n 1, 1) := by decide +kernel
theorem dX8_fairCopy_80 : decode cX8_fairCopy 80 = .ok (.getfield 75, 3) := by decide +kernel
theorem dX8_fairCopy_83 : decode cX8_fairCopy 83 = .ok (.invokestatic 62, 3) := by decide +kernel
theorem dX8_fairCopy_86 : decode cX8_fairCopy 86 = .ok (.aload_n 0, 1) := by decide +kernel
theorem dX8_fairCopy_87 : decode cX8_fairCopy 87 = .ok (.getfield 14, 3) := by decide +kernel
theorem dX8_fairCopy_90 : decode cX8_fairCopy 90 = .ok (.getfield 78, 3) := by decide +kernel
theorem dX8_fairCopy_93 : decode cX8_fairCopy 93 = .ok (.aload_n 1, 1) := by decide +kernel
theorem dX8_fairCopy_94 : decode cX8_fairCopy 94 = .ok (.getfield 78, 3) := by decide +kernel
theorem dX8_fairCopy_97 : decode cX8_fairCopy 97 = .ok (.invokestatic 62, 3) := by decide +kernel
theorem dX8_fairCopy_100 : decode cX8_fairCopy 100 = .ok (.aload_n 0, 1) := by decide +kernel
theorem dX8_fairCopy_101 : decode cX8_fairCopy 101 = .ok (.getfield 14, 3) := by decide +kernel
theorem dX8_fairCopy_104 : decode cX8_fairCopy 104 = .ok (.getfield 81, 3) := by decide +kernel
theorem dX8_fairCopy_107 : decode cX8_fairCopy 107 = .ok (.aload_n 1, 1) := by decide +kernel
theorem dX8_fairCopy_108 : decode cX8_fairCopy 108 = .ok (.getfield 81, 3) := by decide +kernel
theorem dX8_fairCopy_111 : decode cX8_fairCopy 111 = .ok (.invokestatic 85, 3) := by decide +kernel
theorem dX8_fairCopy_114 : decode cX8_fairCopy 114 = .ok (.aload_n 1, 1) := by decide +kernel
theorem dX8_fairCopy_115 : decode cX8_fairCopy 115 = .ok (.areturn, 1) := by decide +kernel
theorem dX8_readLine_0 : decode cX8_readLine 0 = .ok (.aload_n 0, 1) := by decide +kernel
theorem dX8_readLine_1 : decode cX8_readLine 1 = .ok (.iconst 0, 1) := by decide +kernel
theorem dX8_readLine_2 : decode cX8_readLine 2 = .ok (.putfield 89, 3) := by decide +kernel
theorem dX8_readLine_5 : decode cX8_readLine 5 = .ok (.aload_n 0, 1) := by decide +kernel
theorem dX8_readLine_6 : decode cX8_readLine 6 = .ok (.getfield 32, 3) := by decide +kernel
theorem dX8_readLine_9 : decode cX8_readLine 9 = .ok (.bipush 16, 2) := by decide +kernel
theorem dX8_readLine_11 : decode cX8_readLine 11 = .ok (.if_icmp .lt 8, 3) := by decide +kernel
theorem dX8_readLine_14 : decode cX8_readLine 14 = .ok (.aload_n 0, 1) := by decide +kernel
theorem dX8_readLine_15 : decode cX8_readLine 15 = .ok (.iconst 3, 1) := by decide +kernel
theorem dX8_readLine_16 : decode cX8_readLine 16 = .ok (.invokevirtual 92, 3) := by decide +kernel
theorem dX8_readLine_19 : decode cX8_readLine 19 = .ok (.aload_n 0, 1) := by decide +kernel
theorem dX8_readLine_20 : decode cX8_readLine 20 = .ok (.ldc 96, 2) := by decide +kernel
theorem dX8_readLine_22 : decode cX8_readLine 22 = .ok (.invokevirtual 98, 3) := by decide +kernel
theorem dX8_readLine_25 : decode cX8_readLine 25 = .ok (.ifCond .eq 12, 3) := by decide +kernel
theorem dX8_readLine_28 : decode cX8_readLine 28 = .ok (.aload_n 0, 1) := by decide +kernel
theorem dX8_readLine_29 : decode cX8_readLine 29 = .ok (.invokevirtual 102, 3) := by decide +kernel
theorem dX8_readLine_32 : decode cX8_readLine 32 = .ok (.ifCond .ne 5, 3) := by decide +kernel
theorem dX8_readLine_35 : decode cX8_readLine 35 = .ok (.iconst 0, 1) := by decide +kernel
theorem dX8_readLine_36 : decode cX8_readLine 36 = .ok (.ireturn, 1) := by decide +kernel
theorem dX8_readLine_37 : decode cX8_readLine 37 = .ok (.aload_n 0, 1) := by decide +kernel
theorem dX8_readLine_38 : decode cX8_readLine 38 = .ok (.invokevirtual 105, 3) := by decide +kernel
theorem dX8_readLine_41 : decode cX8_readLine 41 = .ok (.ifCond .eq 16, 3) := by decide +kernel
theorem dX8_readLine_44 : decode cX8_readLine 44 = .ok (.aload_n 0, 1) := by decide +kernel
theorem dX8_readLine_45 : decode cX8_readLine 45 = .ok (.bipush 59, 2) := by decide +kernel
theorem dX8_readLine_47 : decode cX8_readLine 47 = .ok (.invokevirtual 108, 3) := by decide +kernel
theorem dX8_readLine_50 : decode cX8_readLine 50 = .ok (.ifCond .eq 7, 3) := by decide +kernel
theorem dX8_readLine_53 : decode cX8_readLine 53 = .ok (.iconst 1, 1) := by decide +kernel
theorem dX8_readLine_54 : decode cX8_readLine 54 = .ok (.goto 4, 3) := by decide +kernel
theorem dX8_readLine_57 : decode cX8_readLine 57 = .ok (.iconst 0, 1) := by decide +kernel
theorem dX8_readLine_58 : decode cX8_readLine 58 = .ok (.ireturn, 1) := by decide +kernel
theorem dX8_readTests_0 : decode cX8_readTests 0 = .ok (.iconst 1, 1) := by decide +kernel
theorem dX8_readTests_1 : decode cX8_readTests 1 = .ok (.istore_n 1, 1) := by decide +kernel
theorem dX8_readTests_2 : decode cX8_readTests 2 = .ok (.iconst 0, 1) := by decide +kernel
theorem dX8_readTests_3 : decode cX8_readTests 3 = .ok (.istore_n 2, 1) := by decide +kernel
theorem dX8_readTests_4 : decode cX8_readTests 4 = .ok (.iload_n 2, 1) := by decide +kernel
theorem dX8_readTests_5 : decode cX8_readTests 5 = .ok (.sipush 500, 3) := by decide +kernel
theorem dX8_readTests_8 : decode cX8_readTests 8 = .ok (.if_icmp .gt 33, 3) := by decide +kernel
theorem dX8_readTests_11 : decode cX8_readTests 11 = .ok (.iload_n 1, 1) := by decide +kernel
theorem dX8_readTests_12 : decode cX8_readTests 12 = .ok (.ifCond .eq 29, 3) := by decide +kernel
theorem dX8_readTests_15 : decode cX8_readTests 15 = .ok (.aload_n 0, 1) := by decide +kernel
theorem dX8_readTests_16 : decode cX8_readTests 16 = .ok (.invokevirtual 44, 3) := by decide +kernel
theorem dX8_readTests_19 : decode cX8_readTests 19 = .ok (.aload_n 0, 1) := by decide +kernel
theorem dX8_readTests_20 : decode cX8_readTests 20 = .ok (.invokevirtual 112, 3) := by decide +kernel
theorem dX8_readTests_23 : decode cX8_readTests 23 = .ok (.ifCond .ne 5, 3) := by decide +kernel
theorem dX8_readTests_26 : decode cX8_readTests 26 = .ok (.iconst 0, 1) := by decide +kernel
theorem dX8_readTests_27 : decode cX8_readTests 27 = .ok (.ireturn, 1) := by decide +kernel
theorem dX8_readTests_28 : decode cX8_readTests 28 = .ok (.aload_n 0, 1) := by decide +kernel
theorem dX8_readTests_29 : decode cX8_readTests 29 = .ok (.ldc 115, 2) := by decide +kernel
theorem dX8_readTests_31 : decode cX8_readTests 31 = .ok (.invokevirtual 98, 3) := by decide +kernel
theorem dX8_readTests_34 : decode cX8_readTests 34 = .ok (.istore_n 1, 1) := by decide +kernel
theorem dX8_readTests_35 : decode cX8_readTests 35 = .ok (.iinc 2 1, 3) := by decide +kernel
theorem dX8_readTests_38 : decode cX8_readTests 38 = .ok (.goto (-34), 3) := by decide +kernel
theorem dX8_readTests_41 : decode cX8_readTests 41 = .ok (.aload_n 0, 1) := by decide +kernel
theorem dX8_readTests_42 : decode cX8_readTests 42 = .ok (.bipush 58, 2) := by decide +kernel
theorem dX8_readTests_44 : decode cX8_readTests 44 = .ok (.invokevirtual 108, 3) := by decide +kernel
theorem dX8_readTests_47 : decode cX8_readTests 47 = .ok (.ireturn, 1) := by decide +kernel
theorem dX8_readTest_0 : decode cX8_readTest 0 = .ok (.aload_n 0, 1) := by decide +kernel
theorem dX8_readTest_1 : decode cX8_readTest 1 = .ok (.getfield 89, 3) := by decide +kernel
theorem dX8_readTest_4 : decode cX8_readTest 4 = .ok (.iconst 4, 1) := by decide +kernel
theorem dX8_readTest_5 : decode cX8_readTest 5 = .ok (.if_icmp .lt 8, 3) := by decide +kernel
theorem dX8_readTest_8 : decode cX8_readTest 8 = .ok (.aload_n 0, 1) := by decide +kernel
theorem dX8_readTest_9 : decode cX8_readTest 9 = .ok (.iconst 3, 1) := by decide +kernel
theorem dX8_readTest_10 : decode cX8_readTest 10 = .ok (.invokevirtual 92, 3) := by decide +kernel
theorem dX8_readTest_13 : decode cX8_readTest 13 = .ok (.aload_n 0, 1) := by decide +kernel
theorem dX8_readTest_14 : decode cX8_readTest 14 = .ok (.ldc 117, 2) := by decide +kernel
theorem dX8_readTest_16 : decode cX8_readTest 16 = .ok (.invokevirtual 98, 3) := by decide +kernel
theorem dX8_readTest_19 : decode cX8_readTest 19 = .ok (.istore_n 1, 1) := by decide +kernel
theorem dX8_readTest_20 : decode cX8_readTest 20 = .ok (.iload_n 1, 1) := by decide +kernel
theorem dX8_readTest_21 : decode cX8_readTest 21 = .ok (.ifCond .eq 7, 3) := by decide +kernel
theorem dX8_readTest_24 : decode cX8_readTest 24 = .ok (.aload_n 0, 1) := by decide +kernel
theorem dX8_readTest_25 : decode cX8_readTest 25 = .ok (.invokevirtual 44, 3) := by decide +kernel
theorem dX8_readTest_28 : decode cX8_readTest 28 = .ok (.aload_n 0, 1) := by decide +kernel
theorem dX8_readTest_29 : decode cX8_readTest 29 = .ok (.invokevirtual 118, 3) := by decide +kernel
theorem dX8_readTest_32 : decode cX8_readTest 32 = .ok (.istore_n 2, 1) := by decide +kernel
theorem dX8_readTest_33 : decode cX8_readTest 33 = .ok (.iload_n 2, 1) := by decide +kernel
theorem dX8_readTest_34 : decode cX8_readTest 34 = .ok (.iconst (-1), 1) := by decide +kernel
theorem dX8_readTest_35 : decode cX8_readTest 35 = .ok (.if_icmp .ne 8, 3) := by decide +kernel
theorem dX8_readTest_38 : decode cX8_readTest 38 = .ok (.aload_n 0, 1) := by decide +kernel
theorem dX8_readTest_39 : decode cX8_readTest 39 = .ok (.invokevirtual 122, 3) := by decide +kernel
theorem dX8_readTest_42 : decode cX8_readTest 42 = .ok (.ireturn, 1) := by decide +kernel
theorem dX8_readTest_43 : decode cX8_readTest 43 = .ok (.aload_n 0, 1) := by decide +kernel
theorem dX8_readTest_44 : decode cX8_readTest 44 = .ok (.invokevirtual 44, 3) := by decide +kernel
theorem dX8_readTest_47 : decode cX8_readTest 47 = .ok (.iload_n 2, 1) := by decide +kernel
theorem dX8_readTest_48 : decode cX8_readTest 48 = .ok (.iconst 5, 1) := by decide +kernel
theorem dX8_readTest_49 : decode cX8_readTest 49 = .ok (.if_icmp .ge 13, 3) := by decide +kernel
theorem dX8_readTest_52 : decode cX8_readTest 52 = .ok (.aload_n 0, 1) := by decide +kernel
theorem dX8_readTest_53 : decode cX8_readTest 53 = .ok (.iload_n 2, 1) := by decide +kernel
theorem dX8_readTest_54 : decode cX8_readTest 54 = .ok (.iconst 0, 1) := by decide +kernel
theorem dX8_readTest_55 : decode cX8_readTest 55 = .ok (.iconst 0, 1) := by decide +kernel
theorem dX8_readTest_56 : decode cX8_readTest 56 = .ok (.iload_n 1, 1) := by decide +kernel
theorem dX8_readTest_57 : decode cX8_readTest 57 = .ok (.invokevirtual 125, 3) := by decide +kernel
theorem dX8_readTest_60 : decode cX8_readTest 60 = .ok (.iconst 1, 1) := by decide +kernel
theorem dX8_readTest_61 : decode cX8_readTest 61 = .ok (.ireturn, 1) := by decide +kernel
theorem dX8_readTest_62 : decode cX8_readTest 62 = .ok (.aload_n 0, 1) := by decide +kernel
theorem dX8_readTest_63 : decode cX8_readTest 63 = .ok (.bipush 60, 2) := by decide +kernel
theorem dX8_readTest_65 : decode cX8_readTest 65 = .ok (.invokevirtual 129, 3) := by decide +kernel
theorem dX8_readTest_68 : decode cX8_readTest 68 = .ok (.ifCond .ne 26, 3) := by decide +kernel
theorem dX8_readTest_71 : decode cX8_readTest 71 = .ok (.aload_n 0, 1) := by decide +kernel
theorem dX8_readTest_72 : decode cX8_readTest 72 = .ok (.bipush 62, 2) := by decide +kernel
theorem dX8_readTest_74 : decode cX8_readTest 74 = .ok (.invokevirtual 129, 3) := by decide +kernel
theorem dX8_readTest_77 : decode cX8_readTest 77 = .ok (.ifCond .ne 17, 3) := by decide +kernel
theorem dX8_readTest_80 : decode cX8_readTest 80 = .ok (.aload_n 0, 1) := by decide +kernel
theorem dX8_readTest_81 : decode cX8_readTest 81 = .ok (.bipush 61, 2) := by decide +kernel
theorem dX8_readTest_83 : decode cX8_readTest 83 = .ok (.invokevirtual 129, 3) := by decide +kernel
theorem dX8_readTest_86 : decode cX8_readTest 86 = .ok (.ifCond .ne 8, 3) := by decide +kernel
theorem dX8_readTest_89 : decode cX8_readTest 89 = .ok (.aload_n 0, 1) := by decide +kernel
theorem dX8_readTest_90 : decode cX8_readTest 90 = .ok (.invokevirtual 122, 3) := by decide +kernel
theorem dX8_readTest_93 : decode cX8_readTest 93 = .ok (.ireturn, 1) := by decide +kernel
theorem dX8_readTest_94 : decode cX8_readTest 94 = .ok (.aload_n 0, 1) := by decide +kernel
theorem dX8_readTest_95 : decode cX8_readTest 95 = .ok (.getfield 20, 3) := by decide +kernel
theorem dX8_readTest_98 : decode cX8_readTest 98 = .ok (.getfield 132, 3) := by decide +kernel
theorem dX8_readTest_101 : decode cX8_readTest 101 = .ok (.aload_n 0, 1) := by decide +kernel
theorem dX8_readTest_102 : decode cX8_readTest 102 = .ok (.getfield 138, 3) := by decide +kernel
theorem dX8_readTest_105 : decode cX8_readTest 105 = .ok (.baload, 1) := by decide +kernel
theorem dX8_readTest_106 : decode cX8_readTest 106 = .ok (.istore_n 3, 1) := by decide +kernel
theorem dX8_readTest_107 : decode cX8_readTest 107 = .ok (.aload_n 0, 1) := by decide +kernel
theorem dX8_readTest_108 : decode cX8_readTest 108 = .ok (.invokevirtual 44, 3) := by decide +kernel
theorem dX8_readTest_111 : decode cX8_readTest 111 = .ok (.aload_n 0, 1) := by decide +kernel
theorem dX8_readTest_112 : decode cX8_readTest 112 = .ok (.getfield 47, 3) := by decide +kernel
theorem dX8_readTest_115 : decode cX8_readTest 115 = .ok (.iconst 2, 1) := by decide +kernel
theorem dX8_readTest_116 : decode cX8_readTest 116 = .ok (.if_icmp .eq 8, 3) := by decide +kernel
theorem dX8_readTest_119 : decode cX8_readTest 119 = .ok (.aload_n 0, 1) := by decide +kernel
theorem dX8_readTest_120 : decode cX8_readTest 120 = .ok (.invokevirtual 122, 3) := by decide +kernel
theorem dX8_readTest_123 : decode cX8_readTest 123 = .ok (.ireturn, 1) := by decide +kernel
theorem dX8_readTest_124 : decode cX8_readTest 124 = .ok (.aload_n 0, 1) := by decide +kernel
theorem dX8_readTest_125 : decode cX8_readTest 125 = .ok (.iload_n 2, 1) := by decide +kernel
theorem dX8_readTest_126 : decode cX8_readTest 126 = .ok (.iload_n 3, 1) := by decide +kernel
theorem dX8_readTest_127 : decode cX8_readTest 127 = .ok (.aload_n 0, 1) := by decide +kernel
theorem dX8_readTest_128 : decode cX8_readTest 128 = .ok (.getfield 141, 3) := by decide +kernel
theorem dX8_readTest_131 : decode cX8_readTest 131 = .ok (.iload_n 1, 1) := by decide +kernel
theorem dX8_readTest_132 : decode cX8_readTest 132 = .ok (.invokevirtual 125, 3) := by decide +kernel
theorem dX8_readTest_135 : decode cX8_readTest 135 = .ok (.aload_n 0, 1) := by decide +kernel
theorem dX8_readTest_136 : decode cX8_readTest 136 = .ok (.invokevirtual 44, 3) := by decide +kernel
theorem dX8_readTest_139 : decode cX8_readTest 139 = .ok (.iconst 1, 1) := by decide +kernel
theorem dX8_readTest_140 : decode cX8_readTest 140 = .ok (.ireturn, 1) := by decide +kernel
theorem dX8_keepTest_0 : decode cX8_keepTest 0 = .ok (.aload_n 0, 1) := by decide +kernel
theorem dX8_keepTest_1 : decode cX8_keepTest 1 = .ok (.getfield 38, 3) := by decide +kernel
theorem dX8_keepTest_4 : decode cX8_keepTest 4 = .ok (.ifCond .ne 76, 3) := by decide +kernel
theorem dX8_keepTest_7 : decode cX8_keepTest 7 = .ok (.aload_n 0, 1) := by decide +kernel
theorem dX8_keepTest_8 : decode cX8_keepTest 8 = .ok (.getfield 14, 3) := by decide +kernel
theorem dX8_keepTest_11 : decode cX8_keepTest 11 = .ok (.getfield 72, 3) := by decide +kernel
theorem dX8_keepTest_14 : decode cX8_keepTest 14 = .ok (.aload_n 0, 1) := by decide +kernel
theorem dX8_keepTest_15 : decode cX8_keepTest 15 = .ok (.getfield 35, 3) := by decide +kernel
theorem dX8_keepTest_18 : decode cX8_keepTest 18 = .ok (.iload_n 1, 1) := by decide +kernel
theorem dX8_keepTest_19 : decode cX8_keepTest 19 = .ok (.iastore, 1) := by decide +kernel
theorem dX8_keepTest_20 : decode cX8_keepTest 20 = .ok (.aload_n 0, 1) := by decide +kernel
theorem dX8_keepTest_21 : decode cX8_keepTest 21 = .ok (.getfield 14, 3) := by decide +kernel
theorem dX8_keepTest_24 : decode cX8_keepTest 24 = .ok (.getfield 75, 3) := by decide +kernel
theorem dX8_keepTest_27 : decode cX8_keepTest 27 = .ok (.aload_n 0, 1) := by decide +kernel
theorem dX8_keepTest_28 : decode cX8_keepTest 28 = .ok (.getfield 35, 3) := by decide +kernel
theorem dX8_keepTest_31 : decode cX8_keepTest 31 = .ok (.iload_n 2, 1) := by decide +kernel
theorem dX8_keepTest_32 : decode cX8_keepTest 32 = .ok (.iastore, 1) := by decide +kernel
theorem dX8_keepTest_33 : decode cX8_keepTest 33 = .ok (.aload_n 0, 1) := by decide +kernel
theorem dX8_keepTest_34 : decode cX8_keepTest 34 = .ok (.getfield 14, 3) := by decide +kernel
theorem dX8_keepTest_37 : decode cX8_keepTest 37 = .ok (.getfield 78, 3) := by decide +kernel
theorem dX8_keepTest_40 : decode cX8_keepTest 40 = .ok (.aload_n 0, 1) := by decide +kernel
theorem dX8_keepTest_41 : decode cX8_keepTest 41 = .ok (.getfield 35, 3) := by decide +kernel
theorem dX8_keepTest_44 : decode cX8_keepTest 44 = .ok (.iload_n 3, 1) := by decide +kernel
theorem dX8_keepTest_45 : decode cX8_keepTest 45 = .ok (.iastore, 1) := by decide +kernel
theorem dX8_keepTest_46 : decode cX8_keepTest 46 = .ok (.aload_n 0, 1) := by decide +kernel
theorem dX8_keepTest_47 : decode cX8_keepTest 47 = .ok (.getfield 14, 3) := by decide +kernel
theorem dX8_keepTest_50 : decode cX8_keepTest 50 = .ok (.getfield 81, 3) := by decide +kernel
theorem dX8_keepTest_53 : decode cX8_keepTest 53 = .ok (.aload_n 0, 1) := by decide +kernel
theorem dX8_keepTest_54 : decode cX8_keepTest 54 = .ok (.getfield 35, 3) := by decide +kernel
theorem dX8_keepTest_57 : decode cX8_keepTest 57 = .ok (.iload 4, 2) := by decide +kernel
theorem dX8_keepTest_59 : decode cX8_keepTest 59 = .ok (.bastore, 1) := by decide +kernel
theorem dX8_keepTest_60 : decode cX8_keepTest 60 = .ok (.aload_n 0, 1) := by decide +kernel
theorem dX8_keepTest_61 : decode cX8_keepTest 61 = .ok (.dup, 1) := by decide +kernel
theorem dX8_keepTest_62 : decode cX8_keepTest 62 = .ok (.getfield 35, 3) := by decide +kernel
theorem dX8_keepTest_65 : decode cX8_keepTest 65 = .ok (.iconst 1, 1) := by decide +kernel
theorem dX8_keepTest_66 : decode cX8_keepTest 66 = .ok (.iadd, 1) := by decide +kernel
theorem dX8_keepTest_67 : decode cX8_keepTest 67 = .ok (.putfield 35, 3) := by decide +kernel
theorem dX8_keepTest_70 : decode cX8_keepTest 70 = .ok (.aload_n 0, 1) := by decide +kernel
theorem dX8_keepTest_71 : decode cX8_keepTest 71 = .ok (.dup, 1) := by decide +kernel
theorem dX8_keepTest_72 : decode cX8_keepTest 72 = .ok (.getfield 89, 3) := by decide +kernel
theorem dX8_keepTest_75 : decode cX8_keepTest 75 = .ok (.iconst 1, 1) := by decide +kernel
theorem dX8_keepTest_76 : decode cX8_keepTest 76 = .ok (.iadd, 1) := by decide +kernel
theorem dX8_keepTest_77 : decode cX8_keepTest 77 = .ok (.putfield 89, 3) := by decide +kernel
theorem dX8_keepTest_80 : decode cX8_keepTest 80 = .ok (.return_, 1) := by decide +kernel
theorem dX8_readAct_0 : decode cX8_readAct 0 = .ok (.aload_n 0, 1) := by decide +kernel
theorem dX8_readAct_1 : decode cX8_readAct 1 = .ok (.invokevirtual 144, 3) := by decide +kernel
theorem dX8_readAct_4 : decode cX8_readAct 4 = .ok (.istore_n 1, 1) := by decide +kernel
theorem dX8_readAct_5 : decode cX8_readAct 5 = .ok (.iload_n 1, 1) := by decide +kernel
theorem dX8_readAct_6 : decode cX8_readAct 6 = .ok (.iconst (-1), 1) := by decide +kernel
theorem dX8_readAct_7 : decode cX8_readAct 7 = .ok (.if_icmp .ne 8, 3) := by decide +kernel
theorem dX8_readAct_10 : decode cX8_readAct 10 = .ok (.aload_n 0, 1) := by decide +kernel
theorem dX8_readAct_11 : decode cX8_readAct 11 = .ok (.invokevirtual 122, 3) := by decide +kernel
theorem dX8_readAct_14 : decode cX8_readAct 14 = .ok (.ireturn, 1) := by decide +kernel
theorem dX8_readAct_15 : decode cX8_readAct 15 = .ok (.aload_n 0, 1) := by decide +kernel
theorem dX8_readAct_16 : decode cX8_readAct 16 = .ok (.invokevirtual 44, 3) := by decide +kernel
theorem dX8_readAct_19 : decode cX8_readAct 19 = .ok (.iconst 0, 1) := by decide +kernel
theorem dX8_readAct_20 : decode cX8_readAct 20 = .ok (.istore_n 2, 1) := by decide +kernel
theorem dX8_readAct_21 : decode cX8_readAct 21 = .ok (.iload_n 1, 1) := by decide +kernel
theorem dX8_readAct_22 : decode cX8_readAct 22 = .ok (.ifCond .eq 44, 3) := by decide +kernel
theorem dX8_readAct_25 : decode cX8_readAct 25 = .ok (.aload_n 0, 1) := by decide +kernel
theorem dX8_readAct_26 : decode cX8_readAct 26 = .ok (.getfield 47, 3) := by decide +kernel
theorem dX8_readAct_29 : decode cX8_readAct 29 = .ok (.iconst 2, 1) := by decide +kernel
theorem dX8_readAct_30 : decode cX8_readAct 30 = .ok (.if_icmp .eq 8, 3) := by decide +kernel
theorem dX8_readAct_33 : decode cX8_readAct 33 = .ok (.aload_n 0, 1) := by decide +kernel
theorem dX8_readAct_34 : decode cX8_readAct 34 = .ok (.invokevirtual 122, 3) := by decide +kernel
theorem dX8_readAct_37 : decode cX8_readAct 37 = .ok (.ireturn, 1) := by decide +kernel
theorem dX8_readAct_38 : decode cX8_readAct 38 = .ok (.iload_n 1, 1) := by decide +kernel
theorem dX8_readAct_39 : decode cX8_readAct 39 = .ok (.iconst 2, 1) := by decide +kernel
theorem dX8_readAct_40 : decode cX8_readAct 40 = .ok (.if_icmp .ne 17, 3) := by decide +kernel
theorem dX8_readAct_43 : decode cX8_readAct 43 = .ok (.aload_n 0, 1) := by decide +kernel
theorem dX8_readAct_44 : decode cX8_readAct 44 = .ok (.getfield 141, 3) := by decide +kernel
theorem dX8_readAct_47 : decode cX8_readAct 47 = .ok (.bipush 100, 2) := by decide +kernel
theorem dX8_readAct_49 : decode cX8_readAct 49 = .ok (.if_icmp .le 8, 3) := by decide +kernel
theorem dX8_readAct_52 : decode cX8_readAct 52 = .ok (.aload_n 0, 1) := by decide +kernel
theorem dX8_readAct_53 : decode cX8_readAct 53 = .ok (.iconst 2, 1) := by decide +kernel
theorem dX8_readAct_54 : decode cX8_readAct 54 = .ok (.invokevirtual 92, 3) := by decide +kernel
theorem dX8_readAct_57 : decode cX8_readAct 57 = .ok (.aload_n 0, 1) := by decide +kernel
theorem dX8_readAct_58 : decode cX8_readAct 58 = .ok (.getfield 141, 3) := by decide +kernel
theorem dX8_readAct_61 : decode cX8_readAct 61 = .ok (.istore_n 2, 1) := by decide +kernel
theorem dX8_readAct_62 : decode cX8_readAct 62 = .ok (.aload_n 0, 1) := by decide +kernel
theorem dX8_readAct_63 : decode cX8_readAct 63 = .ok (.invokevirtual 44, 3) := by decide +kernel
theorem dX8_readAct_66 : decode cX8_readAct 66 = .ok (.aload_n 0, 1) := by decide +kernel
theorem dX8_readAct_67 : decode cX8_readAct 67 = .ok (.iload_n 1, 1) := by decide +kernel
theorem dX8_readAct_68 : decode cX8_readAct 68 = .ok (.iload_n 2, 1) := by decide +kernel
theorem dX8_readAct_69 : decode cX8_readAct 69 = .ok (.invokevirtual 147, 3) := by decide +kernel
theorem dX8_readAct_72 : decode cX8_readAct 72 = .ok (.iconst 1, 1) := by decide +kernel
theorem dX8_readAct_73 : decode cX8_readAct 73 = .ok (.ireturn, 1) := by decide +kernel
theorem dX8_keepLine_0 : decode cX8_keepLine 0 = .ok (.aload_n 0, 1) := by decide +kernel
theorem dX8_keepLine_1 : decode cX8_keepLine 1 = .ok (.getfield 38, 3) := by decide +kernel
theorem dX8_keepLine_4 : decode cX8_keepLine 4 = .ok (.ifCond .ne 55, 3) := by decide +kernel
theorem dX8_keepLine_7 : decode cX8_keepLine 7 = .ok (.aload_n 0, 1) := by decide +kernel
theorem dX8_keepLine_8 : decode cX8_keepLine 8 = .ok (.getfield 14, 3) := by decide +kernel
theorem dX8_keepLine_11 : decode cX8_keepLine 11 = .ok (.getfield 58, 3) := by decide +kernel
theorem dX8_keepLine_14 : decode cX8_keepLine 14 = .ok (.aload_n 0, 1) := by decide +kernel
theorem dX8_keepLine_15 : decode cX8_keepLine 15 = .ok (.getfield 32, 3) := by decide +kernel
theorem dX8_keepLine_18 : decode cX8_keepLine 18 = .ok (.iload_n 1, 1) := by decide +kernel
theorem dX8_keepLine_19 : decode cX8_keepLine 19 = .ok (.iastore, 1) := by decide +kernel
theorem dX8_keepLine_20 : decode cX8_keepLine 20 = .ok (.aload_n 0, 1) := by decide +kernel
theorem dX8_keepLine_21 : decode cX8_keepLine 21 = .ok (.getfield 14, 3) := by decide +kernel
theorem dX8_keepLine_24 : decode cX8_keepLine 24 = .ok (.getfield 66, 3) := by decide +kernel
theorem dX8_keepLine_27 : decode cX8_keepLine 27 = .ok (.aload_n 0, 1) := by decide +kernel
theorem dX8_keepLine_28 : decode cX8_keepLine 28 = .ok (.getfield 32, 3) := by decide +kernel
theorem dX8_keepLine_31 : decode cX8_keepLine 31 = .ok (.iload_n 2, 1) := by decide +kernel
theorem dX8_keepLine_32 : decode cX8_keepLine 32 = .ok (.iastore, 1) := by decide +kernel
theorem dX8_keepLine_33 : decode cX8_keepLine 33 = .ok (.aload_n 0, 1) := by decide +kernel
theorem dX8_keepLine_34 : decode cX8_keepLine 34 = .ok (.dup, 1) := by decide +kernel
theorem dX8_keepLine_35 : decode cX8_keepLine 35 = .ok (.getfield 32, 3) := by decide +kernel
theorem dX8_keepLine_38 : decode cX8_keepLine 38 = .ok (.iconst 1, 1) := by decide +kernel
theorem dX8_keepLine_39 : decode cX8_keepLine 39 = .ok (.iadd, 1) := by decide +kernel
theorem dX8_keepLine_40 : decode cX8_keepLine 40 = .ok (.putfield 32, 3) := by decide +kernel
theorem dX8_keepLine_43 : decode cX8_keepLine 43 = .ok (.aload_n 0, 1) := by decide +kernel
theorem dX8_keepLine_44 : decode cX8_keepLine 44 = .ok (.getfield 14, 3) := by decide +kernel
theorem dX8_keepLine_47 : decode cX8_keepLine 47 = .ok (.getfield 69, 3) := by decide +kernel
theorem dX8_keepLine_50 : decode cX8_keepLine 50 = .ok (.aload_n 0, 1) := by decide +kernel
theorem dX8_keepLine_51 : decode cX8_keepLine 51 = .ok (.getfield 32, 3) := by decide +kernel
theorem dX8_keepLine_54 : decode cX8_keepLine 54 = .ok (.aload_n 0, 1) := by decide +kernel
theorem dX8_keepLine_55 : decode cX8_keepLine 55 = .ok (.getfield 35, 3) := by decide +kernel
theorem dX8_keepLine_58 : decode cX8_keepLine 58 = .ok (.iastore, 1) := by decide +kernel
theorem dX8_keepLine_59 : decode cX8_keepLine 59 = .ok (.return_, 1) := by decide +kernel
theorem dX8_takeSign_0 : decode cX8_takeSign 0 = .ok (.aload_n 0, 1) := by decide +kernel
theorem dX8_takeSign_1 : decode cX8_takeSign 1 = .ok (.iload_n 1, 1) := by decide +kernel
theorem dX8_takeSign_2 : decode cX8_takeSign 2 = .ok (.invokevirtual 129, 3) := by decide +kernel
theorem dX8_takeSign_5 : decode cX8_takeSign 5 = .ok (.ifCond .ne 8, 3) := by decide +kernel
theorem dX8_takeSign_8 : decode cX8_takeSign 8 = .ok (.aload_n 0, 1) := by decide +kernel
theorem dX8_takeSign_9 : decode cX8_takeSign 9 = .ok (.invokevirtual 122, 3) := by decide +kernel
theorem dX8_takeSign_12 : decode cX8_takeSign 12 = .ok (.ireturn, 1) := by decide +kernel
theorem dX8_takeSign_13 : decode cX8_takeSign 13 = .ok (.aload_n 0, 1) := by decide +kernel
theorem dX8_takeSign_14 : decode cX8_takeSign 14 = .ok (.invokevirtual 44, 3) := by decide +kernel
theorem dX8_takeSign_17 : decode cX8_takeSign 17 = .ok (.iconst 1, 1) := by decide +kernel
theorem dX8_takeSign_18 : decode cX8_takeSign 18 = .ok (.ireturn, 1) := by decide +kernel
theorem dX8_refuse_0 : decode cX8_refuse 0 = .ok (.aload_n 0, 1) := by decide +kernel
theorem dX8_refuse_1 : decode cX8_refuse 1 = .ok (.iconst 1, 1) := by decide +kernel
theorem dX8_refuse_2 : decode cX8_refuse 2 = .ok (.putfield 38, 3) := by decide +kernel
theorem dX8_refuse_5 : decode cX8_refuse 5 = .ok (.aload_n 0, 1) := by decide +kernel
theorem dX8_refuse_6 : decode cX8_refuse 6 = .ok (.aload_n 0, 1) := by decide +kernel
theorem dX8_refuse_7 : decode cX8_refuse 7 = .ok (.getfield 138, 3) := by decide +kernel
theorem dX8_refuse_10 : decode cX8_refuse 10 = .ok (.putfield 41, 3) := by decide +kernel
theorem dX8_refuse_13 : decode cX8_refuse 13 = .ok (.iconst 0, 1) := by decide +kernel
theorem dX8_refuse_14 : decode cX8_refuse 14 = .ok (.ireturn, 1) := by decide +kernel
theorem dX8_note_0 : decode cX8_note 0 = .ok (.aload_n 0, 1) := by decide +kernel
theorem dX8_note_1 : decode cX8_note 1 = .ok (.getfield 38, 3) := by decide +kernel
theorem dX8_note_4 : decode cX8_note 4 = .ok (.ifCond .ne 16, 3) := by decide +kernel
theorem dX8_note_7 : decode cX8_note 7 = .ok (.aload_n 0, 1) := by decide +kernel
theorem dX8_note_8 : decode cX8_note 8 = .ok (.iload_n 1, 1) := by decide +kernel
theorem dX8_note_9 : decode cX8_note 9 = .ok (.putfield 38, 3) := by decide +kernel
theorem dX8_note_12 : decode cX8_note 12 = .ok (.aload_n 0, 1) := by decide +kernel
theorem dX8_note_13 : decode cX8_note 13 = .ok (.aload_n 0, 1) := by decide +kernel
theorem dX8_note_14 : decode cX8_note 14 = .ok (.getfield 138, 3) := by decide +kernel
theorem dX8_note_17 : decode cX8_note 17 = .ok (.putfield 41, 3) := by decide +kernel
theorem dX8_note_20 : decode cX8_note 20 = .ok (.return_, 1) := by decide +kernel
theorem dX8_subjectAtHand_0 : decode cX8_subjectAtHand 0 = .ok (.aload_n 0, 1) := by decide +kernel
theorem dX8_subjectAtHand_1 : decode cX8_subjectAtHand 1 = .ok (.ldc 150, 2) := by decide +kernel
theorem dX8_subjectAtHand_3 : decode cX8_subjectAtHand 3 = .ok (.invokevirtual 98, 3) := by decide +kernel
theorem dX8_subjectAtHand_6 : decode cX8_subjectAtHand 6 = .ok (.ifCond .eq 5, 3) := by decide +kernel
theorem dX8_subjectAtHand_9 : decode cX8_subjectAtHand 9 = .ok (.iconst 0, 1) := by decide +kernel
theorem dX8_subjectAtHand_10 : decode cX8_subjectAtHand 10 = .ok (.ireturn, 1) := by decide +kernel
theorem dX8_subjectAtHand_11 : decode cX8_subjectAtHand 11 = .ok (.aload_n 0, 1) := by decide +kernel
theorem dX8_subjectAtHand_12 : decode cX8_subjectAtHand 12 = .ok (.ldc 152, 2) := by decide +kernel
theorem dX8_subjectAtHand_14 : decode cX8_subjectAtHand 14 = .ok (.invokevirtual 98, 3) := by decide +kernel
theorem dX8_subjectAtHand_17 : decode cX8_subjectAtHand 17 = .ok (.ifCond .eq 5, 3) := by decide +kernel
theorem dX8_subjectAtHand_20 : decode cX8_subjectAtHand 20 = .ok (.iconst 1, 1) := by decide +kernel
theorem dX8_subjectAtHand_21 : decode cX8_subjectAtHand 21 = .ok (.ireturn, 1) := by decide +kernel
theorem dX8_subjectAtHand_22 : decode cX8_subjectAtHand 22 = .ok (.aload_n 0, 1) := by decide +kernel
theorem dX8_subjectAtHand_23 : decode cX8_subjectAtHand 23 = .ok (.ldc 154, 2) := by decide +kernel
theorem dX8_subjectAtHand_25 : decode cX8_subjectAtHand 25 = .ok (.invokevirtual 98, 3) := by decide +kernel
theorem dX8_subjectAtHand_28 : decode cX8_subjectAtHand 28 = .ok (.ifCond .eq 5, 3) := by decide +kernel
theorem dX8_subjectAtHand_31 : decode cX8_subjectAtHand 31 = .ok (.iconst 2, 1) := by decide +kernel
theorem dX8_subjectAtHand_32 : decode cX8_subjectAtHand 32 = .ok (.ireturn, 1) := by decide +kernel
theorem dX8_subjectAtHand_33 : decode cX8_subjectAtHand 33 = .ok (.aload_n 0, 1) := by decide +kernel
theorem dX8_subjectAtHand_34 : decode cX8_subjectAtHand 34 = .ok (.ldc 156, 2) := by decide +kernel
theorem dX8_subjectAtHand_36 : decode cX8_subjectAtHand 36 = .ok (.invokevirtual 98, 3) := by decide +kernel
theorem dX8_subjectAtHand_39 : decode cX8_subjectAtHand 39 = .ok (.ifCond .eq 5, 3) := by decide +kernel
theorem dX8_subjectAtHand_42 : decode cX8_subjectAtHand 42 = .ok (.iconst 3, 1) := by decide +kernel
theorem dX8_subjectAtHand_43 : decode cX8_subjectAtHand 43 = .ok (.ireturn, 1) := by decide +kernel
theorem dX8_subjectAtHand_44 : decode cX8_subjectAtHand 44 = .ok (.aload_n 0, 1) := by decide +kernel
theorem dX8_subjectAtHand_45 : decode cX8_subjectAtHand 45 = .ok (.ldc 158, 2) := by decide +kernel
theorem dX8_subjectAtHand_47 : decode cX8_subjectAtHand 47 = .ok (.invokevirtual 98, 3) := by decide +kernel
theorem dX8_subjectAtHand_50 : decode cX8_subjectAtHand 50 = .ok (.ifCond .eq 5, 3) := by decide +kernel
theorem dX8_subjectAtHand_53 : decode cX8_subjectAtHand 53 = .ok (.iconst 4, 1) := by decide +kernel
theorem dX8_subjectAtHand_54 : decode cX8_subjectAtHand 54 = .ok (.ireturn, 1) := by decide +kernel
theorem dX8_subjectAtHand_55 : decode cX8_subjectAtHand 55 = .ok (.aload_n 0, 1) := by decide +kernel
theorem dX8_subjectAtHand_56 : decode cX8_subjectAtHand 56 = .ok (.ldc 160, 2) := by decide +kernel
theorem dX8_subjectAtHand_58 : decode cX8_subjectAtHand 58 = .ok (.invokevirtual 98, 3) := by decide +kernel
theorem dX8_subjectAtHand_61 : decode cX8_subjectAtHand 61 = .ok (.ifCond .eq 5, 3) := by decide +kernel
theorem dX8_subjectAtHand_64 : decode cX8_subjectAtHand 64 = .ok (.iconst 5, 1) := by decide +kernel
theorem dX8_subjectAtHand_65 : decode cX8_subjectAtHand 65 = .ok (.ireturn, 1) := by decide +kernel
theorem dX8_subjectAtHand_66 : decode cX8_subjectAtHand 66 = .ok (.aload_n 0, 1) := by decide +kernel
theorem dX8_subjectAtHand_67 : decode cX8_subjectAtHand 67 = .ok (.ldc 162, 2) := by decide +kernel
theorem dX8_subjectAtHand_69 : decode cX8_subjectAtHand 69 = .ok (.invokevirtual 98, 3) := by decide +kernel
theorem dX8_subjectAtHand_72 : decode cX8_subjectAtHand 72 = .ok (.ifCond .eq 6, 3) := by decide +kernel
theorem dX8_subjectAtHand_75 : decode cX8_subjectAtHand 75 = .ok (.bipush 6, 2) := by decide +kernel
theorem dX8_subjectAtHand_77 : decode cX8_subjectAtHand 77 = .ok (.ireturn, 1) := by decide +kernel
theorem dX8_subjectAtHand_78 : decode cX8_subjectAtHand 78 = .ok (.aload_n 0, 1) := by decide +kernel
theorem dX8_subjectAtHand_79 : decode cX8_subjectAtHand 79 = .ok (.ldc 164, 2) := by decide +kernel
theorem dX8_subjectAtHand_81 : decode cX8_subjectAtHand 81 = .ok (.invokevirtual 98, 3) := by decide +kernel
theorem dX8_subjectAtHand_84 : decode cX8_subjectAtHand 84 = .ok (.ifCond .eq 6, 3) := by decide +kernel
theorem dX8_subjectAtHand_87 : decode cX8_subjectAtHand 87 = .ok (.bipush 7, 2) := by decide +kernel
theorem dX8_subjectAtHand_89 : decode cX8_subjectAtHand 89 = .ok (.ireturn, 1) := by decide +kernel
theorem dX8_subjectAtHand_90 : decode cX8_subjectAtHand 90 = .ok (.aload_n 0, 1) := by decide +kernel
theorem dX8_subjectAtHand_91 : decode cX8_subjectAtHand 91 = .ok (.ldc 166, 2) := by decide +kernel
theorem dX8_subjectAtHand_93 : decode cX8_subjectAtHand 93 = .ok (.invokevirtual 98, 3) := by decide +kernel
theorem dX8_subjectAtHand_96 : decode cX8_subjectAtHand 96 = .ok (.ifCond .eq 6, 3) := by decide +kernel
theorem dX8_subjectAtHand_99 : decode cX8_subjectAtHand 99 = .ok (.bipush 8, 2) := by decide +kernel
theorem dX8_subjectAtHand_101 : decode cX8_subjectAtHand 101 = .ok (.ireturn, 1) := by decide +kernel
theorem dX8_subjectAtHand_102 : decode cX8_subjectAtHand 102 = .ok (.aload_n 0, 1) := by decide +kernel
theorem dX8_subjectAtHand_103 : decode cX8_subjectAtHand 103 = .ok (.ldc 168, 2) := by decide +kernel
theorem dX8_subjectAtHand_105 : decode cX8_subjectAtHand 105 = .ok (.invokevirtual 98, 3) := by decide +kernel
theorem dX8_subjectAtHand_108 : decode cX8_subjectAtHand 108 = .ok (.ifCond .eq 6, 3) := by decide +kernel
theorem dX8_subjectAtHand_111 : decode cX8_subjectAtHand 111 = .ok (.bipush 9, 2) := by decide +kernel
theorem dX8_subjectAtHand_113 : decode cX8_subjectAtHand 113 = .ok (.ireturn, 1) := by decide +kernel
theorem dX8_subjectAtHand_114 : decode cX8_subjectAtHand 114 = .ok (.aload_n 0, 1) := by decide +kernel
theorem dX8_subjectAtHand_115 : decode cX8_subjectAtHand 115 = .ok (.ldc 170, 2) := by decide +kernel
theorem dX8_subjectAtHand_117 : decode cX8_subjectAtHand 117 = .ok (.invokevirtual 98, 3) := by decide +kernel
theorem dX8_subjectAtHand_120 : decode cX8_subjectAtHand 120 = .ok (.ifCond .eq 6, 3) := by decide +kernel
theorem dX8_subjectAtHand_123 : decode cX8_subjectAtHand 123 = .ok (.bipush 10, 2) := by decide +kernel
theorem dX8_subjectAtHand_125 : decode cX8_subjectAtHand 125 = .ok (.ireturn, 1) := by decide +kernel
theorem dX8_subjectAtHand_126 : decode cX8_subjectAtHand 126 = .ok (.iconst (-1), 1) := by decide +kernel
theorem dX8_subjectAtHand_127 : decode cX8_subjectAtHand 127 = .ok (.ireturn, 1) := by decide +kernel
theorem dX8_actAtHand_0 : decode cX8_actAtHand 0 = .ok (.aload_n 0, 1) := by decide +kernel
theorem dX8_actAtHand_1 : decode cX8_actAtHand 1 = .ok (.getfield 24, 3) := by decide +kernel
theorem dX8_actAtHand_4 : decode cX8_actAtHand 4 = .ok (.ifCond .eq 27, 3) := by decide +kernel
theorem dX8_actAtHand_7 : decode cX8_actAtHand 7 = .ok (.aload_n 0, 1) := by decide +kernel
theorem dX8_actAtHand_8 : decode cX8_actAtHand 8 = .ok (.ldc 172, 2) := by decide +kernel
theorem dX8_actAtHand_10 : decode cX8_actAtHand 10 = .ok (.invokevirtual 98, 3) := by decide +kernel
theorem dX8_actAtHand_13 : decode cX8_actAtHand 13 = .ok (.ifCond .eq 5, 3) := by decide +kernel
theorem dX8_actAtHand_16 : decode cX8_actAtHand 16 = .ok (.iconst 3, 1) := by decide +kernel
theorem dX8_actAtHand_17 : decode cX8_actAtHand 17 = .ok (.ireturn, 1) := by decide +kernel
theorem dX8_actAtHand_18 : decode cX8_actAtHand 18 = .ok (.aload_n 0, 1) := by decide +kernel
theorem dX8_actAtHand_19 : decode cX8_actAtHand 19 = .ok (.ldc 174, 2) := by decide +kernel
theorem dX8_actAtHand_21 : decode cX8_actAtHand 21 = .ok (.invokevirtual 98, 3) := by decide +kernel
theorem dX8_actAtHand_24 : decode cX8_actAtHand 24 = .ok (.ifCond .eq 5, 3) := by decide +kernel
theorem dX8_actAtHand_27 : decode cX8_actAtHand 27 = .ok (.iconst 4, 1) := by decide +kernel
theorem dX8_actAtHand_28 : decode cX8_actAtHand 28 = .ok (.ireturn, 1) := by decide +kernel
theorem dX8_actAtHand_29 : decode cX8_actAtHand 29 = .ok (.iconst (-1), 1) := by decide +kernel
theorem dX8_actAtHand_30 : decode cX8_actAtHand 30 = .ok (.ireturn, 1) := by decide +kernel
theorem dX8_actAtHand_31 : decode cX8_actAtHand 31 = .ok (.aload_n 0, 1) := by decide +kernel
theorem dX8_actAtHand_32 : decode cX8_actAtHand 32 = .ok (.ldc 176, 2) := by decide +kernel
theorem dX8_actAtHand_34 : decode cX8_actAtHand 34 = .ok (.invokevirtual 98, 3) := by decide +kernel
theorem dX8_actAtHand_37 : decode cX8_actAtHand 37 = .ok (.ifCond .eq 5, 3) := by decide +kernel
theorem dX8_actAtHand_40 : decode cX8_actAtHand 40 = .ok (.iconst 0, 1) := by decide +kernel
theorem dX8_actAtHand_41 : decode cX8_actAtHand 41 = .ok (.ireturn, 1) := by decide +kernel
theorem dX8_actAtHand_42 : decode cX8_actAtHand 42 = .ok (.aload_n 0, 1) := by decide +kernel
theorem dX8_actAtHand_43 : decode cX8_actAtHand 43 = .ok (.ldc 178, 2) := by decide +kernel
theorem dX8_actAtHand_45 : decode cX8_actAtHand 45 = .ok (.invokevirtual 98, 3) := by decide +kernel
theorem dX8_actAtHand_48 : decode cX8_actAtHand 48 = .ok (.ifCond .eq 5, 3) := by decide +kernel
theorem dX8_actAtHand_51 : decode cX8_actAtHand 51 = .ok (.iconst 1, 1) := by decide +kernel
theorem dX8_actAtHand_52 : decode cX8_actAtHand 52 = .ok (.ireturn, 1) := by decide +kernel
theorem dX8_actAtHand_53 : decode cX8_actAtHand 53 = .ok (.aload_n 0, 1) := by decide +kernel
theorem dX8_actAtHand_54 : decode cX8_actAtHand 54 = .ok (.ldc 180, 2) := by decide +kernel
theorem dX8_actAtHand_56 : decode cX8_actAtHand 56 = .ok (.invokevirtual 98, 3) := by decide +kernel
theorem dX8_actAtHand_59 : decode cX8_actAtHand 59 = .ok (.ifCond .eq 5, 3) := by decide +kernel
theorem dX8_actAtHand_62 : decode cX8_actAtHand 62 = .ok (.iconst 2, 1) := by decide +kernel
theorem dX8_actAtHand_63 : decode cX8_actAtHand 63 = .ok (.ireturn, 1) := by decide +kernel
theorem dX8_actAtHand_64 : decode cX8_actAtHand 64 = .ok (.iconst (-1), 1) := by decide +kernel
theorem dX8_actAtHand_65 : decode cX8_actAtHand 65 = .ok (.ireturn, 1) := by decide +kernel
theorem dX8_isWord_0 : decode cX8_isWord 0 = .ok (.aload_n 0, 1) := by decide +kernel
theorem dX8_isWord_1 : decode cX8_isWord 1 = .ok (.getfield 47, 3) := by decide +kernel
theorem dX8_isWord_4 : decode cX8_isWord 4 = .ok (.iconst 1, 1) := by decide +kernel
theorem dX8_isWord_5 : decode cX8_isWord 5 = .ok (.if_icmp .ne 19, 3) := by decide +kernel
theorem dX8_isWord_8 : decode cX8_isWord 8 = .ok (.aload_n 0, 1) := by decide +kernel
theorem dX8_isWord_9 : decode cX8_isWord 9 = .ok (.getfield 28, 3) := by decide +kernel
theorem dX8_isWord_12 : decode cX8_isWord 12 = .ok (.aload_n 0, 1) := by decide +kernel
theorem dX8_isWord_13 : decode cX8_isWord 13 = .ok (.getfield 138, 3) := by decide +kernel
theorem dX8_isWord_16 : decode cX8_isWord 16 = .ok (.isub, 1) := by decide +kernel
theorem dX8_isWord_17 : decode cX8_isWord 17 = .ok (.aload_n 1, 1) := by decide +kernel
theorem dX8_isWord_18 : decode cX8_isWord 18 = .ok (.invokevirtual 182, 3) := by decide +kernel
theorem dX8_isWord_21 : decode cX8_isWord 21 = .ok (.if_icmp .eq 5, 3) := by decide +kernel
theorem dX8_isWord_24 : decode cX8_isWord 24 = .ok (.iconst 0, 1) := by decide +kernel
theorem dX8_isWord_25 : decode cX8_isWord 25 = .ok (.ireturn, 1) := by decide +kernel
theorem dX8_isWord_26 : decode cX8_isWord 26 = .ok (.iconst 0, 1) := by decide +kernel
theorem dX8_isWord_27 : decode cX8_isWord 27 = .ok (.istore_n 2, 1) := by decide +kernel
theorem dX8_isWord_28 : decode cX8_isWord 28 = .ok (.iload_n 2, 1) := by decide +kernel
theorem dX8_isWord_29 : decode cX8_isWord 29 = .ok (.aload_n 1, 1) := by decide +kernel
theorem dX8_isWord_30 : decode cX8_isWord 30 = .ok (.invokevirtual 182, 3) := by decide +kernel
theorem dX8_isWord_33 : decode cX8_isWord 33 = .ok (.if_icmp .ge 33, 3) := by decide +kernel
theorem dX8_isWord_36 : decode cX8_isWord 36 = .ok (.aload_n 0, 1) := by decide +kernel
theorem dX8_isWord_37 : decode cX8_isWord 37 = .ok (.getfield 20, 3) := by decide +kernel
theorem dX8_isWord_40 : decode cX8_isWord 40 = .ok (.getfield 132, 3) := by decide +kernel
theorem dX8_isWord_43 : decode cX8_isWord 43 = .ok (.aload_n 0, 1) := by decide +kernel
theorem dX8_isWord_44 : decode cX8_isWord 44 = .ok (.getfield 138, 3) := by decide +kernel
theorem dX8_isWord_47 : decode cX8_isWord 47 = .ok (.iload_n 2, 1) := by decide +kernel
theorem dX8_isWord_48 : decode cX8_isWord 48 = .ok (.iadd, 1) := by decide +kernel
theorem dX8_isWord_49 : decode cX8_isWord 49 = .ok (.baload, 1) := by decide +kernel
theorem dX8_isWord_50 : decode cX8_isWord 50 = .ok (.aload_n 1, 1) := by decide +kernel
theorem dX8_isWord_51 : decode cX8_isWord 51 = .ok (.iload_n 2, 1) := by decide +kernel
theorem dX8_isWord_52 : decode cX8_isWord 52 = .ok (.invokevirtual 187, 3) := by decide +kernel
theorem dX8_isWord_55 : decode cX8_isWord 55 = .ok (.if_icmp .eq 5, 3) := by decide +kernel
theorem dX8_isWord_58 : decode cX8_isWord 58 = .ok (.iconst 0, 1) := by decide +kernel
theorem dX8_isWord_59 : decode cX8_isWord 59 = .ok (.ireturn, 1) := by decide +kernel
theorem dX8_isWord_60 : decode cX8_isWord 60 = .ok (.iinc 2 1, 3) := by decide +kernel
theorem dX8_isWord_63 : decode cX8_isWord 63 = .ok (.goto (-35), 3) := by decide +kernel
theorem dX8_isWord_66 : decode cX8_isWord 66 = .ok (.iconst 1, 1) := by decide +kernel
theorem dX8_isWord_67 : decode cX8_isWord 67 = .ok (.ireturn, 1) := by decide +kernel
theorem dX8_isSign_0 : decode cX8_isSign 0 = .ok (.aload_n 0, 1) := by decide +kernel
theorem dX8_isSign_1 : decode cX8_isSign 1 = .ok (.getfield 47, 3) := by decide +kernel
theorem dX8_isSign_4 : decode cX8_isSign 4 = .ok (.iconst 3, 1) := by decide +kernel
theorem dX8_isSign_5 : decode cX8_isSign 5 = .ok (.if_icmp .ne 23, 3) := by decide +kernel
theorem dX8_isSign_8 : decode cX8_isSign 8 = .ok (.aload_n 0, 1) := by decide +kernel
theorem dX8_isSign_9 : decode cX8_isSign 9 = .ok (.getfield 20, 3) := by decide +kernel
theorem dX8_isSign_12 : decode cX8_isSign 12 = .ok (.getfield 132, 3) := by decide +kernel
theorem dX8_isSign_15 : decode cX8_isSign 15 = .ok (.aload_n 0, 1) := by decide +kernel
theorem dX8_isSign_16 : decode cX8_isSign 16 = .ok (.getfield 138, 3) := by decide +kernel
theorem dX8_isSign_19 : decode cX8_isSign 19 = .ok (.baload, 1) := by decide +kernel
theorem dX8_isSign_20 : decode cX8_isSign 20 = .ok (.iload_n 1, 1) := by decide +kernel
theorem dX8_isSign_21 : decode cX8_isSign 21 = .ok (.if_icmp .ne 7, 3) := by decide +kernel
theorem dX8_isSign_24 : decode cX8_isSign 24 = .ok (.iconst 1, 1) := by decide +kernel
theorem dX8_isSign_25 : decode cX8_isSign 25 = .ok (.goto 4, 3) := by decide +kernel
theorem dX8_isSign_28 : decode cX8_isSign 28 = .ok (.iconst 0, 1) := by decide +kernel
theorem dX8_isSign_29 : decode cX8_isSign 29 = .ok (.ireturn, 1) := by decide +kernel
theorem dX8_advance_0 : decode cX8_advance 0 = .ok (.aload_n 0, 1) := by decide +kernel
theorem dX8_advance_1 : decode cX8_advance 1 = .ok (.getfield 28, 3) := by decide +kernel
theorem dX8_advance_4 : decode cX8_advance 4 = .ok (.aload_n 0, 1) := by decide +kernel
theorem dX8_advance_5 : decode cX8_advance 5 = .ok (.getfield 20, 3) := by decide +kernel
theorem dX8_advance_8 : decode cX8_advance 8 = .ok (.getfield 191, 3) := by decide +kernel
theorem dX8_advance_11 : decode cX8_advance 11 = .ok (.if_icmp .ge 35, 3) := by decide +kernel
theorem dX8_advance_14 : decode cX8_advance 14 = .ok (.aload_n 0, 1) := by decide +kernel
theorem dX8_advance_15 : decode cX8_advance 15 = .ok (.getfield 20, 3) := by decide +kernel
theorem dX8_advance_18 : decode cX8_advance 18 = .ok (.getfield 132, 3) := by decide +kernel
theorem dX8_advance_21 : decode cX8_advance 21 = .ok (.aload_n 0, 1) := by decide +kernel
theorem dX8_advance_22 : decode cX8_advance 22 = .ok (.getfield 28, 3) := by decide +kernel
theorem dX8_advance_25 : decode cX8_advance 25 = .ok (.baload, 1) := by decide +kernel
theorem dX8_advance_26 : decode cX8_advance 26 = .ok (.invokestatic 194, 3) := by decide +kernel
theorem dX8_advance_29 : decode cX8_advance 29 = .ok (.iconst 4, 1) := by decide +kernel
theorem dX8_advance_30 : decode cX8_advance 30 = .ok (.if_icmp .ne 16, 3) := by decide +kernel
theorem dX8_advance_33 : decode cX8_advance 33 = .ok (.aload_n 0, 1) := by decide +kernel
theorem dX8_advance_34 : decode cX8_advance 34 = .ok (.dup, 1) := by decide +kernel
theorem dX8_advance_35 : decode cX8_advance 35 = .ok (.getfield 28, 3) := by decide +kernel
theorem dX8_advance_38 : decode cX8_advance 38 = .ok (.iconst 1, 1) := by decide +kernel
theorem dX8_advance_39 : decode cX8_advance 39 = .ok (.iadd, 1) := by decide +kernel
theorem dX8_advance_40 : decode cX8_advance 40 = .ok (.putfield 28, 3) := by decide +kernel
theorem dX8_advance_43 : decode cX8_advance 43 = .ok (.goto (-43), 3) := by decide +kernel
theorem dX8_advance_46 : decode cX8_advance 46 = .ok (.aload_n 0, 1) := by decide +kernel
theorem dX8_advance_47 : decode cX8_advance 47 = .ok (.aload_n 0, 1) := by decide +kernel
theorem dX8_advance_48 : decode cX8_advance 48 = .ok (.getfield 28, 3) := by decide +kernel
theorem dX8_advance_51 : decode cX8_advance 51 = .ok (.putfield 138, 3) := by decide +kernel
theorem dX8_advance_54 : decode cX8_advance 54 = .ok (.aload_n 0, 1) := by decide +kernel
theorem dX8_advance_55 : decode cX8_advance 55 = .ok (.iconst 0, 1) := by decide +kernel
theorem dX8_advance_56 : decode cX8_advance 56 = .ok (.putfield 47, 3) := by decide +kernel
theorem dX8_advance_59 : decode cX8_advance 59 = .ok (.aload_n 0, 1) := by decide +kernel
theorem dX8_advance_60 : decode cX8_advance 60 = .ok (.getfield 28, 3) := by decide +kernel
theorem dX8_advance_63 : decode cX8_advance 63 = .ok (.aload_n 0, 1) := by decide +kernel
theorem dX8_advance_64 : decode cX8_advance 64 = .ok (.getfield 20, 3) := by decide +kernel
theorem dX8_advance_67 : decode cX8_advance 67 = .ok (.getfield 191, 3) := by decide +kernel
theorem dX8_advance_70 : decode cX8_advance 70 = .ok (.if_icmp .ge 32, 3) := by decide +kernel
theorem dX8_advance_73 : decode cX8_advance 73 = .ok (.aload_n 0, 1) := by decide +kernel
theorem dX8_advance_74 : decode cX8_advance 74 = .ok (.aload_n 0, 1) := by decide +kernel
theorem dX8_advance_75 : decode cX8_advance 75 = .ok (.getfield 20, 3) := by decide +kernel
theorem dX8_advance_78 : decode cX8_advance 78 = .ok (.getfield 132, 3) := by decide +kernel
theorem dX8_advance_81 : decode cX8_advance 81 = .ok (.aload_n 0, 1) := by decide +kernel
theorem dX8_advance_82 : decode cX8_advance 82 = .ok (.getfield 28, 3) := by decide +kernel
theorem dX8_advance_85 : decode cX8_advance 85 = .ok (.baload, 1) := by decide +kernel
theorem dX8_advance_86 : decode cX8_advance 86 = .ok (.invokestatic 194, 3) := by decide +kernel
theorem dX8_advance_89 : decode cX8_advance 89 = .ok (.putfield 47, 3) := by decide +kernel
theorem dX8_advance_92 : decode cX8_advance 92 = .ok (.aload_n 0, 1) := by decide +kernel
theorem dX8_advance_93 : decode cX8_advance 93 = .ok (.dup, 1) := by decide +kernel
theorem dX8_advance_94 : decode cX8_advance 94 = .ok (.getfield 28, 3) := by decide +kernel
theorem dX8_advance_97 : decode cX8_advance 97 = .ok (.iconst 1, 1) := by decide +kernel
theorem dX8_advance_98 : decode cX8_advance 98 = .ok (.iadd, 1) := by decide +kernel
theorem dX8_advance_99 : decode cX8_advance 99 = .ok (.putfield 28, 3) := by decide +kernel
theorem dX8_advance_102 : decode cX8_advance 102 = .ok (.aload_n 0, 1) := by decide +kernel
theorem dX8_advance_103 : decode cX8_advance 103 = .ok (.getfield 47, 3) := by decide +kernel
theorem dX8_advance_106 : decode cX8_advance 106 = .ok (.iconst 1, 1) := by decide +kernel
theorem dX8_advance_107 : decode cX8_advance 107 = .ok (.if_icmp .eq 11, 3) := by decide +kernel
theorem dX8_advance_110 : decode cX8_advance 110 = .ok (.aload_n 0, 1) := by decide +kernel
theorem dX8_advance_111 : decode cX8_advance 111 = .ok (.getfield 47, 3) := by decide +kernel
theorem dX8_advance_114 : decode cX8_advance 114 = .ok (.iconst 2, 1) := by decide +kernel
theorem dX8_advance_115 : decode cX8_advance 115 = .ok (.if_icmp .ne 52, 3) := by decide +kernel
theorem dX8_advance_118 : decode cX8_advance 118 = .ok (.aload_n 0, 1) := by decide +kernel
theorem dX8_advance_119 : decode cX8_advance 119 = .ok (.getfield 28, 3) := by decide +kernel
theorem dX8_advance_122 : decode cX8_advance 122 = .ok (.aload_n 0, 1) := by decide +kernel
theorem dX8_advance_123 : decode cX8_advance 123 = .ok (.getfield 20, 3) := by decide +kernel
theorem dX8_advance_126 : decode cX8_advance 126 = .ok (.getfield 191, 3) := by decide +kernel
theorem dX8_advance_129 : decode cX8_advance 129 = .ok (.if_icmp .ge 38, 3) := by decide +kernel
theorem dX8_advance_132 : decode cX8_advance 132 = .ok (.aload_n 0, 1) := by decide +kernel
theorem dX8_advance_133 : decode cX8_advance 133 = .ok (.getfield 20, 3) := by decide +kernel
theorem dX8_advance_136 : decode cX8_advance 136 = .ok (.getfield 132, 3) := by decide +kernel
theorem dX8_advance_139 : decode cX8_advance 139 = .ok (.aload_n 0, 1) := by decide +kernel
theorem dX8_advance_140 : decode cX8_advance 140 = .ok (.getfield 28, 3) := by decide +kernel
theorem dX8_advance_143 : decode cX8_advance 143 = .ok (.baload, 1) := by decide +kernel
theorem dX8_advance_144 : decode cX8_advance 144 = .ok (.invokestatic 194, 3) := by decide +kernel
theorem dX8_advance_147 : decode cX8_advance 147 = .ok (.aload_n 0, 1) := by decide +kernel
theorem dX8_advance_148 : decode cX8_advance 148 = .ok (.getfield 47, 3) := by decide +kernel
theorem dX8_advance_151 : decode cX8_advance 151 = .ok (.if_icmp .ne 16, 3) := by decide +kernel
theorem dX8_advance_154 : decode cX8_advance 154 = .ok (.aload_n 0, 1) := by decide +kernel
theorem dX8_advance_155 : decode cX8_advance 155 = .ok (.dup, 1) := by decide +kernel
theorem dX8_advance_156 : decode cX8_advance 156 = .ok (.getfield 28, 3) := by decide +kernel
theorem dX8_advance_159 : decode cX8_advance 159 = .ok (.iconst 1, 1) := by decide +kernel
theorem dX8_advance_160 : decode cX8_advance 160 = .ok (.iadd, 1) := by decide +kernel
theorem dX8_advance_161 : decode cX8_advance 161 = .ok (.putfield 28, 3) := by decide +kernel
theorem dX8_advance_164 : decode cX8_advance 164 = .ok (.goto (-46), 3) := by decide +kernel
theorem dX8_advance_167 : decode cX8_advance 167 = .ok (.aload_n 0, 1) := by decide +kernel
theorem dX8_advance_168 : decode cX8_advance 168 = .ok (.getfield 47, 3) := by decide +kernel
theorem dX8_advance_171 : decode cX8_advance 171 = .ok (.iconst 2, 1) := by decide +kernel
theorem dX8_advance_172 : decode cX8_advance 172 = .ok (.if_icmp .ne 7, 3) := by decide +kernel
theorem dX8_advance_175 : decode cX8_advance 175 = .ok (.aload_n 0, 1) := by decide +kernel
theorem dX8_advance_176 : decode cX8_advance 176 = .ok (.invokevirtual 198, 3) := by decide +kernel
theorem dX8_advance_179 : decode cX8_advance 179 = .ok (.return_, 1) := by decide +kernel
theorem dX8_measure_0 : decode cX8_measure 0 = .ok (.aload_n 0, 1) := by decide +kernel
theorem dX8_measure_1 : decode cX8_measure 1 = .ok (.iconst 0, 1) := by decide +kernel
theorem dX8_measure_2 : decode cX8_measure 2 = .ok (.putfield 141, 3) := by decide +kernel
theorem dX8_measure_5 : decode cX8_measure 5 = .ok (.aload_n 0, 1) := by decide +kernel
theorem dX8_measure_6 : decode cX8_measure 6 = .ok (.getfield 138, 3) := by decide +kernel
theorem dX8_measure_9 : decode cX8_measure 9 = .ok (.istore_n 1, 1) := by decide +kernel
theorem dX8_measure_10 : decode cX8_measure 10 = .ok (.iload_n 1, 1) := by decide +kernel
theorem dX8_measure_11 : decode cX8_measure 11 = .ok (.aload_n 0, 1) := by decide +kernel
theorem dX8_measure_12 : decode cX8_measure 12 = .ok (.getfield 28, 3) := by decide +kernel
theorem dX8_measure_15 : decode cX8_measure 15 = .ok (.if_icmp .ge 33, 3) := by decide +kernel
theorem dX8_measure_18 : decode cX8_measure 18 = .ok (.aload_n 0, 1) := by decide +kernel
theorem dX8_measure_19 : decode cX8_measure 19 = .ok (.aload_n 0, 1) := by decide +kernel
theorem dX8_measure_20 : decode cX8_measure 20 = .ok (.getfield 141, 3) := by decide +kernel
theorem dX8_measure_23 : decode cX8_measure 23 = .ok (.bipush 10, 2) := by decide +kernel
theorem dX8_measure_25 : decode cX8_measure 25 = .ok (.imul, 1) := by decide +kernel
theorem dX8_measure_26 : decode cX8_measure 26 = .ok (.aload_n 0, 1) := by decide +kernel
theorem dX8_measure_27 : decode cX8_measure 27 = .ok (.getfield 20, 3) := by decide +kernel
theorem dX8_measure_30 : decode cX8_measure 30 = .ok (.getfield 132, 3) := by decide +kernel
theorem dX8_measure_33 : decode cX8_measure 33 = .ok (.iload_n 1, 1) := by decide +kernel
theorem dX8_measure_34 : decode cX8_measure 34 = .ok (.baload, 1) := by decide +kernel
theorem dX8_measure_35 : decode cX8_measure 35 = .ok (.bipush 48, 2) := by decide +kernel
theorem dX8_measure_37 : decode cX8_measure 37 = .ok (.isub, 1) := by decide +kernel
theorem dX8_measure_38 : decode cX8_measure 38 = .ok (.iadd, 1) := by decide +kernel
theorem dX8_measure_39 : decode cX8_measure 39 = .ok (.putfield 141, 3) := by decide +kernel
theorem dX8_measure_42 : decode cX8_measure 42 = .ok (.iinc 1 1, 3) := by decide +kernel
theorem dX8_measure_45 : decode cX8_measure 45 = .ok (.goto (-35), 3) := by decide +kernel
theorem dX8_measure_48 : decode cX8_measure 48 = .ok (.aload_n 0, 1) := by decide +kernel
theorem dX8_measure_49 : decode cX8_measure 49 = .ok (.getfield 28, 3) := by decide +kernel
theorem dX8_measure_52 : decode cX8_measure 52 = .ok (.aload_n 0, 1) := by decide +kernel
theorem dX8_measure_53 : decode cX8_measure 53 = .ok (.getfield 138, 3) := by decide +kernel
theorem dX8_measure_56 : decode cX8_measure 56 = .ok (.isub, 1) := by decide +kernel
theorem dX8_measure_57 : decode cX8_measure 57 = .ok (.iconst 4, 1) := by decide +kernel
theorem dX8_measure_58 : decode cX8_measure 58 = .ok (.if_icmp .le 8, 3) := by decide +kernel
theorem dX8_measure_61 : decode cX8_measure 61 = .ok (.aload_n 0, 1) := by decide +kernel
theorem dX8_measure_62 : decode cX8_measure 62 = .ok (.iconst 5, 1) := by decide +kernel
theorem dX8_measure_63 : decode cX8_measure 63 = .ok (.putfield 47, 3) := by decide +kernel
theorem dX8_measure_66 : decode cX8_measure 66 = .ok (.return_, 1) := by decide +kernel
theorem dX8_kindOf_0 : decode cX8_kindOf 0 = .ok (.iload_n 0, 1) := by decide +kernel
theorem dX8_kindOf_1 : decode cX8_kindOf 1 = .ok (.bipush 97, 2) := by decide +kernel
theorem dX8_kindOf_3 : decode cX8_kindOf 3 = .ok (.if_icmp .lt 11, 3) := by decide +kernel
theorem dX8_kindOf_6 : decode cX8_kindOf 6 = .ok (.iload_n 0, 1) := by decide +kernel
theorem dX8_kindOf_7 : decode cX8_kindOf 7 = .ok (.bipush 122, 2) := by decide +kernel
theorem dX8_kindOf_9 : decode cX8_kindOf 9 = .ok (.if_icmp .gt 5, 3) := by decide +kernel
theorem dX8_kindOf_12 : decode cX8_kindOf 12 = .ok (.iconst 1, 1) := by decide +kernel
theorem dX8_kindOf_13 : decode cX8_kindOf 13 = .ok (.ireturn, 1) := by decide +kernel
theorem dX8_kindOf_14 : decode cX8_kindOf 14 = .ok (.iload_n 0, 1) := by decide +kernel
theorem dX8_kindOf_15 : decode cX8_kindOf 15 = .ok (.bipush 48, 2) := by decide +kernel
theorem dX8_kindOf_17 : decode cX8_kindOf 17 = .ok (.if_icmp .lt 11, 3) := by decide +kernel
theorem dX8_kindOf_20 : decode cX8_kindOf 20 = .ok (.iload_n 0, 1) := by decide +kernel
theorem dX8_kindOf_21 : decode cX8_kindOf 21 = .ok (.bipush 57, 2) := by decide +kernel
theorem dX8_kindOf_23 : decode cX8_kindOf 23 = .ok (.if_icmp .gt 5, 3) := by decide +kernel
theorem dX8_kindOf_26 : decode cX8_kindOf 26 = .ok (.iconst 2, 1) := by decide +kernel
theorem dX8_kindOf_27 : decode cX8_kindOf 27 = .ok (.ireturn, 1) := by decide +kernel
theorem dX8_kindOf_28 : decode cX8_kindOf 28 = .ok (.iload_n 0, 1) := by decide +kernel
theorem dX8_kindOf_29 : decode cX8_kindOf 29 = .ok (.bipush 58, 2) := by decide +kernel
theorem dX8_kindOf_31 : decode cX8_kindOf 31 = .ok (.if_icmp .eq 27, 3) := by decide +kernel
theorem dX8_kindOf_34 : decode cX8_kindOf 34 = .ok (.iload_n 0, 1) := by decide +kernel
theorem dX8_kindOf_35 : decode cX8_kindOf 35 = .ok (.bipush 59, 2) := by decide +kernel
theorem dX8_kindOf_37 : decode cX8_kindOf 37 = .ok (.if_icmp .eq 21, 3) := by decide +kernel
theorem dX8_kindOf_40 : decode cX8_kindOf 40 = .ok (.iload_n 0, 1) := by decide +kernel
theorem dX8_kindOf_41 : decode cX8_kindOf 41 = .ok (.bipush 60, 2) := by decide +kernel
theorem dX8_kindOf_43 : decode cX8_kindOf 43 = .ok (.if_icmp .eq 15, 3) := by decide +kernel
theorem dX8_kindOf_46 : decode cX8_kindOf 46 = .ok (.iload_n 0, 1) := by decide +kernel
theorem dX8_kindOf_47 : decode cX8_kindOf 47 = .ok (.bipush 62, 2) := by decide +kernel
theorem dX8_kindOf_49 : decode cX8_kindOf 49 = .ok (.if_icmp .eq 9, 3) := by decide +kernel
theorem dX8_kindOf_52 : decode cX8_kindOf 52 = .ok (.iload_n 0, 1) := by decide +kernel
theorem dX8_kindOf_53 : decode cX8_kindOf 53 = .ok (.bipush 61, 2) := by decide +kernel
theorem dX8_kindOf_55 : decode cX8_kindOf 55 = .ok (.if_icmp .ne 5, 3) := by decide +kernel
theorem dX8_kindOf_58 : decode cX8_kindOf 58 = .ok (.iconst 3, 1) := by decide +kernel
theorem dX8_kindOf_59 : decode cX8_kindOf 59 = .ok (.ireturn, 1) := by decide +kernel
theorem dX8_kindOf_60 : decode cX8_kindOf 60 = .ok (.iload_n 0, 1) := by decide +kernel
theorem dX8_kindOf_61 : decode cX8_kindOf 61 = .ok (.bipush 32, 2) := by decide +kernel
theorem dX8_kindOf_63 : decode cX8_kindOf 63 = .ok (.if_icmp .eq 9, 3) := by decide +kernel
theorem dX8_kindOf_66 : decode cX8_kindOf 66 = .ok (.iload_n 0, 1) := by decide +kernel
theorem dX8_kindOf_67 : decode cX8_kindOf 67 = .ok (.bipush 10, 2) := by decide +kernel
theorem dX8_kindOf_69 : decode cX8_kindOf 69 = .ok (.if_icmp .ne 7, 3) := by decide +kernel
theorem dX8_kindOf_72 : decode cX8_kindOf 72 = .ok (.iconst 4, 1) := by decide +kernel
theorem dX8_kindOf_73 : decode cX8_kindOf 73 = .ok (.goto 4, 3) := by decide +kernel
theorem dX8_kindOf_76 : decode cX8_kindOf 76 = .ok (.iconst 5, 1) := by decide +kernel
theorem dX8_kindOf_77 : decode cX8_kindOf 77 = .ok (.ireturn, 1) := by decide +kernel
theorem dX9_init_0 : decode cX9_init 0 = .ok (.aload_n 0, 1) := by decide +kernel
theorem dX9_init_1 : decode cX9_init 1 = .ok (.invokespecial 3, 3) := by decide +kernel
theorem dX9_init_4 : decode cX9_init 4 = .ok (.aload_n 0, 1) := by decide +kernel
theorem dX9_init_5 : decode cX9_init 5 = .ok (.bipush 64, 2) := by decide +kernel
theorem dX9_init_7 : decode cX9_init 7 = .ok (.newarray .int, 2) := by decide +kernel
theorem dX9_init_9 : decode cX9_init 9 = .ok (.putfield 9, 3) := by decide +kernel
theorem dX9_init_12 : decode cX9_init 12 = .ok (.aload_n 0, 1) := by decide +kernel
theorem dX9_init_13 : decode cX9_init 13 = .ok (.bipush 64, 2) := by decide +kernel
theorem dX9_init_15 : decode cX9_init 15 = .ok (.newarray .int, 2) := by decide +kernel
theorem dX9_init_17 : decode cX9_init 17 = .ok (.putfield 15, 3) := by decide +kernel
theorem dX9_init_20 : decode cX9_init 20 = .ok (.aload_n 0, 1) := by decide +kernel
theorem dX9_init_21 : decode cX9_init 21 = .ok (.bipush 64, 2) := by decide +kernel
theorem dX9_init_23 : decode cX9_init 23 = .ok (.newarray .int, 2) := by decide +kernel
theorem dX9_init_25 : decode cX9_init 25 = .ok (.putfield 18, 3) := by decide +kernel
theorem dX9_init_28 : decode cX9_init 28 = .ok (.aload_n 0, 1) := by decide +kernel
theorem dX9_init_29 : decode cX9_init 29 = .ok (.iconst 4, 1) := by decide +kernel
theorem dX9_init_30 : decode cX9_init 30 = .ok (.newarray .int, 2) := by decide +kernel
theorem dX9_init_32 : decode cX9_init 32 = .ok (.putfield 21, 3) := by decide +kernel
theorem dX9_init_35 : decode cX9_init 35 = .ok (.aload_n 0, 1) := by decide +kernel
theorem dX9_init_36 : decode cX9_init 36 = .ok (.iconst 4, 1) := by decide +kernel
theorem dX9_init_37 : decode cX9_init 37 = .ok (.newarray .int, 2) := by decide +kernel
theorem dX9_init_39 : decode cX9_init 39 = .ok (.putfield 24, 3) := by decide +kernel
theorem dX9_init_42 : decode cX9_init 42 = .ok (.aload_n 0, 1) := by decide +kernel
theorem dX9_init_43 : decode cX9_init 43 = .ok (.aload_n 1, 1) := by decide +kernel
theorem dX9_init_44 : decode cX9_init 44 = .ok (.putfield 27, 3) := by decide +kernel
theorem dX9_init_47 : decode cX9_init 47 = .ok (.aload_n 0, 1) := by decide +kernel
theorem dX9_init_48 : decode cX9_init 48 = .ok (.aload_n 2, 1) := by decide +kernel
theorem dX9_init_49 : decode cX9_init 49 = .ok (.putfield 31, 3) := by decide +kernel
theorem dX9_init_52 : decode cX9_init 52 = .ok (.return_, 1) := by decide +kernel
theorem dX9_search_0 : decode cX9_search 0 = .ok (.aload_n 0, 1) := by decide +kernel
theorem dX9_search_1 : decode cX9_search 1 = .ok (.getfield 9, 3) := by decide +kernel
theorem dX9_search_4 : decode cX9_search 4 = .ok (.iconst (-1), 1) := by decide +kernel
theorem dX9_search_5 : decode cX9_search 5 = .ok (.invokestatic 35, 3) := by decide +kernel
theorem dX9_search_8 : decode cX9_search 8 = .ok (.iconst 0, 1) := by decide +kernel
theorem dX9_search_9 : decode cX9_search 9 = .ok (.istore_n 1, 1) := by decide +kernel
theorem dX9_search_10 : decode cX9_search 10 = .ok (.iload_n 1, 1) := by decide +kernel
theorem dX9_search_11 : decode cX9_search 11 = .ok (.aload_n 0, 1) := by decide +kernel
theorem dX9_search_12 : decode cX9_search 12 = .ok (.getfield 31, 3) := by decide +kernel
theorem dX9_search_15 : decode cX9_search 15 = .ok (.getfield 41, 3) := by decide +kernel
theorem dX9_search_18 : decode cX9_search 18 = .ok (.if_icmp .ge 81, 3) := by decide +kernel
theorem dX9_search_21 : decode cX9_search 21 = .ok (.iconst 0, 1) := by decide +kernel
theorem dX9_search_22 : decode cX9_search 22 = .ok (.istore_n 2, 1) := by decide +kernel
theorem dX9_search_23 : decode cX9_search 23 = .ok (.iload_n 2, 1) := by decide +kernel
theorem dX9_search_24 : decode cX9_search 24 = .ok (.aload_n 0, 1) := by decide +kernel
theorem dX9_search_25 : decode cX9_search 25 = .ok (.getfield 31, 3) := by decide +kernel
theorem dX9_search_28 : decode cX9_search 28 = .ok (.getfield 47, 3) := by decide +kernel
theorem dX9_search_31 : decode cX9_search 31 = .ok (.if_icmp .ge 62, 3) := by decide +kernel
theorem dX9_search_34 : decode cX9_search 34 = .ok (.aload_n 0, 1) := by decide +kernel
theorem dX9_search_35 : decode cX9_search 35 = .ok (.getfield 31, 3) := by decide +kernel
theorem dX9_search_38 : decode cX9_search 38 = .ok (.getfield 50, 3) := by decide +kernel
theorem dX9_search_41 : decode cX9_search 41 = .ok (.iload_n 1, 1) := by decide +kernel
theorem dX9_search_42 : decode cX9_search 42 = .ok (.bipush 8, 2) := by decide +kernel
theorem dX9_search_44 : decode cX9_search 44 = .ok (.imul, 1) := by decide +kernel
theorem dX9_search_45 : decode cX9_search 45 = .ok (.iload_n 2, 1) := by decide +kernel
theorem dX9_search_46 : decode cX9_search 46 = .ok (.iadd, 1) := by decide +kernel
theorem dX9_search_47 : decode cX9_search 47 = .ok (.baload, 1) := by decide +kernel
theorem dX9_search_48 : decode cX9_search 48 = .ok (.ifCond .eq 39, 3) := by decide +kernel
theorem dX9_search_51 : decode cX9_search 51 = .ok (.aload_n 0, 1) := by decide +kernel
theorem dX9_search_52 : decode cX9_search 52 = .ok (.aload_n 0, 1) := by decide +kernel
theorem dX9_search_53 : decode cX9_search 53 = .ok (.getfield 31, 3) := by decide +kernel
theorem dX9_search_56 : decode cX9_search 56 = .ok (.getfield 54, 3) := by decide +kernel
theorem dX9_search_59 : decode cX9_search 59 = .ok (.iload_n 1, 1) := by decide +kernel
theorem dX9_search_60 : decode cX9_search 60 = .ok (.iaload, 1) := by decide +kernel
theorem dX9_search_61 : decode cX9_search 61 = .ok (.aload_n 0, 1) := by decide +kernel
theorem dX9_search_62 : decode cX9_search 62 = .ok (.getfield 31, 3) := by decide +kernel
theorem dX9_search_65 : decode cX9_search 65 = .ok (.getfield 57, 3) := by decide +kernel
theorem dX9_search_68 : decode cX9_search 68 = .ok (.iload_n 2, 1) := by decide +kernel
theorem dX9_search_69 : decode cX9_search 69 = .ok (.iaload, 1) := by decide +kernel
theorem dX9_search_70 : decode cX9_search 70 = .ok (.aload_n 0, 1) := by decide +kernel
theorem dX9_search_71 : decode cX9_search 71 = .ok (.getfield 31, 3) := by decide +kernel
theorem dX9_search_74 : decode cX9_search 74 = .ok (.getfield 60, 3) := by decide +kernel
theorem dX9_search_77 : decode cX9_search 77 = .ok (.iload_n 1, 1) := by decide +kernel
theorem dX9_search_78 : decode cX9_search 78 = .ok (.bipush 8, 2) := by decide +kernel
theorem dX9_search_80 : decode cX9_search 80 = .ok (.imul, 1) := by decide +kernel
theorem dX9_search_81 : decode cX9_search 81 = .ok (.iload_n 2, 1) := by decide +kernel
theorem dX9_search_82 : decode cX9_search 82 = .ok (.iadd, 1) := by decide +kernel
theorem dX9_search_83 : decode cX9_search 83 = .ok (.iaload, 1) := by decide +kernel
theorem dX9_search_84 : decode cX9_search 84 = .ok (.invokevirtual 63, 3) := by decide +kernel
theorem dX9_search_87 : decode cX9_search 87 = .ok (.iinc 2 1, 3) := by decide +kernel
theorem dX9_search_90 : decode cX9_search 90 = .ok (.goto (-67), 3) := by decide +kernel
theorem dX9_search_93 : decode cX9_search 93 = .ok (.iinc 1 1, 3) := by decide +kernel
theorem dX9_search_96 : decode cX9_search 96 = .ok (.goto (-86), 3) := by decide +kernel
theorem dX9_search_99 : decode cX9_search 99 = .ok (.aload_n 0, 1) := by decide +kernel
theorem dX9_search_100 : decode cX9_search 100 = .ok (.iconst 0, 1) := by decide +kernel
theorem dX9_search_101 : decode cX9_search 101 = .ok (.putfield 67, 3) := by decide +kernel
theorem dX9_search_104 : decode cX9_search 104 = .ok (.aload_n 0, 1) := by decide +kernel
theorem dX9_search_105 : decode cX9_search 105 = .ok (.iconst 0, 1) := by decide +kernel
theorem dX9_search_106 : decode cX9_search 106 = .ok (.putfield 70, 3) := by decide +kernel
theorem dX9_search_109 : decode cX9_search 109 = .ok (.iconst 0, 1) := by decide +kernel
theorem dX9_search_110 : decode cX9_search 110 = .ok (.istore_n 1, 1) := by decide +kernel
theorem dX9_search_111 : decode cX9_search 111 = .ok (.iload_n 1, 1) := by decide +kernel
theorem dX9_search_112 : decode cX9_search 112 = .ok (.aload_n 0, 1) := by decide +kernel
theorem dX9_search_113 : decode cX9_search 113 = .ok (.getfield 27, 3) := by decide +kernel
theorem dX9_search_116 : decode cX9_search 116 = .ok (.getfield 72, 3) := by decide +kernel
theorem dX9_search_119 : decode cX9_search 119 = .ok (.getfield 78, 3) := by decide +kernel
theorem dX9_search_122 : decode cX9_search 122 = .ok (.if_icmp .ge 22, 3) := by decide +kernel
theorem dX9_search_125 : decode cX9_search 125 = .ok (.aload_n 0, 1) := by decide +kernel
theorem dX9_search_126 : decode cX9_search 126 = .ok (.getfield 21, 3) := by decide +kernel
theorem dX9_search_129 : decode cX9_search 129 = .ok (.iconst 0, 1) := by decide +kernel
theorem dX9_search_130 : decode cX9_search 130 = .ok (.iload_n 1, 1) := by decide +kernel
theorem dX9_search_131 : decode cX9_search 131 = .ok (.iastore, 1) := by decide +kernel
theorem dX9_search_132 : decode cX9_search 132 = .ok (.aload_n 0, 1) := by decide +kernel
theorem dX9_search_133 : decode cX9_search 133 = .ok (.iconst 1, 1) := by decide +kernel
theorem dX9_search_134 : decode cX9_search 134 = .ok (.iconst 0, 1) := by decide +kernel
theorem dX9_search_135 : decode cX9_search 135 = .ok (.invokevirtual 83, 3) := by decide +kernel
theorem dX9_search_138 : decode cX9_search 138 = .ok (.iinc 1 1, 3) := by decide +kernel
theorem dX9_search_141 : decode cX9_search 141 = .ok (.goto (-30), 3) := by decide +kernel
theorem dX9_search_144 : decode cX9_search 144 = .ok (.return_, 1) := by decide +kernel
theorem dX9_offer_0 : decode cX9_offer 0 = .ok (.aload_n 0, 1) := by decide +kernel
theorem dX9_offer_1 : decode cX9_offer 1 = .ok (.getfield 27, 3) := by decide +kernel
theorem dX9_offer_4 : decode cX9_offer 4 = .ok (.getfield 87, 3) := by decide +kernel
theorem dX9_offer_7 : decode cX9_offer 7 = .ok (.getfield 91, 3) := by decide +kernel
theorem dX9_offer_10 : decode cX9_offer 10 = .ok (.iload_n 1, 1) := by decide +kernel
theorem dX9_offer_11 : decode cX9_offer 11 = .ok (.iaload, 1) := by decide +kernel
theorem dX9_offer_12 : decode cX9_offer 12 = .ok (.bipush 8, 2) := by decide +kernel
theorem dX9_offer_14 : decode cX9_offer 14 = .ok (.imul, 1) := by decide +kernel
theorem dX9_offer_15 : decode cX9_offer 15 = .ok (.aload_n 0, 1) := by decide +kernel
theorem dX9_offer_16 : decode cX9_offer 16 = .ok (.getfield 27, 3) := by decide +kernel
theorem dX9_offer_19 : decode cX9_offer 19 = .ok (.getfield 87, 3) := by decide +kernel
theorem dX9_offer_22 : decode cX9_offer 22 = .ok (.getfield 91, 3) := by decide +kernel
theorem dX9_offer_25 : decode cX9_offer 25 = .ok (.iload_n 2, 1) := by decide +kernel
theorem dX9_offer_26 : decode cX9_offer 26 = .ok (.iaload, 1) := by decide +kernel
theorem dX9_offer_27 : decode cX9_offer 27 = .ok (.iadd, 1) := by decide +kernel
theorem dX9_offer_28 : decode cX9_offer 28 = .ok (.istore 4, 2) := by decide +kernel
theorem dX9_offer_30 : decode cX9_offer 30 = .ok (.aload_n 0, 1) := by decide +kernel
theorem dX9_offer_31 : decode cX9_offer 31 = .ok (.getfield 9, 3) := by decide +kernel
theorem dX9_offer_34 : decode cX9_offer 34 = .ok (.iload 4, 2) := by decide +kernel
theorem dX9_offer_36 : decode cX9_offer 36 = .ok (.iaload, 1) := by decide +kernel
theorem dX9_offer_37 : decode cX9_offer 37 = .ok (.iconst (-1), 1) := by decide +kernel
theorem dX9_offer_38 : decode cX9_offer 38 = .ok (.if_icmp .eq 14, 3) := by decide +kernel
theorem dX9_offer_41 : decode cX9_offer 41 = .ok (.iload_n 3, 1) := by decide +kernel
theorem dX9_offer_42 : decode cX9_offer 42 = .ok (.aload_n 0, 1) := by decide +kernel
theorem dX9_offer_43 : decode cX9_offer 43 = .ok (.getfield 18, 3) := by decide +kernel
theorem dX9_offer_46 : decode cX9_offer 46 = .ok (.iload 4, 2) := by decide +kernel
theorem dX9_offer_48 : decode cX9_offer 48 = .ok (.iaload, 1) := by decide +kernel
theorem dX9_offer_49 : decode cX9_offer 49 = .ok (.if_icmp .le 27, 3) := by decide +kernel
theorem dX9_offer_52 : decode cX9_offer 52 = .ok (.aload_n 0, 1) := by decide +kernel
theorem dX9_offer_53 : decode cX9_offer 53 = .ok (.getfield 9, 3) := by decide +kernel
theorem dX9_offer_56 : decode cX9_offer 56 = .ok (.iload 4, 2) := by decide +kernel
theorem dX9_offer_58 : decode cX9_offer 58 = .ok (.iload_n 1, 1) := by decide +kernel
theorem dX9_offer_59 : decode cX9_offer 59 = .ok (.iastore, 1) := by decide +kernel
theorem dX9_offer_60 : decode cX9_offer 60 = .ok (.aload_n 0, 1) := by decide +kernel
theorem dX9_offer_61 : decode cX9_offer 61 = .ok (.getfield 15, 3) := by decide +kernel
theorem dX9_offer_64 : decode cX9_offer 64 = .ok (.iload 4, 2) := by decide +kernel
theorem dX9_offer_66 : decode cX9_offer 66 = .ok (.iload_n 2, 1) := by decide +kernel
theorem dX9_offer_67 : decode cX9_offer 67 = .ok (.iastore, 1) := by decide +kernel
theorem dX9_offer_68 : decode cX9_offer 68 = .ok (.aload_n 0, 1) := by decide +kernel
theorem dX9_offer_69 : decode cX9_offer 69 = .ok (.getfield 18, 3) := by decide +kernel
theorem dX9_offer_72 : decode cX9_offer 72 = .ok (.iload 4, 2) := by decide +kernel
theorem dX9_offer_74 : decode cX9_offer 74 = .ok (.iload_n 3, 1) := by decide +kernel
theorem dX9_offer_75 : decode cX9_offer 75 = .ok (.iastore, 1) := by decide +kernel
theorem dX9_offer_76 : decode cX9_offer 76 = .ok (.return_, 1) := by decide +kernel
theorem dX9_extend_0 : decode cX9_extend 0 = .ok (.aload_n 0, 1) := by decide +kernel
theorem dX9_extend_1 : decode cX9_extend 1 = .ok (.getfield 21, 3) := by decide +kernel
theorem dX9_extend_4 : decode cX9_extend 4 = .ok (.iload_n 1, 1) := by decide +kernel
theorem dX9_extend_5 : decode cX9_extend 5 = .ok (.iconst 1, 1) := by decide +kernel
theorem dX9_extend_6 : decode cX9_extend 6 = .ok (.isub, 1) := by decide +kernel
theorem dX9_extend_7 : decode cX9_extend 7 = .ok (.iaload, 1) := by decide +kernel
theorem dX9_extend_8 : decode cX9_extend 8 = .ok (.istore_n 3, 1) := by decide +kernel
theorem dX9_extend_9 : decode cX9_extend 9 = .ok (.iload_n 3, 1) := by decide +kernel
theorem dX9_extend_10 : decode cX9_extend 10 = .ok (.bipush 8, 2) := by decide +kernel
theorem dX9_extend_12 : decode cX9_extend 12 = .ok (.imul, 1) := by decide +kernel
theorem dX9_extend_13 : decode cX9_extend 13 = .ok (.aload_n 0, 1) := by decide +kernel
theorem dX9_extend_14 : decode cX9_extend 14 = .ok (.getfield 21, 3) := by decide +kernel
theorem dX9_extend_17 : decode cX9_extend 17 = .ok (.iconst 0, 1) := by decide +kernel
theorem dX9_extend_18 : decode cX9_extend 18 = .ok (.iaload, 1) := by decide +kernel
theorem dX9_extend_19 : decode cX9_extend 19 = .ok (.iadd, 1) := by decide +kernel
theorem dX9_extend_20 : decode cX9_extend 20 = .ok (.istore 4, 2) := by decide +kernel
theorem dX9_extend_22 : decode cX9_extend 22 = .ok (.iload_n 1, 1) := by decide +kernel
theorem dX9_extend_23 : decode cX9_extend 23 = .ok (.iconst 1, 1) := by decide +kernel
theorem dX9_extend_24 : decode cX9_extend 24 = .ok (.if_icmp .le 28, 3) := by decide +kernel
theorem dX9_extend_27 : decode cX9_extend 27 = .ok (.aload_n 0, 1) := by decide +kernel
theorem dX9_extend_28 : decode cX9_extend 28 = .ok (.getfield 9, 3) := by decide +kernel
theorem dX9_extend_31 : decode cX9_extend 31 = .ok (.iload 4, 2) := by decide +kernel
theorem dX9_extend_33 : decode cX9_extend 33 = .ok (.iaload, 1) := by decide +kernel
theorem dX9_extend_34 : decode cX9_extend 34 = .ok (.iconst (-1), 1) := by decide +kernel
theorem dX9_extend_35 : decode cX9_extend 35 = .ok (.if_icmp .eq 17, 3) := by decide +kernel
theorem dX9_extend_38 : decode cX9_extend 38 = .ok (.aload_n 0, 1) := by decide +kernel
theorem dX9_extend_39 : decode cX9_extend 39 = .ok (.iload_n 1, 1) := by decide +kernel
theorem dX9_extend_40 : decode cX9_extend 40 = .ok (.iload_n 2, 1) := by decide +kernel
theorem dX9_extend_41 : decode cX9_extend 41 = .ok (.aload_n 0, 1) := by decide +kernel
theorem dX9_extend_42 : decode cX9_extend 42 = .ok (.getfield 18, 3) := by decide +kernel
theorem dX9_extend_45 : decode cX9_extend 45 = .ok (.iload 4, 2) := by decide +kernel
theorem dX9_extend_47 : decode cX9_extend 47 = .ok (.iaload, 1) := by decide +kernel
theorem dX9_extend_48 : decode cX9_extend 48 = .ok (.iadd, 1) := by decide +kernel
theorem dX9_extend_49 : decode cX9_extend 49 = .ok (.invokevirtual 96, 3) := by decide +kernel
theorem dX9_extend_52 : decode cX9_extend 52 = .ok (.iload_n 1, 1) := by decide +kernel
theorem dX9_extend_53 : decode cX9_extend 53 = .ok (.iconst 4, 1) := by decide +kernel
theorem dX9_extend_54 : decode cX9_extend 54 = .ok (.if_icmp .lt 4, 3) := by decide +kernel
theorem dX9_extend_57 : decode cX9_extend 57 = .ok (.return_, 1) := by decide +kernel
theorem dX9_extend_58 : decode cX9_extend 58 = .ok (.aload_n 0, 1) := by decide +kernel
theorem dX9_extend_59 : decode cX9_extend 59 = .ok (.getfield 21, 3) := by decide +kernel
theorem dX9_extend_62 : decode cX9_extend 62 = .ok (.iconst 0, 1) := by decide +kernel
theorem dX9_extend_63 : decode cX9_extend 63 = .ok (.iaload, 1) := by decide +kernel
theorem dX9_extend_64 : decode cX9_extend 64 = .ok (.iconst 1, 1) := by decide +kernel
theorem dX9_extend_65 : decode cX9_extend 65 = .ok (.iadd, 1) := by decide +kernel
theorem dX9_extend_66 : decode cX9_extend 66 = .ok (.istore 5, 2) := by decide +kernel
theorem dX9_extend_68 : decode cX9_extend 68 = .ok (.iload 5, 2) := by decide +kernel
theorem dX9_extend_70 : decode cX9_extend 70 = .ok (.aload_n 0, 1) := by decide +kernel
theorem dX9_extend_71 : decode cX9_extend 71 = .ok (.getfield 27, 3) := by decide +kernel
theorem dX9_extend_74 : decode cX9_extend 74 = .ok (.getfield 72, 3) := by decide +kernel
theorem dX9_extend_77 : decode cX9_extend 77 = .ok (.getfield 78, 3) := by decide +kernel
theorem dX9_extend_80 : decode cX9_extend 80 = .ok (.if_icmp .ge 63, 3) := by decide +kernel
theorem dX9_extend_83 : decode cX9_extend 83 = .ok (.iload_n 3, 1) := by decide +kernel
theorem dX9_extend_84 : decode cX9_extend 84 = .ok (.bipush 8, 2) := by decide +kernel
theorem dX9_extend_86 : decode cX9_extend 86 = .ok (.imul, 1) := by decide +kernel
theorem dX9_extend_87 : decode cX9_extend 87 = .ok (.iload 5, 2) := by decide +kernel
theorem dX9_extend_89 : decode cX9_extend 89 = .ok (.iadd, 1) := by decide +kernel
theorem dX9_extend_90 : decode cX9_extend 90 = .ok (.istore 6, 2) := by decide +kernel
theorem dX9_extend_92 : decode cX9_extend 92 = .ok (.aload_n 0, 1) := by decide +kernel
theorem dX9_extend_93 : decode cX9_extend 93 = .ok (.getfield 9, 3) := by decide +kernel
theorem dX9_extend_96 : decode cX9_extend 96 = .ok (.iload 6, 2) := by decide +kernel
theorem dX9_extend_98 : decode cX9_extend 98 = .ok (.iaload, 1) := by decide +kernel
theorem dX9_extend_99 : decode cX9_extend 99 = .ok (.iconst (-1), 1) := by decide +kernel
theorem dX9_extend_100 : decode cX9_extend 100 = .ok (.if_icmp .eq 37, 3) := by decide +kernel
theorem dX9_extend_103 : decode cX9_extend 103 = .ok (.aload_n 0, 1) := by decide +kernel
theorem dX9_extend_104 : decode cX9_extend 104 = .ok (.iload 5, 2) := by decide +kernel
theorem dX9_extend_106 : decode cX9_extend 106 = .ok (.iload_n 1, 1) := by decide +kernel
theorem dX9_extend_107 : decode cX9_extend 107 = .ok (.invokevirtual 99, 3) := by decide +kernel
theorem dX9_extend_110 : decode cX9_extend 110 = .ok (.ifCond .ne 27, 3) := by decide +kernel
theorem dX9_extend_113 : decode cX9_extend 113 = .ok (.aload_n 0, 1) := by decide +kernel
theorem dX9_extend_114 : decode cX9_extend 114 = .ok (.getfield 21, 3) := by decide +kernel
theorem dX9_extend_117 : decode cX9_extend 117 = .ok (.iload_n 1, 1) := by decide +kernel
theorem dX9_extend_118 : decode cX9_extend 118 = .ok (.iload 5, 2) := by decide +kernel
theorem dX9_extend_120 : decode cX9_extend 120 = .ok (.iastore, 1) := by decide +kernel
theorem dX9_extend_121 : decode cX9_extend 121 = .ok (.aload_n 0, 1) := by decide +kernel
theorem dX9_extend_122 : decode cX9_extend 122 = .ok (.iload_n 1, 1) := by decide +kernel
theorem dX9_extend_123 : decode cX9_extend 123 = .ok (.iconst 1, 1) := by decide +kernel
theorem dX9_extend_124 : decode cX9_extend 124 = .ok (.iadd, 1) := by decide +kernel
theorem dX9_extend_125 : decode cX9_extend 125 = .ok (.iload_n 2, 1) := by decide +kernel
theorem dX9_extend_126 : decode cX9_extend 126 = .ok (.aload_n 0, 1) := by decide +kernel
theorem dX9_extend_127 : decode cX9_extend 127 = .ok (.getfield 18, 3) := by decide +kernel
theorem dX9_extend_130 : decode cX9_extend 130 = .ok (.iload 6, 2) := by decide +kernel
theorem dX9_extend_132 : decode cX9_extend 132 = .ok (.iaload, 1) := by decide +kernel
theorem dX9_extend_133 : decode cX9_extend 133 = .ok (.iadd, 1) := by decide +kernel
theorem dX9_extend_134 : decode cX9_extend 134 = .ok (.invokevirtual 83, 3) := by decide +kernel
theorem dX9_extend_137 : decode cX9_extend 137 = .ok (.iinc 5 1, 3) := by decide +kernel
theorem dX9_extend_140 : decode cX9_extend 140 = .ok (.goto (-72), 3) := by decide +kernel
theorem dX9_extend_143 : decode cX9_extend 143 = .ok (.return_, 1) := by decide +kernel
theorem dX9_isOnTrial_0 : decode cX9_isOnTrial 0 = .ok (.iconst 0, 1) := by decide +kernel
theorem dX9_isOnTrial_1 : decode cX9_isOnTrial 1 = .ok (.istore_n 3, 1) := by decide +kernel
theorem dX9_isOnTrial_2 : decode cX9_isOnTrial 2 = .ok (.iload_n 3, 1) := by decide +kernel
theorem dX9_isOnTrial_3 : decode cX9_isOnTrial 3 = .ok (.iload_n 2, 1) := by decide +kernel
theorem dX9_isOnTrial_4 : decode cX9_isOnTrial 4 = .ok (.if_icmp .ge 21, 3) := by decide +kernel
theorem dX9_isOnTrial_7 : decode cX9_isOnTrial 7 = .ok (.aload_n 0, 1) := by decide +kernel
theorem dX9_isOnTrial_8 : decode cX9_isOnTrial 8 = .ok (.getfield 21, 3) := by decide +kernel
theorem dX9_isOnTrial_11 : decode cX9_isOnTrial 11 = .ok (.iload_n 3, 1) := by decide +kernel
theorem dX9_isOnTrial_12 : decode cX9_isOnTrial 12 = .ok (.iaload, 1) := by decide +kernel
theorem dX9_isOnTrial_13 : decode cX9_isOnTrial 13 = .ok (.iload_n 1, 1) := by decide +kernel
theorem dX9_isOnTrial_14 : decode cX9_isOnTrial 14 = .ok (.if_icmp .ne 5, 3) := by decide +kernel
theorem dX9_isOnTrial_17 : decode cX9_isOnTrial 17 = .ok (.iconst 1, 1) := by decide +kernel
theorem dX9_isOnTrial_18 : decode cX9_isOnTrial 18 = .ok (.ireturn, 1) := by decide +kernel
theorem dX9_isOnTrial_19 : decode cX9_isOnTrial 19 = .ok (.iinc 3 1, 3) := by decide +kernel
theorem dX9_isOnTrial_22 : decode cX9_isOnTrial 22 = .ok (.goto (-20), 3) := by decide +kernel
theorem dX9_isOnTrial_25 : decode cX9_isOnTrial 25 = .ok (.iconst 0, 1) := by decide +kernel
theorem dX9_isOnTrial_26 : decode cX9_isOnTrial 26 = .ok (.ireturn, 1) := by decide +kernel
theorem dX9_consider_0 : decode cX9_consider 0 = .ok (.aload_n 0, 1) := by decide +kernel
theorem dX9_consider_1 : decode cX9_consider 1 = .ok (.getfield 67, 3) := by decide +kernel
theorem dX9_consider_4 : decode cX9_consider 4 = .ok (.ifCond .eq 27, 3) := by decide +kernel
theorem dX9_consider_7 : decode cX9_consider 7 = .ok (.iload_n 2, 1) := by decide +kernel
theorem dX9_consider_8 : decode cX9_consider 8 = .ok (.aload_n 0, 1) := by decide +kernel
theorem dX9_consider_9 : decode cX9_consider 9 = .ok (.getfield 70, 3) := by decide +kernel
theorem dX9_consider_12 : decode cX9_consider 12 = .ok (.if_icmp .gt 19, 3) := by decide +kernel
theorem dX9_consider_15 : decode cX9_consider 15 = .ok (.iload_n 2, 1) := by decide +kernel
theorem dX9_consider_16 : decode cX9_consider 16 = .ok (.aload_n 0, 1) := by decide +kernel
theorem dX9_consider_17 : decode cX9_consider 17 = .ok (.getfield 70, 3) := by decide +kernel
theorem dX9_consider_20 : decode cX9_consider 20 = .ok (.if_icmp .ne 32, 3) := by decide +kernel
theorem dX9_consider_23 : decode cX9_consider 23 = .ok (.iload_n 1, 1) := by decide +kernel
theorem dX9_consider_24 : decode cX9_consider 24 = .ok (.aload_n 0, 1) := by decide +kernel
theorem dX9_consider_25 : decode cX9_consider 25 = .ok (.getfield 67, 3) := by decide +kernel
theorem dX9_consider_28 : decode cX9_consider 28 = .ok (.if_icmp .ge 24, 3) := by decide +kernel
theorem dX9_consider_31 : decode cX9_consider 31 = .ok (.aload_n 0, 1) := by decide +kernel
theorem dX9_consider_32 : decode cX9_consider 32 = .ok (.iload_n 1, 1) := by decide +kernel
theorem dX9_consider_33 : decode cX9_consider 33 = .ok (.putfield 67, 3) := by decide +kernel
theorem dX9_consider_36 : decode cX9_consider 36 = .ok (.aload_n 0, 1) := by decide +kernel
theorem dX9_consider_37 : decode cX9_consider 37 = .ok (.iload_n 2, 1) := by decide +kernel
theorem dX9_consider_38 : decode cX9_consider 38 = .ok (.putfield 70, 3) := by decide +kernel
theorem dX9_consider_41 : decode cX9_consider 41 = .ok (.aload_n 0, 1) := by decide +kernel
theorem dX9_consider_42 : decode cX9_consider 42 = .ok (.getfield 21, 3) := by decide +kernel
theorem dX9_consider_45 : decode cX9_consider 45 = .ok (.aload_n 0, 1) := by decide +kernel
theorem dX9_consider_46 : decode cX9_consider 46 = .ok (.getfield 24, 3) := by decide +kernel
theorem dX9_consider_49 : decode cX9_consider 49 = .ok (.invokestatic 103, 3) := by decide +kernel
theorem dX9_consider_52 : decode cX9_consider 52 = .ok (.return_, 1) := by decide +kernel
theorem dX9_brideAt_0 : decode cX9_brideAt 0 = .ok (.aload_n 0, 1) := by decide +kernel
theorem dX9_brideAt_1 : decode cX9_brideAt 1 = .ok (.getfield 9, 3) := by decide +kernel
theorem dX9_brideAt_4 : decode cX9_brideAt 4 = .ok (.aload_n 0, 1) := by decide +kernel
theorem dX9_brideAt_5 : decode cX9_brideAt 5 = .ok (.iload_n 1, 1) := by decide +kernel
theorem dX9_brideAt_6 : decode cX9_brideAt 6 = .ok (.invokevirtual 107, 3) := by decide +kernel
theorem dX9_brideAt_9 : decode cX9_brideAt 9 = .ok (.iaload, 1) := by decide +kernel
theorem dX9_brideAt_10 : decode cX9_brideAt 10 = .ok (.ireturn, 1) := by decide +kernel
theorem dX9_groomAt_0 : decode cX9_groomAt 0 = .ok (.aload_n 0, 1) := by decide +kernel
theorem dX9_groomAt_1 : decode cX9_groomAt 1 = .ok (.getfield 15, 3) := by decide +kernel
theorem dX9_groomAt_4 : decode cX9_groomAt 4 = .ok (.aload_n 0, 1) := by decide +kernel
theorem dX9_groomAt_5 : decode cX9_groomAt 5 = .ok (.iload_n 1, 1) := by decide +kernel
theorem dX9_groomAt_6 : decode cX9_groomAt 6 = .ok (.invokevirtual 107, 3) := by decide +kernel
theorem dX9_groomAt_9 : decode cX9_groomAt 9 = .ok (.iaload, 1) := by decide +kernel
theorem dX9_groomAt_10 : decode cX9_groomAt 10 = .ok (.ireturn, 1) := by decide +kernel
theorem dX9_linkAt_0 : decode cX9_linkAt 0 = .ok (.iload_n 1, 1) := by decide +kernel
theorem dX9_linkAt_1 : decode cX9_linkAt 1 = .ok (.iconst 1, 1) := by decide +kernel
theorem dX9_linkAt_2 : decode cX9_linkAt 2 = .ok (.iadd, 1) := by decide +kernel
theorem dX9_linkAt_3 : decode cX9_linkAt 3 = .ok (.aload_n 0, 1) := by decide +kernel
theorem dX9_linkAt_4 : decode cX9_linkAt 4 = .ok (.getfield 67, 3) := by decide +kernel
theorem dX9_linkAt_7 : decode cX9_linkAt 7 = .ok (.if_icmp .ge 9, 3) := by decide +kernel
theorem dX9_linkAt_10 : decode cX9_linkAt 10 = .ok (.iload_n 1, 1) := by decide +kernel
theorem dX9_linkAt_11 : decode cX9_linkAt 11 = .ok (.iconst 1, 1) := by decide +kernel
theorem dX9_linkAt_12 : decode cX9_linkAt 12 = .ok (.iadd, 1) := by decide +kernel
theorem dX9_linkAt_13 : decode cX9_linkAt 13 = .ok (.goto 4, 3) := by decide +kernel
theorem dX9_linkAt_16 : decode cX9_linkAt 16 = .ok (.iconst 0, 1) := by decide +kernel
theorem dX9_linkAt_17 : decode cX9_linkAt 17 = .ok (.istore_n 2, 1) := by decide +kernel
theorem dX9_linkAt_18 : decode cX9_linkAt 18 = .ok (.aload_n 0, 1) := by decide +kernel
theorem dX9_linkAt_19 : decode cX9_linkAt 19 = .ok (.getfield 24, 3) := by decide +kernel
theorem dX9_linkAt_22 : decode cX9_linkAt 22 = .ok (.iload_n 1, 1) := by decide +kernel
theorem dX9_linkAt_23 : decode cX9_linkAt 23 = .ok (.iaload, 1) := by decide +kernel
theorem dX9_linkAt_24 : decode cX9_linkAt 24 = .ok (.bipush 8, 2) := by decide +kernel
theorem dX9_linkAt_26 : decode cX9_linkAt 26 = .ok (.imul, 1) := by decide +kernel
theorem dX9_linkAt_27 : decode cX9_linkAt 27 = .ok (.aload_n 0, 1) := by decide +kernel
theorem dX9_linkAt_28 : decode cX9_linkAt 28 = .ok (.getfield 24, 3) := by decide +kernel
theorem dX9_linkAt_31 : decode cX9_linkAt 31 = .ok (.iload_n 2, 1) := by decide +kernel
theorem dX9_linkAt_32 : decode cX9_linkAt 32 = .ok (.iaload, 1) := by decide +kernel
theorem dX9_linkAt_33 : decode cX9_linkAt 33 = .ok (.iadd, 1) := by decide +kernel
theorem dX9_linkAt_34 : decode cX9_linkAt 34 = .ok (.ireturn, 1) := by decide +kernel
theorem dX10_init_0 : decode cX10_init 0 = .ok (.aload_n 0, 1) := by decide +kernel
theorem dX10_init_1 : decode cX10_init 1 = .ok (.invokespecial 3, 3) := by decide +kernel
theorem dX10_init_4 : decode cX10_init 4 = .ok (.aload_n 0, 1) := by decide +kernel
theorem dX10_init_5 : decode cX10_init 5 = .ok (.iload_n 1, 1) := by decide +kernel
theorem dX10_init_6 : decode cX10_init 6 = .ok (.putfield 9, 3) := by decide +kernel
theorem dX10_init_9 : decode cX10_init 9 = .ok (.aload_n 0, 1) := by decide +kernel
theorem dX10_init_10 : decode cX10_init 10 = .ok (.iload_n 1, 1) := by decide +kernel
theorem dX10_init_11 : decode cX10_init 11 = .ok (.newarray .int, 2) := by decide +kernel
theorem dX10_init_13 : decode cX10_init 13 = .ok (.putfield 15, 3) := by decide +kernel
theorem dX10_init_16 : decode cX10_init 16 = .ok (.aload_n 0, 1) := by decide +kernel
theorem dX10_init_17 : decode cX10_init 17 = .ok (.iload_n 1, 1) := by decide +kernel
theorem dX10_init_18 : decode cX10_init 18 = .ok (.newarray .int, 2) := by decide +kernel
theorem dX10_init_20 : decode cX10_init 20 = .ok (.putfield 19, 3) := by decide +kernel
theorem dX10_init_23 : decode cX10_init 23 = .ok (.aload_n 0, 1) := by decide +kernel
theorem dX10_init_24 : decode cX10_init 24 = .ok (.iload_n 1, 1) := by decide +kernel
theorem dX10_init_25 : decode cX10_init 25 = .ok (.iconst 1, 1) := by decide +kernel
theorem dX10_init_26 : decode cX10_init 26 = .ok (.iadd, 1) := by decide +kernel
theorem dX10_init_27 : decode cX10_init 27 = .ok (.newarray .int, 2) := by decide +kernel
theorem dX10_init_29 : decode cX10_init 29 = .ok (.putfield 22, 3) := by decide +kernel
theorem dX10_init_32 : decode cX10_init 32 = .ok (.aload_n 0, 1) := by decide +kernel
theorem dX10_init_33 : decode cX10_init 33 = .ok (.iload_n 2, 1) := by decide +kernel
theorem dX10_init_34 : decode cX10_init 34 = .ok (.newarray .int, 2) := by decide +kernel
theorem dX10_init_36 : decode cX10_init 36 = .ok (.putfield 25, 3) := by decide +kernel
theorem dX10_init_39 : decode cX10_init 39 = .ok (.aload_n 0, 1) := by decide +kernel
theorem dX10_init_40 : decode cX10_init 40 = .ok (.iload_n 2, 1) := by decide +kernel
theorem dX10_init_41 : decode cX10_init 41 = .ok (.newarray .int, 2) := by decide +kernel
theorem dX10_init_43 : decode cX10_init 43 = .ok (.putfield 28, 3) := by decide +kernel
theorem dX10_init_46 : decode cX10_init 46 = .ok (.aload_n 0, 1) := by decide +kernel
theorem dX10_init_47 : decode cX10_init 47 = .ok (.iload_n 2, 1) := by decide +kernel
theorem dX10_init_48 : decode cX10_init 48 = .ok (.newarray .int, 2) := by decide +kernel
theorem dX10_init_50 : decode cX10_init 50 = .ok (.putfield 31, 3) := by decide +kernel
theorem dX10_init_53 : decode cX10_init 53 = .ok (.aload_n 0, 1) := by decide +kernel
theorem dX10_init_54 : decode cX10_init 54 = .ok (.iload_n 2, 1) := by decide +kernel
theorem dX10_init_55 : decode cX10_init 55 = .ok (.newarray .boolean, 2) := by decide +kernel
theorem dX10_init_57 : decode cX10_init 57 = .ok (.putfield 34, 3) := by decide +kernel
theorem dX10_init_60 : decode cX10_init 60 = .ok (.return_, 1) := by decide +kernel
theorem dX10_asksKin_0 : decode cX10_asksKin 0 = .ok (.iconst 0, 1) := by decide +kernel
theorem dX10_asksKin_1 : decode cX10_asksKin 1 = .ok (.istore_n 1, 1) := by decide +kernel
theorem dX10_asksKin_2 : decode cX10_asksKin 2 = .ok (.iload_n 1, 1) := by decide +kernel
theorem dX10_asksKin_3 : decode cX10_asksKin 3 = .ok (.aload_n 0, 1) := by decide +kernel
theorem dX10_asksKin_4 : decode cX10_asksKin 4 = .ok (.getfield 25, 3) := by decide +kernel
theorem dX10_asksKin_7 : decode cX10_asksKin 7 = .ok (.arraylength, 1) := by decide +kernel
theorem dX10_asksKin_8 : decode cX10_asksKin 8 = .ok (.if_icmp .ge 22, 3) := by decide +kernel
theorem dX10_asksKin_11 : decode cX10_asksKin 11 = .ok (.aload_n 0, 1) := by decide +kernel
theorem dX10_asksKin_12 : decode cX10_asksKin 12 = .ok (.getfield 25, 3) := by decide +kernel
theorem dX10_asksKin_15 : decode cX10_asksKin 15 = .ok (.iload_n 1, 1) := by decide +kernel
theorem dX10_asksKin_16 : decode cX10_asksKin 16 = .ok (.iaload, 1) := by decide +kernel
theorem dX10_asksKin_17 : decode cX10_asksKin 17 = .ok (.bipush 6, 2) := by decide +kernel
theorem dX10_asksKin_19 : decode cX10_asksKin 19 = .ok (.if_icmp .ne 5, 3) := by decide +kernel
theorem dX10_asksKin_22 : decode cX10_asksKin 22 = .ok (.iconst 1, 1) := by decide +kernel
theorem dX10_asksKin_23 : decode cX10_asksKin 23 = .ok (.ireturn, 1) := by decide +kernel
theorem dX10_asksKin_24 : decode cX10_asksKin 24 = .ok (.iinc 1 1, 3) := by decide +kernel
theorem dX10_asksKin_27 : decode cX10_asksKin 27 = .ok (.goto (-25), 3) := by decide +kernel
theorem dX10_asksKin_30 : decode cX10_asksKin 30 = .ok (.iconst 0, 1) := by decide +kernel
theorem dX10_asksKin_31 : decode cX10_asksKin 31 = .ok (.ireturn, 1) := by decide +kernel
theorem dX10_holds_0 : decode cX10_holds 0 = .ok (.aload_n 0, 1) := by decide +kernel
theorem dX10_holds_1 : decode cX10_holds 1 = .ok (.getfield 22, 3) := by decide +kernel
theorem dX10_holds_4 : decode cX10_holds 4 = .ok (.iload_n 1, 1) := by decide +kernel
theorem dX10_holds_5 : decode cX10_holds 5 = .ok (.iaload, 1) := by decide +kernel
theorem dX10_holds_6 : decode cX10_holds 6 = .ok (.istore_n 3, 1) := by decide +kernel
theorem dX10_holds_7 : decode cX10_holds 7 = .ok (.iload_n 3, 1) := by decide +kernel
theorem dX10_holds_8 : decode cX10_holds 8 = .ok (.aload_n 0, 1) := by decide +kernel
theorem dX10_holds_9 : decode cX10_holds 9 = .ok (.getfield 22, 3) := by decide +kernel
theorem dX10_holds_12 : decode cX10_holds 12 = .ok (.iload_n 1, 1) := by decide +kernel
theorem dX10_holds_13 : decode cX10_holds 13 = .ok (.iconst 1, 1) := by decide +kernel
theorem dX10_holds_14 : decode cX10_holds 14 = .ok (.iadd, 1) := by decide +kernel
theorem dX10_holds_15 : decode cX10_holds 15 = .ok (.iaload, 1) := by decide +kernel
theorem dX10_holds_16 : decode cX10_holds 16 = .ok (.if_icmp .ge 33, 3) := by decide +kernel
theorem dX10_holds_19 : decode cX10_holds 19 = .ok (.aload_n 0, 1) := by decide +kernel
theorem dX10_holds_20 : decode cX10_holds 20 = .ok (.iload_n 3, 1) := by decide +kernel
theorem dX10_holds_21 : decode cX10_holds 21 = .ok (.aload_n 2, 1) := by decide +kernel
theorem dX10_holds_22 : decode cX10_holds 22 = .ok (.aload_n 0, 1) := by decide +kernel
theorem dX10_holds_23 : decode cX10_holds 23 = .ok (.getfield 25, 3) := by decide +kernel
theorem dX10_holds_26 : decode cX10_holds 26 = .ok (.iload_n 3, 1) := by decide +kernel
theorem dX10_holds_27 : decode cX10_holds 27 = .ok (.iaload, 1) := by decide +kernel
theorem dX10_holds_28 : decode cX10_holds 28 = .ok (.iaload, 1) := by decide +kernel
theorem dX10_holds_29 : decode cX10_holds 29 = .ok (.invokevirtual 38, 3) := by decide +kernel
theorem dX10_holds_32 : decode cX10_holds 32 = .ok (.aload_n 0, 1) := by decide +kernel
theorem dX10_holds_33 : decode cX10_holds 33 = .ok (.getfield 34, 3) := by decide +kernel
theorem dX10_holds_36 : decode cX10_holds 36 = .ok (.iload_n 3, 1) := by decide +kernel
theorem dX10_holds_37 : decode cX10_holds 37 = .ok (.baload, 1) := by decide +kernel
theorem dX10_holds_38 : decode cX10_holds 38 = .ok (.if_icmp .ne 5, 3) := by decide +kernel
theorem dX10_holds_41 : decode cX10_holds 41 = .ok (.iconst 0, 1) := by decide +kernel
theorem dX10_holds_42 : decode cX10_holds 42 = .ok (.ireturn, 1) := by decide +kernel
theorem dX10_holds_43 : decode cX10_holds 43 = .ok (.iinc 3 1, 3) := by decide +kernel
theorem dX10_holds_46 : decode cX10_holds 46 = .ok (.goto (-39), 3) := by decide +kernel
theorem dX10_holds_49 : decode cX10_holds 49 = .ok (.iconst 1, 1) := by decide +kernel
theorem dX10_holds_50 : decode cX10_holds 50 = .ok (.ireturn, 1) := by decide +kernel
theorem dX10_passes_0 : decode cX10_passes 0 = .ok (.aload_n 0, 1) := by decide +kernel
theorem dX10_passes_1 : decode cX10_passes 1 = .ok (.getfield 28, 3) := by decide +kernel
theorem dX10_passes_4 : decode cX10_passes 4 = .ok (.iload_n 1, 1) := by decide +kernel
theorem dX10_passes_5 : decode cX10_passes 5 = .ok (.iaload, 1) := by decide +kernel
theorem dX10_passes_6 : decode cX10_passes 6 = .ok (.tableswitch 74 60 62 #[26, 58, 42], 26) := by decide +kernel
theorem dX10_passes_32 : decode cX10_passes 32 = .ok (.iload_n 2, 1) := by decide +kernel
theorem dX10_passes_33 : decode cX10_passes 33 = .ok (.aload_n 0, 1) := by decide +kernel
theorem dX10_passes_34 : decode cX10_passes 34 = .ok (.getfield 31, 3) := by decide +kernel
theorem dX10_passes_37 : decode cX10_passes 37 = .ok (.iload_n 1, 1) := by decide +kernel
theorem dX10_passes_38 : decode cX10_passes 38 = .ok (.iaload, 1) := by decide +kernel
theorem dX10_passes_39 : decode cX10_passes 39 = .ok (.if_icmp .ge 7, 3) := by decide +kernel
theorem dX10_passes_42 : decode cX10_passes 42 = .ok (.iconst 1, 1) := by decide +kernel
theorem dX10_passes_43 : decode cX10_passes 43 = .ok (.goto 4, 3) := by decide +kernel
theorem dX10_passes_46 : decode cX10_passes 46 = .ok (.iconst 0, 1) := by decide +kernel
theorem dX10_passes_47 : decode cX10_passes 47 = .ok (.ireturn, 1) := by decide +kernel
theorem dX10_passes_48 : decode cX10_passes 48 = .ok (.iload_n 2, 1) := by decide +kernel
theorem dX10_passes_49 : decode cX10_passes 49 = .ok (.aload_n 0, 1) := by decide +kernel
theorem dX10_passes_50 : decode cX10_passes 50 = .ok (.getfield 31, 3) := by decide +kernel
theorem dX10_passes_53 : decode cX10_passes 53 = .ok (.iload_n 1, 1) := by decide +kernel
theorem dX10_passes_54 : decode cX10_passes 54 = .ok (.iaload, 1) := by decide +kernel
theorem dX10_passes_55 : decode cX10_passes 55 = .ok (.if_icmp .le 7, 3) := by decide +kernel
theorem dX10_passes_58 : decode cX10_passes 58 = .ok (.iconst 1, 1) := by decide +kernel
theorem dX10_passes_59 : decode cX10_passes 59 = .ok (.goto 4, 3) := by decide +kernel
theorem dX10_passes_62 : decode cX10_passes 62 = .ok (.iconst 0, 1) := by decide +kernel
theorem dX10_passes_63 : decode cX10_passes 63 = .ok (.ireturn, 1) := by decide +kernel
theorem dX10_passes_64 : decode cX10_passes 64 = .ok (.iload_n 2, 1) := by decide +kernel
theorem dX10_passes_65 : decode cX10_passes 65 = .ok (.aload_n 0, 1) := by decide +kernel
theorem dX10_passes_66 : decode cX10_passes 66 = .ok (.getfield 31, 3) := by decide +kernel
theorem dX10_passes_69 : decode cX10_passes 69 = .ok (.iload_n 1, 1) := by decide +kernel
theorem dX10_passes_70 : decode cX10_passes 70 = .ok (.iaload, 1) := by decide +kernel
theorem dX10_passes_71 : decode cX10_passes 71 = .ok (.if_icmp .ne 7, 3) := by decide +kernel
theorem dX10_passes_74 : decode cX10_passes 74 = .ok (.iconst 1, 1) := by decide +kernel
theorem dX10_passes_75 : decode cX10_passes 75 = .ok (.goto 4, 3) := by decide +kernel
theorem dX10_passes_78 : decode cX10_passes 78 = .ok (.iconst 0, 1) := by decide +kernel
theorem dX10_passes_79 : decode cX10_passes 79 = .ok (.ireturn, 1) := by decide +kernel
theorem dX10_passes_80 : decode cX10_passes 80 = .ok (.iload_n 2, 1) := by decide +kernel
theorem dX10_passes_81 : decode cX10_passes 81 = .ok (.ifCond .eq 7, 3) := by decide +kernel
theorem dX10_passes_84 : decode cX10_passes 84 = .ok (.iconst 1, 1) := by decide +kernel
theorem dX10_passes_85 : decode cX10_passes 85 = .ok (.goto 4, 3) := by decide +kernel
theorem dX10_passes_88 : decode cX10_passes 88 = .ok (.iconst 0, 1) := by decide +kernel
theorem dX10_passes_89 : decode cX10_passes 89 = .ok (.ireturn, 1) := by decide +kernel
theorem dX11_init_0 : decode cX11_init 0 = .ok (.aload_n 0, 1) := by decide +kernel
theorem dX11_init_1 : decode cX11_init 1 = .ok (.invokespecial 3, 3) := by decide +kernel
theorem dX11_init_4 : decode cX11_init 4 = .ok (.aload_n 0, 1) := by decide +kernel
theorem dX11_init_5 : decode cX11_init 5 = .ok (.new 9, 3) := by decide +kernel
theorem dX11_init_8 : decode cX11_init 8 = .ok (.dup, 1) := by decide +kernel
theorem dX11_init_9 : decode cX11_init 9 = .ok (.invokespecial 11, 3) := by decide +kernel
theorem dX11_init_12 : decode cX11_init 12 = .ok (.putfield 12, 3) := by decide +kernel
theorem dX11_init_15 : decode cX11_init 15 = .ok (.aload_n 0, 1) := by decide +kernel
theorem dX11_init_16 : decode cX11_init 16 = .ok (.iconst 3, 1) := by decide +kernel
theorem dX11_init_17 : decode cX11_init 17 = .ok (.anewarray 9, 3) := by decide +kernel
theorem dX11_init_20 : decode cX11_init 20 = .ok (.putfield 16, 3) := by decide +kernel
theorem dX11_init_23 : decode cX11_init 23 = .ok (.aload_n 0, 1) := by decide +kernel
theorem dX11_init_24 : decode cX11_init 24 = .ok (.new 20, 3) := by decide +kernel
theorem dX11_init_27 : decode cX11_init 27 = .ok (.dup, 1) := by decide +kernel
theorem dX11_init_28 : decode cX11_init 28 = .ok (.aload_n 0, 1) := by decide +kernel
theorem dX11_init_29 : decode cX11_init 29 = .ok (.getfield 12, 3) := by decide +kernel
theorem dX11_init_32 : decode cX11_init 32 = .ok (.invokespecial 22, 3) := by decide +kernel
theorem dX11_init_35 : decode cX11_init 35 = .ok (.putfield 25, 3) := by decide +kernel
theorem dX11_init_38 : decode cX11_init 38 = .ok (.aload_n 0, 1) := by decide +kernel
theorem dX11_init_39 : decode cX11_init 39 = .ok (.new 29, 3) := by decide +kernel
theorem dX11_init_42 : decode cX11_init 42 = .ok (.dup, 1) := by decide +kernel
theorem dX11_init_43 : decode cX11_init 43 = .ok (.aload_n 0, 1) := by decide +kernel
theorem dX11_init_44 : decode cX11_init 44 = .ok (.getfield 12, 3) := by decide +kernel
theorem dX11_init_47 : decode cX11_init 47 = .ok (.invokespecial 31, 3) := by decide +kernel
theorem dX11_init_50 : decode cX11_init 50 = .ok (.putfield 32, 3) := by decide +kernel
theorem dX11_init_53 : decode cX11_init 53 = .ok (.aload_n 0, 1) := by decide +kernel
theorem dX11_init_54 : decode cX11_init 54 = .ok (.new 36, 3) := by decide +kernel
theorem dX11_init_57 : decode cX11_init 57 = .ok (.dup, 1) := by decide +kernel
theorem dX11_init_58 : decode cX11_init 58 = .ok (.aload_n 0, 1) := by decide +kernel
theorem dX11_init_59 : decode cX11_init 59 = .ok (.getfield 12, 3) := by decide +kernel
theorem dX11_init_62 : decode cX11_init 62 = .ok (.aload_n 0, 1) := by decide +kernel
theorem dX11_init_63 : decode cX11_init 63 = .ok (.getfield 32, 3) := by decide +kernel
theorem dX11_init_66 : decode cX11_init 66 = .ok (.invokespecial 38, 3) := by decide +kernel
theorem dX11_init_69 : decode cX11_init 69 = .ok (.putfield 41, 3) := by decide +kernel
theorem dX11_init_72 : decode cX11_init 72 = .ok (.aload_n 0, 1) := by decide +kernel
theorem dX11_init_73 : decode cX11_init 73 = .ok (.new 45, 3) := by decide +kernel
theorem dX11_init_76 : decode cX11_init 76 = .ok (.dup, 1) := by decide +kernel
theorem dX11_init_77 : decode cX11_init 77 = .ok (.aload_n 0, 1) := by decide +kernel
theorem dX11_init_78 : decode cX11_init 78 = .ok (.getfield 12, 3) := by decide +kernel
theorem dX11_init_81 : decode cX11_init 81 = .ok (.aload_n 0, 1) := by decide +kernel
theorem dX11_init_82 : decode cX11_init 82 = .ok (.getfield 41, 3) := by decide +kernel
theorem dX11_init_85 : decode cX11_init 85 = .ok (.invokespecial 47, 3) := by decide +kernel
theorem dX11_init_88 : decode cX11_init 88 = .ok (.putfield 50, 3) := by decide +kernel
theorem dX11_init_91 : decode cX11_init 91 = .ok (.aload_n 0, 1) := by decide +kernel
theorem dX11_init_92 : decode cX11_init 92 = .ok (.new 54, 3) := by decide +kernel
theorem dX11_init_95 : decode cX11_init 95 = .ok (.dup, 1) := by decide +kernel
theorem dX11_init_96 : decode cX11_init 96 = .ok (.aload_n 0, 1) := by decide +kernel
theorem dX11_init_97 : decode cX11_init 97 = .ok (.getfield 12, 3) := by decide +kernel
theorem dX11_init_100 : decode cX11_init 100 = .ok (.aload_n 0, 1) := by decide +kernel
theorem dX11_init_101 : decode cX11_init 101 = .ok (.getfield 50, 3) := by decide +kernel
theorem dX11_init_104 : decode cX11_init 104 = .ok (.invokespecial 56, 3) := by decide +kernel
theorem dX11_init_107 : decode cX11_init 107 = .ok (.putfield 59, 3) := by decide +kernel
theorem dX11_init_110 : decode cX11_init 110 = .ok (.return_, 1) := by decide +kernel
theorem dX11_house_0 : decode cX11_house 0 = .ok (.iload_n 1, 1) := by decide +kernel
theorem dX11_house_1 : decode cX11_house 1 = .ok (.iconst 0, 1) := by decide +kernel
theorem dX11_house_2 : decode cX11_house 2 = .ok (.iconst 5, 1) := by decide +kernel
theorem dX11_house_3 : decode cX11_house 3 = .ok (.invokestatic 63, 3) := by decide +kernel
theorem dX11_house_6 : decode cX11_house 6 = .ok (.ifCond .eq 20, 3) := by decide +kernel
theorem dX11_house_9 : decode cX11_house 9 = .ok (.iload_n 2, 1) := by decide +kernel
theorem dX11_house_10 : decode cX11_house 10 = .ok (.invokestatic 67, 3) := by decide +kernel
theorem dX11_house_13 : decode cX11_house 13 = .ok (.ifCond .eq 13, 3) := by decide +kernel
theorem dX11_house_16 : decode cX11_house 16 = .ok (.iload_n 3, 1) := by decide +kernel
theorem dX11_house_17 : decode cX11_house 17 = .ok (.iconst 0, 1) := by decide +kernel
theorem dX11_house_18 : decode cX11_house 18 = .ok (.ldc 71, 2) := by decide +kernel
theorem dX11_house_20 : decode cX11_house 20 = .ok (.invokestatic 63, 3) := by decide +kernel
theorem dX11_house_23 : decode cX11_house 23 = .ok (.ifCond .ne 5, 3) := by decide +kernel
theorem dX11_house_26 : decode cX11_house 26 = .ok (.iconst (-1), 1) := by decide +kernel
theorem dX11_house_27 : decode cX11_house 27 = .ok (.ireturn, 1) := by decide +kernel
theorem dX11_house_28 : decode cX11_house 28 = .ok (.aload_n 0, 1) := by decide +kernel
theorem dX11_house_29 : decode cX11_house 29 = .ok (.getfield 12, 3) := by decide +kernel
theorem dX11_house_32 : decode cX11_house 32 = .ok (.getfield 72, 3) := by decide +kernel
theorem dX11_house_35 : decode cX11_house 35 = .ok (.iload_n 1, 1) := by decide +kernel
theorem dX11_house_36 : decode cX11_house 36 = .ok (.iload_n 2, 1) := by decide +kernel
theorem dX11_house_37 : decode cX11_house 37 = .ok (.iload_n 3, 1) := by decide +kernel
theorem dX11_house_38 : decode cX11_house 38 = .ok (.invokevirtual 76, 3) := by decide +kernel
theorem dX11_house_41 : decode cX11_house 41 = .ok (.ireturn, 1) := by decide +kernel
theorem dX11_person_0 : decode cX11_person 0 = .ok (.aload_n 0, 1) := by decide +kernel
theorem dX11_person_1 : decode cX11_person 1 = .ok (.getfield 12, 3) := by decide +kernel
theorem dX11_person_4 : decode cX11_person 4 = .ok (.getfield 72, 3) := by decide +kernel
theorem dX11_person_7 : decode cX11_person 7 = .ok (.iload_n 1, 1) := by decide +kernel
theorem dX11_person_8 : decode cX11_person 8 = .ok (.invokevirtual 82, 3) := by decide +kernel
theorem dX11_person_11 : decode cX11_person 11 = .ok (.ifCond .eq 22, 3) := by decide +kernel
theorem dX11_person_14 : decode cX11_person 14 = .ok (.iload_n 2, 1) := by decide +kernel
theorem dX11_person_15 : decode cX11_person 15 = .ok (.iconst 0, 1) := by decide +kernel
theorem dX11_person_16 : decode cX11_person 16 = .ok (.iconst 1, 1) := by decide +kernel
theorem dX11_person_17 : decode cX11_person 17 = .ok (.invokestatic 63, 3) := by decide +kernel
theorem dX11_person_20 : decode cX11_person 20 = .ok (.ifCond .eq 13, 3) := by decide +kernel
theorem dX11_person_23 : decode cX11_person 23 = .ok (.iload_n 3, 1) := by decide +kernel
theorem dX11_person_24 : decode cX11_person 24 = .ok (.iconst 0, 1) := by decide +kernel
theorem dX11_person_25 : decode cX11_person 25 = .ok (.bipush 7, 2) := by decide +kernel
theorem dX11_person_27 : decode cX11_person 27 = .ok (.invokestatic 63, 3) := by decide +kernel
theorem dX11_person_30 : decode cX11_person 30 = .ok (.ifCond .ne 5, 3) := by decide +kernel
theorem dX11_person_33 : decode cX11_person 33 = .ok (.iconst (-1), 1) := by decide +kernel
theorem dX11_person_34 : decode cX11_person 34 = .ok (.ireturn, 1) := by decide +kernel
theorem dX11_person_35 : decode cX11_person 35 = .ok (.iload 4, 2) := by decide +kernel
theorem dX11_person_37 : decode cX11_person 37 = .ok (.bipush (-80), 2) := by decide +kernel
theorem dX11_person_39 : decode cX11_person 39 = .ok (.aload_n 0, 1) := by decide +kernel
theorem dX11_person_40 : decode cX11_person 40 = .ok (.getfield 12, 3) := by decide +kernel
theorem dX11_person_43 : decode cX11_person 43 = .ok (.getfield 85, 3) := by decide +kernel
theorem dX11_person_46 : decode cX11_person 46 = .ok (.invokestatic 63, 3) := by decide +kernel
theorem dX11_person_49 : decode cX11_person 49 = .ok (.ifCond .ne 5, 3) := by decide +kernel
theorem dX11_person_52 : decode cX11_person 52 = .ok (.iconst (-1), 1) := by decide +kernel
theorem dX11_person_53 : decode cX11_person 53 = .ok (.ireturn, 1) := by decide +kernel
theorem dX11_person_54 : decode cX11_person 54 = .ok (.aload_n 0, 1) := by decide +kernel
theorem dX11_person_55 : decode cX11_person 55 = .ok (.getfield 12, 3) := by decide +kernel
theorem dX11_person_58 : decode cX11_person 58 = .ok (.getfield 89, 3) := by decide +kernel
theorem dX11_person_61 : decode cX11_person 61 = .ok (.iload_n 1, 1) := by decide +kernel
theorem dX11_person_62 : decode cX11_person 62 = .ok (.iload_n 2, 1) := by decide +kernel
theorem dX11_person_63 : decode cX11_person 63 = .ok (.iload_n 3, 1) := by decide +kernel
theorem dX11_person_64 : decode cX11_person 64 = .ok (.iload 4, 2) := by decide +kernel
theorem dX11_person_66 : decode cX11_person 66 = .ok (.invokevirtual 93, 3) := by decide +kernel
theorem dX11_person_69 : decode cX11_person 69 = .ok (.ireturn, 1) := by decide +kernel
theorem dX11_road_0 : decode cX11_road 0 = .ok (.iload_n 1, 1) := by decide +kernel
theorem dX11_road_1 : decode cX11_road 1 = .ok (.invokestatic 67, 3) := by decide +kernel
theorem dX11_road_4 : decode cX11_road 4 = .ok (.ifCond .eq 15, 3) := by decide +kernel
theorem dX11_road_7 : decode cX11_road 7 = .ok (.iload_n 2, 1) := by decide +kernel
theorem dX11_road_8 : decode cX11_road 8 = .ok (.invokestatic 67, 3) := by decide +kernel
theorem dX11_road_11 : decode cX11_road 11 = .ok (.ifCond .eq 8, 3) := by decide +kernel
theorem dX11_road_14 : decode cX11_road 14 = .ok (.iload_n 1, 1) := by decide +kernel
theorem dX11_road_15 : decode cX11_road 15 = .ok (.iload_n 2, 1) := by decide +kernel
theorem dX11_road_16 : decode cX11_road 16 = .ok (.if_icmp .ne 5, 3) := by decide +kernel
theorem dX11_road_19 : decode cX11_road 19 = .ok (.iconst 0, 1) := by decide +kernel
theorem dX11_road_20 : decode cX11_road 20 = .ok (.ireturn, 1) := by decide +kernel
theorem dX11_road_21 : decode cX11_road 21 = .ok (.iload_n 3, 1) := by decide +kernel
theorem dX11_road_22 : decode cX11_road 22 = .ok (.iconst (-1), 1) := by decide +kernel
theorem dX11_road_23 : decode cX11_road 23 = .ok (.if_icmp .eq 15, 3) := by decide +kernel
theorem dX11_road_26 : decode cX11_road 26 = .ok (.iload_n 3, 1) := by decide +kernel
theorem dX11_road_27 : decode cX11_road 27 = .ok (.iconst 0, 1) := by decide +kernel
theorem dX11_road_28 : decode cX11_road 28 = .ok (.bipush 9, 2) := by decide +kernel
theorem dX11_road_30 : decode cX11_road 30 = .ok (.invokestatic 63, 3) := by decide +kernel
theorem dX11_road_33 : decode cX11_road 33 = .ok (.ifCond .ne 5, 3) := by decide +kernel
theorem dX11_road_36 : decode cX11_road 36 = .ok (.iconst 0, 1) := by decide +kernel
theorem dX11_road_37 : decode cX11_road 37 = .ok (.ireturn, 1) := by decide +kernel
theorem dX11_road_38 : decode cX11_road 38 = .ok (.aload_n 0, 1) := by decide +kernel
theorem dX11_road_39 : decode cX11_road 39 = .ok (.getfield 12, 3) := by decide +kernel
theorem dX11_road_42 : decode cX11_road 42 = .ok (.getfield 98, 3) := by decide +kernel
theorem dX11_road_45 : decode cX11_road 45 = .ok (.iload_n 1, 1) := by decide +kernel
theorem dX11_road_46 : decode cX11_road 46 = .ok (.iload_n 2, 1) := by decide +kernel
theorem dX11_road_47 : decode cX11_road 47 = .ok (.iload_n 3, 1) := by decide +kernel
theorem dX11_road_48 : decode cX11_road 48 = .ok (.invokevirtual 102, 3) := by decide +kernel
theorem dX11_road_51 : decode cX11_road 51 = .ok (.aload_n 0, 1) := by decide +kernel
theorem dX11_road_52 : decode cX11_road 52 = .ok (.getfield 32, 3) := by decide +kernel
theorem dX11_road_55 : decode cX11_road 55 = .ok (.invokevirtual 108, 3) := by decide +kernel
theorem dX11_road_58 : decode cX11_road 58 = .ok (.iconst 1, 1) := by decide +kernel
theorem dX11_road_59 : decode cX11_road 59 = .ok (.ireturn, 1) := by decide +kernel
theorem dX11_feud_0 : decode cX11_feud 0 = .ok (.aload_n 0, 1) := by decide +kernel
theorem dX11_feud_1 : decode cX11_feud 1 = .ok (.getfield 12, 3) := by decide +kernel
theorem dX11_feud_4 : decode cX11_feud 4 = .ok (.getfield 72, 3) := by decide +kernel
theorem dX11_feud_7 : decode cX11_feud 7 = .ok (.astore 4, 2) := by decide +kernel
theorem dX11_feud_9 : decode cX11_feud 9 = .ok (.aload 4, 2) := by decide +kernel
theorem dX11_feud_11 : decode cX11_feud 11 = .ok (.iload_n 1, 1) := by decide +kernel
theorem dX11_feud_12 : decode cX11_feud 12 = .ok (.invokevirtual 82, 3) := by decide +kernel
theorem dX11_feud_15 : decode cX11_feud 15 = .ok (.ifCond .eq 28, 3) := by decide +kernel
theorem dX11_feud_18 : decode cX11_feud 18 = .ok (.aload 4, 2) := by decide +kernel
theorem dX11_feud_20 : decode cX11_feud 20 = .ok (.iload_n 2, 1) := by decide +kernel
theorem dX11_feud_21 : decode cX11_feud 21 = .ok (.invokevirtual 82, 3) := by decide +kernel
theorem dX11_feud_24 : decode cX11_feud 24 = .ok (.ifCond .eq 19, 3) := by decide +kernel
theorem dX11_feud_27 : decode cX11_feud 27 = .ok (.iload_n 1, 1) := by decide +kernel
theorem dX11_feud_28 : decode cX11_feud 28 = .ok (.iload_n 2, 1) := by decide +kernel
theorem dX11_feud_29 : decode cX11_feud 29 = .ok (.if_icmp .eq 14, 3) := by decide +kernel
theorem dX11_feud_32 : decode cX11_feud 32 = .ok (.aload 4, 2) := by decide +kernel
theorem dX11_feud_34 : decode cX11_feud 34 = .ok (.iload_n 1, 1) := by decide +kernel
theorem dX11_feud_35 : decode cX11_feud 35 = .ok (.iload_n 2, 1) := by decide +kernel
theorem dX11_feud_36 : decode cX11_feud 36 = .ok (.invokevirtual 111, 3) := by decide +kernel
theorem dX11_feud_39 : decode cX11_feud 39 = .ok (.iload_n 3, 1) := by decide +kernel
theorem dX11_feud_40 : decode cX11_feud 40 = .ok (.if_icmp .ne 5, 3) := by decide +kernel
theorem dX11_feud_43 : decode cX11_feud 43 = .ok (.iconst 0, 1) := by decide +kernel
theorem dX11_feud_44 : decode cX11_feud 44 = .ok (.ireturn, 1) := by decide +kernel
theorem dX11_feud_45 : decode cX11_feud 45 = .ok (.aload 4, 2) := by decide +kernel
theorem dX11_feud_47 : decode cX11_feud 47 = .ok (.iload_n 1, 1) := by decide +kernel
theorem dX11_feud_48 : decode cX11_feud 48 = .ok (.iload_n 2, 1) := by decide +kernel
theorem dX11_feud_49 : decode cX11_feud 49 = .ok (.iload_n 3, 1) := by decide +kernel
theorem dX11_feud_50 : decode cX11_feud 50 = .ok (.invokevirtual 115, 3) := by decide +kernel
theorem dX11_feud_53 : decode cX11_feud 53 = .ok (.iconst 1, 1) := by decide +kernel
theorem dX11_feud_54 : decode cX11_feud 54 = .ok (.ireturn, 1) := by decide +kernel
theorem dX11_harvest_0 : decode cX11_harvest 0 = .ok (.aload_n 0, 1) := by decide +kernel
theorem dX11_harvest_1 : decode cX11_harvest 1 = .ok (.getfield 12, 3) := by decide +kernel
theorem dX11_harvest_4 : decode cX11_harvest 4 = .ok (.getfield 72, 3) := by decide +kernel
theorem dX11_harvest_7 : decode cX11_harvest 7 = .ok (.iload_n 1, 1) := by decide +kernel
theorem dX11_harvest_8 : decode cX11_harvest 8 = .ok (.invokevirtual 82, 3) := by decide +kernel
