theorem dX12_withWhom_19 : decode cX12_withWhom 19 = .ok (.if_icmp .eq 25, 3) := by decide +kernel
theorem dX12_withWhom_22 : decode cX12_withWhom 22 = .ok (.aload_n 0, 1) := by decide +kernel
theorem dX12_withWhom_23 : decode cX12_withWhom 23 = .ok (.getfield 165, 3) := by decide +kernel
theorem dX12_withWhom_26 : decode cX12_withWhom 26 = .ok (.iload_n 2, 1) := by decide +kernel
theorem dX12_withWhom_27 : decode cX12_withWhom 27 = .ok (.iaload, 1) := by decide +kernel
theorem dX12_withWhom_28 : decode cX12_withWhom 28 = .ok (.iload_n 1, 1) := by decide +kernel
theorem dX12_withWhom_29 : decode cX12_withWhom 29 = .ok (.if_icmp .ne 15, 3) := by decide +kernel
theorem dX12_withWhom_32 : decode cX12_withWhom 32 = .ok (.aload_n 0, 1) := by decide +kernel
theorem dX12_withWhom_33 : decode cX12_withWhom 33 = .ok (.getfield 168, 3) := by decide +kernel
theorem dX12_withWhom_36 : decode cX12_withWhom 36 = .ok (.aload_n 0, 1) := by decide +kernel
theorem dX12_withWhom_37 : decode cX12_withWhom 37 = .ok (.getfield 178, 3) := by decide +kernel
theorem dX12_withWhom_40 : decode cX12_withWhom 40 = .ok (.iload_n 2, 1) := by decide +kernel
theorem dX12_withWhom_41 : decode cX12_withWhom 41 = .ok (.iaload, 1) := by decide +kernel
theorem dX12_withWhom_42 : decode cX12_withWhom 42 = .ok (.iaload, 1) := by decide +kernel
theorem dX12_withWhom_43 : decode cX12_withWhom 43 = .ok (.ireturn, 1) := by decide +kernel
theorem dX12_withWhom_44 : decode cX12_withWhom 44 = .ok (.aload_n 0, 1) := by decide +kernel
theorem dX12_withWhom_45 : decode cX12_withWhom 45 = .ok (.getfield 178, 3) := by decide +kernel
theorem dX12_withWhom_48 : decode cX12_withWhom 48 = .ok (.iload_n 2, 1) := by decide +kernel
theorem dX12_withWhom_49 : decode cX12_withWhom 49 = .ok (.iaload, 1) := by decide +kernel
theorem dX12_withWhom_50 : decode cX12_withWhom 50 = .ok (.iconst (-1), 1) := by decide +kernel
theorem dX12_withWhom_51 : decode cX12_withWhom 51 = .ok (.if_icmp .eq 25, 3) := by decide +kernel
theorem dX12_withWhom_54 : decode cX12_withWhom 54 = .ok (.aload_n 0, 1) := by decide +kernel
theorem dX12_withWhom_55 : decode cX12_withWhom 55 = .ok (.getfield 168, 3) := by decide +kernel
theorem dX12_withWhom_58 : decode cX12_withWhom 58 = .ok (.aload_n 0, 1) := by decide +kernel
theorem dX12_withWhom_59 : decode cX12_withWhom 59 = .ok (.getfield 178, 3) := by decide +kernel
theorem dX12_withWhom_62 : decode cX12_withWhom 62 = .ok (.iload_n 2, 1) := by decide +kernel
theorem dX12_withWhom_63 : decode cX12_withWhom 63 = .ok (.iaload, 1) := by decide +kernel
theorem dX12_withWhom_64 : decode cX12_withWhom 64 = .ok (.iaload, 1) := by decide +kernel
theorem dX12_withWhom_65 : decode cX12_withWhom 65 = .ok (.iload_n 1, 1) := by decide +kernel
theorem dX12_withWhom_66 : decode cX12_withWhom 66 = .ok (.if_icmp .ne 10, 3) := by decide +kernel
theorem dX12_withWhom_69 : decode cX12_withWhom 69 = .ok (.aload_n 0, 1) := by decide +kernel
theorem dX12_withWhom_70 : decode cX12_withWhom 70 = .ok (.getfield 165, 3) := by decide +kernel
theorem dX12_withWhom_73 : decode cX12_withWhom 73 = .ok (.iload_n 2, 1) := by decide +kernel
theorem dX12_withWhom_74 : decode cX12_withWhom 74 = .ok (.iaload, 1) := by decide +kernel
theorem dX12_withWhom_75 : decode cX12_withWhom 75 = .ok (.ireturn, 1) := by decide +kernel
theorem dX12_withWhom_76 : decode cX12_withWhom 76 = .ok (.iinc 2 1, 3) := by decide +kernel
theorem dX12_withWhom_79 : decode cX12_withWhom 79 = .ok (.goto (-77), 3) := by decide +kernel
theorem dX12_withWhom_82 : decode cX12_withWhom 82 = .ok (.iconst (-1), 1) := by decide +kernel
theorem dX12_withWhom_83 : decode cX12_withWhom 83 = .ok (.ireturn, 1) := by decide +kernel
theorem dX12_bestFor_0 : decode cX12_bestFor 0 = .ok (.aload_n 0, 1) := by decide +kernel
theorem dX12_bestFor_1 : decode cX12_bestFor 1 = .ok (.iconst 0, 1) := by decide +kernel
theorem dX12_bestFor_2 : decode cX12_bestFor 2 = .ok (.putfield 202, 3) := by decide +kernel
theorem dX12_bestFor_5 : decode cX12_bestFor 5 = .ok (.aload_n 0, 1) := by decide +kernel
theorem dX12_bestFor_6 : decode cX12_bestFor 6 = .ok (.iload_n 1, 1) := by decide +kernel
theorem dX12_bestFor_7 : decode cX12_bestFor 7 = .ok (.invokevirtual 222, 3) := by decide +kernel
theorem dX12_bestFor_10 : decode cX12_bestFor 10 = .ok (.ifCond .ne 5, 3) := by decide +kernel
theorem dX12_bestFor_13 : decode cX12_bestFor 13 = .ok (.iconst (-1), 1) := by decide +kernel
theorem dX12_bestFor_14 : decode cX12_bestFor 14 = .ok (.ireturn, 1) := by decide +kernel
theorem dX12_bestFor_15 : decode cX12_bestFor 15 = .ok (.aload_n 0, 1) := by decide +kernel
theorem dX12_bestFor_16 : decode cX12_bestFor 16 = .ok (.invokevirtual 463, 3) := by decide +kernel
theorem dX12_bestFor_19 : decode cX12_bestFor 19 = .ok (.aload_n 0, 1) := by decide +kernel
theorem dX12_bestFor_20 : decode cX12_bestFor 20 = .ok (.iload_n 1, 1) := by decide +kernel
theorem dX12_bestFor_21 : decode cX12_bestFor 21 = .ok (.invokevirtual 466, 3) := by decide +kernel
theorem dX12_bestFor_24 : decode cX12_bestFor 24 = .ok (.ireturn, 1) := by decide +kernel
theorem dX12_nextFor_0 : decode cX12_nextFor 0 = .ok (.iconst (-1), 1) := by decide +kernel
theorem dX12_nextFor_1 : decode cX12_nextFor 1 = .ok (.istore_n 2, 1) := by decide +kernel
theorem dX12_nextFor_2 : decode cX12_nextFor 2 = .ok (.iconst 0, 1) := by decide +kernel
theorem dX12_nextFor_3 : decode cX12_nextFor 3 = .ok (.istore_n 3, 1) := by decide +kernel
theorem dX12_nextFor_4 : decode cX12_nextFor 4 = .ok (.iconst 0, 1) := by decide +kernel
theorem dX12_nextFor_5 : decode cX12_nextFor 5 = .ok (.istore 4, 2) := by decide +kernel
theorem dX12_nextFor_7 : decode cX12_nextFor 7 = .ok (.iload 4, 2) := by decide +kernel
theorem dX12_nextFor_9 : decode cX12_nextFor 9 = .ok (.aload_n 0, 1) := by decide +kernel
theorem dX12_nextFor_10 : decode cX12_nextFor 10 = .ok (.getfield 162, 3) := by decide +kernel
theorem dX12_nextFor_13 : decode cX12_nextFor 13 = .ok (.iconst 0, 1) := by decide +kernel
theorem dX12_nextFor_14 : decode cX12_nextFor 14 = .ok (.iaload, 1) := by decide +kernel
theorem dX12_nextFor_15 : decode cX12_nextFor 15 = .ok (.if_icmp .ge 75, 3) := by decide +kernel
theorem dX12_nextFor_18 : decode cX12_nextFor 18 = .ok (.aload_n 0, 1) := by decide +kernel
theorem dX12_nextFor_19 : decode cX12_nextFor 19 = .ok (.getfield 171, 3) := by decide +kernel
theorem dX12_nextFor_22 : decode cX12_nextFor 22 = .ok (.bipush 8, 2) := by decide +kernel
theorem dX12_nextFor_24 : decode cX12_nextFor 24 = .ok (.iload 4, 2) := by decide +kernel
theorem dX12_nextFor_26 : decode cX12_nextFor 26 = .ok (.imul, 1) := by decide +kernel
theorem dX12_nextFor_27 : decode cX12_nextFor 27 = .ok (.iload_n 1, 1) := by decide +kernel
theorem dX12_nextFor_28 : decode cX12_nextFor 28 = .ok (.iadd, 1) := by decide +kernel
theorem dX12_nextFor_29 : decode cX12_nextFor 29 = .ok (.iaload, 1) := by decide +kernel
theorem dX12_nextFor_30 : decode cX12_nextFor 30 = .ok (.iconst (-1), 1) := by decide +kernel
theorem dX12_nextFor_31 : decode cX12_nextFor 31 = .ok (.if_icmp .eq 53, 3) := by decide +kernel
theorem dX12_nextFor_34 : decode cX12_nextFor 34 = .ok (.aload_n 0, 1) := by decide +kernel
theorem dX12_nextFor_35 : decode cX12_nextFor 35 = .ok (.getfield 181, 3) := by decide +kernel
theorem dX12_nextFor_38 : decode cX12_nextFor 38 = .ok (.iload_n 1, 1) := by decide +kernel
theorem dX12_nextFor_39 : decode cX12_nextFor 39 = .ok (.iaload, 1) := by decide +kernel
theorem dX12_nextFor_40 : decode cX12_nextFor 40 = .ok (.iload 4, 2) := by decide +kernel
theorem dX12_nextFor_42 : decode cX12_nextFor 42 = .ok (.ishr, 1) := by decide +kernel
theorem dX12_nextFor_43 : decode cX12_nextFor 43 = .ok (.iconst 1, 1) := by decide +kernel
theorem dX12_nextFor_44 : decode cX12_nextFor 44 = .ok (.iand, 1) := by decide +kernel
theorem dX12_nextFor_45 : decode cX12_nextFor 45 = .ok (.ifCond .ne 39, 3) := by decide +kernel
theorem dX12_nextFor_48 : decode cX12_nextFor 48 = .ok (.aload_n 0, 1) := by decide +kernel
theorem dX12_nextFor_49 : decode cX12_nextFor 49 = .ok (.aload_n 0, 1) := by decide +kernel
theorem dX12_nextFor_50 : decode cX12_nextFor 50 = .ok (.getfield 168, 3) := by decide +kernel
theorem dX12_nextFor_53 : decode cX12_nextFor 53 = .ok (.iload_n 1, 1) := by decide +kernel
theorem dX12_nextFor_54 : decode cX12_nextFor 54 = .ok (.iaload, 1) := by decide +kernel
theorem dX12_nextFor_55 : decode cX12_nextFor 55 = .ok (.aload_n 0, 1) := by decide +kernel
theorem dX12_nextFor_56 : decode cX12_nextFor 56 = .ok (.getfield 165, 3) := by decide +kernel
theorem dX12_nextFor_59 : decode cX12_nextFor 59 = .ok (.iload 4, 2) := by decide +kernel
theorem dX12_nextFor_61 : decode cX12_nextFor 61 = .ok (.iaload, 1) := by decide +kernel
theorem dX12_nextFor_62 : decode cX12_nextFor 62 = .ok (.invokevirtual 429, 3) := by decide +kernel
theorem dX12_nextFor_65 : decode cX12_nextFor 65 = .ok (.istore 5, 2) := by decide +kernel
theorem dX12_nextFor_67 : decode cX12_nextFor 67 = .ok (.iload_n 2, 1) := by decide +kernel
theorem dX12_nextFor_68 : decode cX12_nextFor 68 = .ok (.iconst (-1), 1) := by decide +kernel
theorem dX12_nextFor_69 : decode cX12_nextFor 69 = .ok (.if_icmp .eq 9, 3) := by decide +kernel
theorem dX12_nextFor_72 : decode cX12_nextFor 72 = .ok (.iload 5, 2) := by decide +kernel
theorem dX12_nextFor_74 : decode cX12_nextFor 74 = .ok (.iload_n 3, 1) := by decide +kernel
theorem dX12_nextFor_75 : decode cX12_nextFor 75 = .ok (.if_icmp .le 9, 3) := by decide +kernel
theorem dX12_nextFor_78 : decode cX12_nextFor 78 = .ok (.iload 4, 2) := by decide +kernel
theorem dX12_nextFor_80 : decode cX12_nextFor 80 = .ok (.istore_n 2, 1) := by decide +kernel
theorem dX12_nextFor_81 : decode cX12_nextFor 81 = .ok (.iload 5, 2) := by decide +kernel
theorem dX12_nextFor_83 : decode cX12_nextFor 83 = .ok (.istore_n 3, 1) := by decide +kernel
theorem dX12_nextFor_84 : decode cX12_nextFor 84 = .ok (.iinc 4 1, 3) := by decide +kernel
theorem dX12_nextFor_87 : decode cX12_nextFor 87 = .ok (.goto (-80), 3) := by decide +kernel
theorem dX12_nextFor_90 : decode cX12_nextFor 90 = .ok (.iload_n 2, 1) := by decide +kernel
theorem dX12_nextFor_91 : decode cX12_nextFor 91 = .ok (.ireturn, 1) := by decide +kernel
theorem dX12_isTaken_0 : decode cX12_isTaken 0 = .ok (.iconst 0, 1) := by decide +kernel
theorem dX12_isTaken_1 : decode cX12_isTaken 1 = .ok (.istore_n 2, 1) := by decide +kernel
theorem dX12_isTaken_2 : decode cX12_isTaken 2 = .ok (.iload_n 2, 1) := by decide +kernel
theorem dX12_isTaken_3 : decode cX12_isTaken 3 = .ok (.aload_n 0, 1) := by decide +kernel
theorem dX12_isTaken_4 : decode cX12_isTaken 4 = .ok (.getfield 162, 3) := by decide +kernel
theorem dX12_isTaken_7 : decode cX12_isTaken 7 = .ok (.iconst 0, 1) := by decide +kernel
theorem dX12_isTaken_8 : decode cX12_isTaken 8 = .ok (.iaload, 1) := by decide +kernel
theorem dX12_isTaken_9 : decode cX12_isTaken 9 = .ok (.if_icmp .ge 21, 3) := by decide +kernel
theorem dX12_isTaken_12 : decode cX12_isTaken 12 = .ok (.aload_n 0, 1) := by decide +kernel
theorem dX12_isTaken_13 : decode cX12_isTaken 13 = .ok (.getfield 178, 3) := by decide +kernel
theorem dX12_isTaken_16 : decode cX12_isTaken 16 = .ok (.iload_n 2, 1) := by decide +kernel
theorem dX12_isTaken_17 : decode cX12_isTaken 17 = .ok (.iaload, 1) := by decide +kernel
theorem dX12_isTaken_18 : decode cX12_isTaken 18 = .ok (.iload_n 1, 1) := by decide +kernel
theorem dX12_isTaken_19 : decode cX12_isTaken 19 = .ok (.if_icmp .ne 5, 3) := by decide +kernel
theorem dX12_isTaken_22 : decode cX12_isTaken 22 = .ok (.iconst 1, 1) := by decide +kernel
theorem dX12_isTaken_23 : decode cX12_isTaken 23 = .ok (.ireturn, 1) := by decide +kernel
theorem dX12_isTaken_24 : decode cX12_isTaken 24 = .ok (.iinc 2 1, 3) := by decide +kernel
theorem dX12_isTaken_27 : decode cX12_isTaken 27 = .ok (.goto (-25), 3) := by decide +kernel
theorem dX12_isTaken_30 : decode cX12_isTaken 30 = .ok (.iconst 0, 1) := by decide +kernel
theorem dX12_isTaken_31 : decode cX12_isTaken 31 = .ok (.ireturn, 1) := by decide +kernel
theorem dX12_rather_0 : decode cX12_rather 0 = .ok (.aload_n 0, 1) := by decide +kernel
theorem dX12_rather_1 : decode cX12_rather 1 = .ok (.getfield 178, 3) := by decide +kernel
theorem dX12_rather_4 : decode cX12_rather 4 = .ok (.iload_n 1, 1) := by decide +kernel
theorem dX12_rather_5 : decode cX12_rather 5 = .ok (.iaload, 1) := by decide +kernel
theorem dX12_rather_6 : decode cX12_rather 6 = .ok (.iconst (-1), 1) := by decide +kernel
theorem dX12_rather_7 : decode cX12_rather 7 = .ok (.if_icmp .ne 5, 3) := by decide +kernel
theorem dX12_rather_10 : decode cX12_rather 10 = .ok (.iconst 1, 1) := by decide +kernel
theorem dX12_rather_11 : decode cX12_rather 11 = .ok (.ireturn, 1) := by decide +kernel
theorem dX12_rather_12 : decode cX12_rather 12 = .ok (.aload_n 0, 1) := by decide +kernel
theorem dX12_rather_13 : decode cX12_rather 13 = .ok (.aload_n 0, 1) := by decide +kernel
theorem dX12_rather_14 : decode cX12_rather 14 = .ok (.getfield 165, 3) := by decide +kernel
theorem dX12_rather_17 : decode cX12_rather 17 = .ok (.iload_n 1, 1) := by decide +kernel
theorem dX12_rather_18 : decode cX12_rather 18 = .ok (.iaload, 1) := by decide +kernel
theorem dX12_rather_19 : decode cX12_rather 19 = .ok (.aload_n 0, 1) := by decide +kernel
theorem dX12_rather_20 : decode cX12_rather 20 = .ok (.getfield 168, 3) := by decide +kernel
theorem dX12_rather_23 : decode cX12_rather 23 = .ok (.aload_n 0, 1) := by decide +kernel
theorem dX12_rather_24 : decode cX12_rather 24 = .ok (.getfield 178, 3) := by decide +kernel
theorem dX12_rather_27 : decode cX12_rather 27 = .ok (.iload_n 1, 1) := by decide +kernel
theorem dX12_rather_28 : decode cX12_rather 28 = .ok (.iaload, 1) := by decide +kernel
theorem dX12_rather_29 : decode cX12_rather 29 = .ok (.iaload, 1) := by decide +kernel
theorem dX12_rather_30 : decode cX12_rather 30 = .ok (.invokevirtual 429, 3) := by decide +kernel
theorem dX12_rather_33 : decode cX12_rather 33 = .ok (.istore_n 3, 1) := by decide +kernel
theorem dX12_rather_34 : decode cX12_rather 34 = .ok (.aload_n 0, 1) := by decide +kernel
theorem dX12_rather_35 : decode cX12_rather 35 = .ok (.aload_n 0, 1) := by decide +kernel
theorem dX12_rather_36 : decode cX12_rather 36 = .ok (.getfield 165, 3) := by decide +kernel
theorem dX12_rather_39 : decode cX12_rather 39 = .ok (.iload_n 1, 1) := by decide +kernel
theorem dX12_rather_40 : decode cX12_rather 40 = .ok (.iaload, 1) := by decide +kernel
theorem dX12_rather_41 : decode cX12_rather 41 = .ok (.aload_n 0, 1) := by decide +kernel
theorem dX12_rather_42 : decode cX12_rather 42 = .ok (.getfield 168, 3) := by decide +kernel
theorem dX12_rather_45 : decode cX12_rather 45 = .ok (.iload_n 2, 1) := by decide +kernel
theorem dX12_rather_46 : decode cX12_rather 46 = .ok (.iaload, 1) := by decide +kernel
theorem dX12_rather_47 : decode cX12_rather 47 = .ok (.invokevirtual 429, 3) := by decide +kernel
theorem dX12_rather_50 : decode cX12_rather 50 = .ok (.istore 4, 2) := by decide +kernel
theorem dX12_rather_52 : decode cX12_rather 52 = .ok (.iload 4, 2) := by decide +kernel
theorem dX12_rather_54 : decode cX12_rather 54 = .ok (.iload_n 3, 1) := by decide +kernel
theorem dX12_rather_55 : decode cX12_rather 55 = .ok (.if_icmp .gt 19, 3) := by decide +kernel
theorem dX12_rather_58 : decode cX12_rather 58 = .ok (.iload 4, 2) := by decide +kernel
theorem dX12_rather_60 : decode cX12_rather 60 = .ok (.iload_n 3, 1) := by decide +kernel
theorem dX12_rather_61 : decode cX12_rather 61 = .ok (.if_icmp .ne 17, 3) := by decide +kernel
theorem dX12_rather_64 : decode cX12_rather 64 = .ok (.iload_n 2, 1) := by decide +kernel
theorem dX12_rather_65 : decode cX12_rather 65 = .ok (.aload_n 0, 1) := by decide +kernel
theorem dX12_rather_66 : decode cX12_rather 66 = .ok (.getfield 178, 3) := by decide +kernel
theorem dX12_rather_69 : decode cX12_rather 69 = .ok (.iload_n 1, 1) := by decide +kernel
theorem dX12_rather_70 : decode cX12_rather 70 = .ok (.iaload, 1) := by decide +kernel
theorem dX12_rather_71 : decode cX12_rather 71 = .ok (.if_icmp .ge 7, 3) := by decide +kernel
theorem dX12_rather_74 : decode cX12_rather 74 = .ok (.iconst 1, 1) := by decide +kernel
theorem dX12_rather_75 : decode cX12_rather 75 = .ok (.goto 4, 3) := by decide +kernel
theorem dX12_rather_78 : decode cX12_rather 78 = .ok (.iconst 0, 1) := by decide +kernel
theorem dX12_rather_79 : decode cX12_rather 79 = .ok (.ireturn, 1) := by decide +kernel
theorem dX12_stable_0 : decode cX12_stable 0 = .ok (.aload_n 0, 1) := by decide +kernel
theorem dX12_stable_1 : decode cX12_stable 1 = .ok (.iconst 0, 1) := by decide +kernel
theorem dX12_stable_2 : decode cX12_stable 2 = .ok (.putfield 202, 3) := by decide +kernel
theorem dX12_stable_5 : decode cX12_stable 5 = .ok (.aload_n 0, 1) := by decide +kernel
theorem dX12_stable_6 : decode cX12_stable 6 = .ok (.iload_n 1, 1) := by decide +kernel
theorem dX12_stable_7 : decode cX12_stable 7 = .ok (.invokevirtual 222, 3) := by decide +kernel
theorem dX12_stable_10 : decode cX12_stable 10 = .ok (.ifCond .ne 5, 3) := by decide +kernel
theorem dX12_stable_13 : decode cX12_stable 13 = .ok (.iconst (-1), 1) := by decide +kernel
theorem dX12_stable_14 : decode cX12_stable 14 = .ok (.ireturn, 1) := by decide +kernel
theorem dX12_stable_15 : decode cX12_stable 15 = .ok (.aload_n 0, 1) := by decide +kernel
theorem dX12_stable_16 : decode cX12_stable 16 = .ok (.invokevirtual 456, 3) := by decide +kernel
theorem dX12_stable_19 : decode cX12_stable 19 = .ok (.iconst 0, 1) := by decide +kernel
theorem dX12_stable_20 : decode cX12_stable 20 = .ok (.istore_n 2, 1) := by decide +kernel
theorem dX12_stable_21 : decode cX12_stable 21 = .ok (.iload_n 2, 1) := by decide +kernel
theorem dX12_stable_22 : decode cX12_stable 22 = .ok (.bipush 8, 2) := by decide +kernel
theorem dX12_stable_24 : decode cX12_stable 24 = .ok (.if_icmp .ge 23, 3) := by decide +kernel
theorem dX12_stable_27 : decode cX12_stable 27 = .ok (.aload_n 0, 1) := by decide +kernel
theorem dX12_stable_28 : decode cX12_stable 28 = .ok (.getfield 178, 3) := by decide +kernel
theorem dX12_stable_31 : decode cX12_stable 31 = .ok (.iload_n 2, 1) := by decide +kernel
theorem dX12_stable_32 : decode cX12_stable 32 = .ok (.iconst (-1), 1) := by decide +kernel
theorem dX12_stable_33 : decode cX12_stable 33 = .ok (.iastore, 1) := by decide +kernel
theorem dX12_stable_34 : decode cX12_stable 34 = .ok (.aload_n 0, 1) := by decide +kernel
theorem dX12_stable_35 : decode cX12_stable 35 = .ok (.getfield 181, 3) := by decide +kernel
theorem dX12_stable_38 : decode cX12_stable 38 = .ok (.iload_n 2, 1) := by decide +kernel
theorem dX12_stable_39 : decode cX12_stable 39 = .ok (.iconst 0, 1) := by decide +kernel
theorem dX12_stable_40 : decode cX12_stable 40 = .ok (.iastore, 1) := by decide +kernel
theorem dX12_stable_41 : decode cX12_stable 41 = .ok (.iinc 2 1, 3) := by decide +kernel
theorem dX12_stable_44 : decode cX12_stable 44 = .ok (.goto (-23), 3) := by decide +kernel
theorem dX12_stable_47 : decode cX12_stable 47 = .ok (.iconst 1, 1) := by decide +kernel
theorem dX12_stable_48 : decode cX12_stable 48 = .ok (.istore_n 2, 1) := by decide +kernel
theorem dX12_stable_49 : decode cX12_stable 49 = .ok (.iload_n 2, 1) := by decide +kernel
theorem dX12_stable_50 : decode cX12_stable 50 = .ok (.ifCond .eq 94, 3) := by decide +kernel
theorem dX12_stable_53 : decode cX12_stable 53 = .ok (.iconst 0, 1) := by decide +kernel
theorem dX12_stable_54 : decode cX12_stable 54 = .ok (.istore_n 2, 1) := by decide +kernel
theorem dX12_stable_55 : decode cX12_stable 55 = .ok (.iconst 0, 1) := by decide +kernel
theorem dX12_stable_56 : decode cX12_stable 56 = .ok (.istore_n 3, 1) := by decide +kernel
theorem dX12_stable_57 : decode cX12_stable 57 = .ok (.iload_n 3, 1) := by decide +kernel
theorem dX12_stable_58 : decode cX12_stable 58 = .ok (.aload_n 0, 1) := by decide +kernel
theorem dX12_stable_59 : decode cX12_stable 59 = .ok (.getfield 162, 3) := by decide +kernel
theorem dX12_stable_62 : decode cX12_stable 62 = .ok (.iconst 1, 1) := by decide +kernel
theorem dX12_stable_63 : decode cX12_stable 63 = .ok (.iaload, 1) := by decide +kernel
theorem dX12_stable_64 : decode cX12_stable 64 = .ok (.if_icmp .ge 77, 3) := by decide +kernel
theorem dX12_stable_67 : decode cX12_stable 67 = .ok (.aload_n 0, 1) := by decide +kernel
theorem dX12_stable_68 : decode cX12_stable 68 = .ok (.iload_n 3, 1) := by decide +kernel
theorem dX12_stable_69 : decode cX12_stable 69 = .ok (.invokevirtual 469, 3) := by decide +kernel
theorem dX12_stable_72 : decode cX12_stable 72 = .ok (.ifCond .eq 7, 3) := by decide +kernel
theorem dX12_stable_75 : decode cX12_stable 75 = .ok (.iconst (-1), 1) := by decide +kernel
theorem dX12_stable_76 : decode cX12_stable 76 = .ok (.goto 8, 3) := by decide +kernel
theorem dX12_stable_79 : decode cX12_stable 79 = .ok (.aload_n 0, 1) := by decide +kernel
theorem dX12_stable_80 : decode cX12_stable 80 = .ok (.iload_n 3, 1) := by decide +kernel
theorem dX12_stable_81 : decode cX12_stable 81 = .ok (.invokevirtual 472, 3) := by decide +kernel
theorem dX12_stable_84 : decode cX12_stable 84 = .ok (.istore 4, 2) := by decide +kernel
theorem dX12_stable_86 : decode cX12_stable 86 = .ok (.iload 4, 2) := by decide +kernel
theorem dX12_stable_88 : decode cX12_stable 88 = .ok (.iconst (-1), 1) := by decide +kernel
theorem dX12_stable_89 : decode cX12_stable 89 = .ok (.if_icmp .eq 46, 3) := by decide +kernel
theorem dX12_stable_92 : decode cX12_stable 92 = .ok (.aload_n 0, 1) := by decide +kernel
theorem dX12_stable_93 : decode cX12_stable 93 = .ok (.getfield 181, 3) := by decide +kernel
theorem dX12_stable_96 : decode cX12_stable 96 = .ok (.iload_n 3, 1) := by decide +kernel
theorem dX12_stable_97 : decode cX12_stable 97 = .ok (.dup2, 1) := by decide +kernel
theorem dX12_stable_98 : decode cX12_stable 98 = .ok (.iaload, 1) := by decide +kernel
theorem dX12_stable_99 : decode cX12_stable 99 = .ok (.iconst 1, 1) := by decide +kernel
theorem dX12_stable_100 : decode cX12_stable 100 = .ok (.iload 4, 2) := by decide +kernel
theorem dX12_stable_102 : decode cX12_stable 102 = .ok (.ishl, 1) := by decide +kernel
theorem dX12_stable_103 : decode cX12_stable 103 = .ok (.ior, 1) := by decide +kernel
theorem dX12_stable_104 : decode cX12_stable 104 = .ok (.iastore, 1) := by decide +kernel
theorem dX12_stable_105 : decode cX12_stable 105 = .ok (.aload_n 0, 1) := by decide +kernel
theorem dX12_stable_106 : decode cX12_stable 106 = .ok (.getfield 178, 3) := by decide +kernel
theorem dX12_stable_109 : decode cX12_stable 109 = .ok (.iload 4, 2) := by decide +kernel
theorem dX12_stable_111 : decode cX12_stable 111 = .ok (.aload_n 0, 1) := by decide +kernel
theorem dX12_stable_112 : decode cX12_stable 112 = .ok (.iload 4, 2) := by decide +kernel
theorem dX12_stable_114 : decode cX12_stable 114 = .ok (.iload_n 3, 1) := by decide +kernel
theorem dX12_stable_115 : decode cX12_stable 115 = .ok (.invokevirtual 475, 3) := by decide +kernel
theorem dX12_stable_118 : decode cX12_stable 118 = .ok (.ifCond .eq 7, 3) := by decide +kernel
theorem dX12_stable_121 : decode cX12_stable 121 = .ok (.iload_n 3, 1) := by decide +kernel
theorem dX12_stable_122 : decode cX12_stable 122 = .ok (.goto 10, 3) := by decide +kernel
theorem dX12_stable_125 : decode cX12_stable 125 = .ok (.aload_n 0, 1) := by decide +kernel
theorem dX12_stable_126 : decode cX12_stable 126 = .ok (.getfield 178, 3) := by decide +kernel
theorem dX12_stable_129 : decode cX12_stable 129 = .ok (.iload 4, 2) := by decide +kernel
theorem dX12_stable_131 : decode cX12_stable 131 = .ok (.iaload, 1) := by decide +kernel
theorem dX12_stable_132 : decode cX12_stable 132 = .ok (.iastore, 1) := by decide +kernel
theorem dX12_stable_133 : decode cX12_stable 133 = .ok (.iconst 1, 1) := by decide +kernel
theorem dX12_stable_134 : decode cX12_stable 134 = .ok (.istore_n 2, 1) := by decide +kernel
theorem dX12_stable_135 : decode cX12_stable 135 = .ok (.iinc 3 1, 3) := by decide +kernel
theorem dX12_stable_138 : decode cX12_stable 138 = .ok (.goto (-81), 3) := by decide +kernel
theorem dX12_stable_141 : decode cX12_stable 141 = .ok (.goto (-92), 3) := by decide +kernel
theorem dX12_stable_144 : decode cX12_stable 144 = .ok (.aload_n 0, 1) := by decide +kernel
theorem dX12_stable_145 : decode cX12_stable 145 = .ok (.iload_n 1, 1) := by decide +kernel
theorem dX12_stable_146 : decode cX12_stable 146 = .ok (.invokevirtual 466, 3) := by decide +kernel
theorem dX12_stable_149 : decode cX12_stable 149 = .ok (.ireturn, 1) := by decide +kernel
theorem dX12_findCouples_0 : decode cX12_findCouples 0 = .ok (.aload_n 0, 1) := by decide +kernel
theorem dX12_findCouples_1 : decode cX12_findCouples 1 = .ok (.invokevirtual 456, 3) := by decide +kernel
theorem dX12_findCouples_4 : decode cX12_findCouples 4 = .ok (.iconst 0, 1) := by decide +kernel
theorem dX12_findCouples_5 : decode cX12_findCouples 5 = .ok (.istore_n 1, 1) := by decide +kernel
theorem dX12_findCouples_6 : decode cX12_findCouples 6 = .ok (.iload_n 1, 1) := by decide +kernel
theorem dX12_findCouples_7 : decode cX12_findCouples 7 = .ok (.bipush 64, 2) := by decide +kernel
theorem dX12_findCouples_9 : decode cX12_findCouples 9 = .ok (.if_icmp .ge 16, 3) := by decide +kernel
theorem dX12_findCouples_12 : decode cX12_findCouples 12 = .ok (.aload_n 0, 1) := by decide +kernel
theorem dX12_findCouples_13 : decode cX12_findCouples 13 = .ok (.getfield 190, 3) := by decide +kernel
theorem dX12_findCouples_16 : decode cX12_findCouples 16 = .ok (.iload_n 1, 1) := by decide +kernel
theorem dX12_findCouples_17 : decode cX12_findCouples 17 = .ok (.iconst (-1), 1) := by decide +kernel
theorem dX12_findCouples_18 : decode cX12_findCouples 18 = .ok (.iastore, 1) := by decide +kernel
theorem dX12_findCouples_19 : decode cX12_findCouples 19 = .ok (.iinc 1 1, 3) := by decide +kernel
theorem dX12_findCouples_22 : decode cX12_findCouples 22 = .ok (.goto (-16), 3) := by decide +kernel
theorem dX12_findCouples_25 : decode cX12_findCouples 25 = .ok (.iconst 0, 1) := by decide +kernel
theorem dX12_findCouples_26 : decode cX12_findCouples 26 = .ok (.istore_n 1, 1) := by decide +kernel
theorem dX12_findCouples_27 : decode cX12_findCouples 27 = .ok (.iload_n 1, 1) := by decide +kernel
theorem dX12_findCouples_28 : decode cX12_findCouples 28 = .ok (.aload_n 0, 1) := by decide +kernel
theorem dX12_findCouples_29 : decode cX12_findCouples 29 = .ok (.getfield 162, 3) := by decide +kernel
theorem dX12_findCouples_32 : decode cX12_findCouples 32 = .ok (.iconst 0, 1) := by decide +kernel
theorem dX12_findCouples_33 : decode cX12_findCouples 33 = .ok (.iaload, 1) := by decide +kernel
theorem dX12_findCouples_34 : decode cX12_findCouples 34 = .ok (.if_icmp .ge 115, 3) := by decide +kernel
theorem dX12_findCouples_37 : decode cX12_findCouples 37 = .ok (.iconst 0, 1) := by decide +kernel
theorem dX12_findCouples_38 : decode cX12_findCouples 38 = .ok (.istore_n 2, 1) := by decide +kernel
theorem dX12_findCouples_39 : decode cX12_findCouples 39 = .ok (.iload_n 2, 1) := by decide +kernel
theorem dX12_findCouples_40 : decode cX12_findCouples 40 = .ok (.aload_n 0, 1) := by decide +kernel
theorem dX12_findCouples_41 : decode cX12_findCouples 41 = .ok (.getfield 162, 3) := by decide +kernel
theorem dX12_findCouples_44 : decode cX12_findCouples 44 = .ok (.iconst 1, 1) := by decide +kernel
theorem dX12_findCouples_45 : decode cX12_findCouples 45 = .ok (.iaload, 1) := by decide +kernel
theorem dX12_findCouples_46 : decode cX12_findCouples 46 = .ok (.if_icmp .ge 97, 3) := by decide +kernel
theorem dX12_findCouples_49 : decode cX12_findCouples 49 = .ok (.bipush 8, 2) := by decide +kernel
theorem dX12_findCouples_51 : decode cX12_findCouples 51 = .ok (.aload_n 0, 1) := by decide +kernel
theorem dX12_findCouples_52 : decode cX12_findCouples 52 = .ok (.getfield 47, 3) := by decide +kernel
theorem dX12_findCouples_55 : decode cX12_findCouples 55 = .ok (.aload_n 0, 1) := by decide +kernel
theorem dX12_findCouples_56 : decode cX12_findCouples 56 = .ok (.getfield 165, 3) := by decide +kernel
theorem dX12_findCouples_59 : decode cX12_findCouples 59 = .ok (.iload_n 1, 1) := by decide +kernel
theorem dX12_findCouples_60 : decode cX12_findCouples 60 = .ok (.iaload, 1) := by decide +kernel
theorem dX12_findCouples_61 : decode cX12_findCouples 61 = .ok (.iaload, 1) := by decide +kernel
theorem dX12_findCouples_62 : decode cX12_findCouples 62 = .ok (.imul, 1) := by decide +kernel
theorem dX12_findCouples_63 : decode cX12_findCouples 63 = .ok (.aload_n 0, 1) := by decide +kernel
theorem dX12_findCouples_64 : decode cX12_findCouples 64 = .ok (.getfield 47, 3) := by decide +kernel
theorem dX12_findCouples_67 : decode cX12_findCouples 67 = .ok (.aload_n 0, 1) := by decide +kernel
theorem dX12_findCouples_68 : decode cX12_findCouples 68 = .ok (.getfield 168, 3) := by decide +kernel
theorem dX12_findCouples_71 : decode cX12_findCouples 71 = .ok (.iload_n 2, 1) := by decide +kernel
theorem dX12_findCouples_72 : decode cX12_findCouples 72 = .ok (.iaload, 1) := by decide +kernel
theorem dX12_findCouples_73 : decode cX12_findCouples 73 = .ok (.iaload, 1) := by decide +kernel
theorem dX12_findCouples_74 : decode cX12_findCouples 74 = .ok (.iadd, 1) := by decide +kernel
theorem dX12_findCouples_75 : decode cX12_findCouples 75 = .ok (.istore_n 3, 1) := by decide +kernel
theorem dX12_findCouples_76 : decode cX12_findCouples 76 = .ok (.aload_n 0, 1) := by decide +kernel
theorem dX12_findCouples_77 : decode cX12_findCouples 77 = .ok (.getfield 171, 3) := by decide +kernel
theorem dX12_findCouples_80 : decode cX12_findCouples 80 = .ok (.bipush 8, 2) := by decide +kernel
theorem dX12_findCouples_82 : decode cX12_findCouples 82 = .ok (.iload_n 1, 1) := by decide +kernel
theorem dX12_findCouples_83 : decode cX12_findCouples 83 = .ok (.imul, 1) := by decide +kernel
theorem dX12_findCouples_84 : decode cX12_findCouples 84 = .ok (.iload_n 2, 1) := by decide +kernel
theorem dX12_findCouples_85 : decode cX12_findCouples 85 = .ok (.iadd, 1) := by decide +kernel
theorem dX12_findCouples_86 : decode cX12_findCouples 86 = .ok (.iaload, 1) := by decide +kernel
theorem dX12_findCouples_87 : decode cX12_findCouples 87 = .ok (.aload_n 0, 1) := by decide +kernel
theorem dX12_findCouples_88 : decode cX12_findCouples 88 = .ok (.getfield 190, 3) := by decide +kernel
theorem dX12_findCouples_91 : decode cX12_findCouples 91 = .ok (.iload_n 3, 1) := by decide +kernel
theorem dX12_findCouples_92 : decode cX12_findCouples 92 = .ok (.iaload, 1) := by decide +kernel
theorem dX12_findCouples_93 : decode cX12_findCouples 93 = .ok (.if_icmp .le 44, 3) := by decide +kernel
theorem dX12_findCouples_96 : decode cX12_findCouples 96 = .ok (.aload_n 0, 1) := by decide +kernel
theorem dX12_findCouples_97 : decode cX12_findCouples 97 = .ok (.getfield 190, 3) := by decide +kernel
theorem dX12_findCouples_100 : decode cX12_findCouples 100 = .ok (.iload_n 3, 1) := by decide +kernel
theorem dX12_findCouples_101 : decode cX12_findCouples 101 = .ok (.aload_n 0, 1) := by decide +kernel
theorem dX12_findCouples_102 : decode cX12_findCouples 102 = .ok (.getfield 171, 3) := by decide +kernel
theorem dX12_findCouples_105 : decode cX12_findCouples 105 = .ok (.bipush 8, 2) := by decide +kernel
theorem dX12_findCouples_107 : decode cX12_findCouples 107 = .ok (.iload_n 1, 1) := by decide +kernel
theorem dX12_findCouples_108 : decode cX12_findCouples 108 = .ok (.imul, 1) := by decide +kernel
theorem dX12_findCouples_109 : decode cX12_findCouples 109 = .ok (.iload_n 2, 1) := by decide +kernel
theorem dX12_findCouples_110 : decode cX12_findCouples 110 = .ok (.iadd, 1) := by decide +kernel
theorem dX12_findCouples_111 : decode cX12_findCouples 111 = .ok (.iaload, 1) := by decide +kernel
theorem dX12_findCouples_112 : decode cX12_findCouples 112 = .ok (.iastore, 1) := by decide +kernel
theorem dX12_findCouples_113 : decode cX12_findCouples 113 = .ok (.aload_n 0, 1) := by decide +kernel
theorem dX12_findCouples_114 : decode cX12_findCouples 114 = .ok (.getfield 184, 3) := by decide +kernel
theorem dX12_findCouples_117 : decode cX12_findCouples 117 = .ok (.iload_n 3, 1) := by decide +kernel
theorem dX12_findCouples_118 : decode cX12_findCouples 118 = .ok (.aload_n 0, 1) := by decide +kernel
theorem dX12_findCouples_119 : decode cX12_findCouples 119 = .ok (.getfield 165, 3) := by decide +kernel
theorem dX12_findCouples_122 : decode cX12_findCouples 122 = .ok (.iload_n 1, 1) := by decide +kernel
theorem dX12_findCouples_123 : decode cX12_findCouples 123 = .ok (.iaload, 1) := by decide +kernel
theorem dX12_findCouples_124 : decode cX12_findCouples 124 = .ok (.iastore, 1) := by decide +kernel
theorem dX12_findCouples_125 : decode cX12_findCouples 125 = .ok (.aload_n 0, 1) := by decide +kernel
theorem dX12_findCouples_126 : decode cX12_findCouples 126 = .ok (.getfield 187, 3) := by decide +kernel
theorem dX12_findCouples_129 : decode cX12_findCouples 129 = .ok (.iload_n 3, 1) := by decide +kernel
theorem dX12_findCouples_130 : decode cX12_findCouples 130 = .ok (.aload_n 0, 1) := by decide +kernel
theorem dX12_findCouples_131 : decode cX12_findCouples 131 = .ok (.getfield 168, 3) := by decide +kernel
theorem dX12_findCouples_134 : decode cX12_findCouples 134 = .ok (.iload_n 2, 1) := by decide +kernel
theorem dX12_findCouples_135 : decode cX12_findCouples 135 = .ok (.iaload, 1) := by decide +kernel
theorem dX12_findCouples_136 : decode cX12_findCouples 136 = .ok (.iastore, 1) := by decide +kernel
theorem dX12_findCouples_137 : decode cX12_findCouples 137 = .ok (.iinc 2 1, 3) := by decide +kernel
theorem dX12_findCouples_140 : decode cX12_findCouples 140 = .ok (.goto (-101), 3) := by decide +kernel
theorem dX12_findCouples_143 : decode cX12_findCouples 143 = .ok (.iinc 1 1, 3) := by decide +kernel
theorem dX12_findCouples_146 : decode cX12_findCouples 146 = .ok (.goto (-119), 3) := by decide +kernel
theorem dX12_findCouples_149 : decode cX12_findCouples 149 = .ok (.return_, 1) := by decide +kernel
theorem dX12_ringOf_0 : decode cX12_ringOf 0 = .ok (.iconst 0, 1) := by decide +kernel
theorem dX12_ringOf_1 : decode cX12_ringOf 1 = .ok (.istore_n 2, 1) := by decide +kernel
theorem dX12_ringOf_2 : decode cX12_ringOf 2 = .ok (.iconst 0, 1) := by decide +kernel
theorem dX12_ringOf_3 : decode cX12_ringOf 3 = .ok (.istore_n 3, 1) := by decide +kernel
theorem dX12_ringOf_4 : decode cX12_ringOf 4 = .ok (.iload_n 3, 1) := by decide +kernel
theorem dX12_ringOf_5 : decode cX12_ringOf 5 = .ok (.iload_n 1, 1) := by decide +kernel
theorem dX12_ringOf_6 : decode cX12_ringOf 6 = .ok (.if_icmp .ge 102, 3) := by decide +kernel
theorem dX12_ringOf_9 : decode cX12_ringOf 9 = .ok (.bipush 8, 2) := by decide +kernel
theorem dX12_ringOf_11 : decode cX12_ringOf 11 = .ok (.aload_n 0, 1) := by decide +kernel
theorem dX12_ringOf_12 : decode cX12_ringOf 12 = .ok (.getfield 196, 3) := by decide +kernel
theorem dX12_ringOf_15 : decode cX12_ringOf 15 = .ok (.iload_n 3, 1) := by decide +kernel
theorem dX12_ringOf_16 : decode cX12_ringOf 16 = .ok (.iaload, 1) := by decide +kernel
theorem dX12_ringOf_17 : decode cX12_ringOf 17 = .ok (.imul, 1) := by decide +kernel
theorem dX12_ringOf_18 : decode cX12_ringOf 18 = .ok (.aload_n 0, 1) := by decide +kernel
theorem dX12_ringOf_19 : decode cX12_ringOf 19 = .ok (.getfield 196, 3) := by decide +kernel
theorem dX12_ringOf_22 : decode cX12_ringOf 22 = .ok (.iload_n 3, 1) := by decide +kernel
theorem dX12_ringOf_23 : decode cX12_ringOf 23 = .ok (.iconst 1, 1) := by decide +kernel
theorem dX12_ringOf_24 : decode cX12_ringOf 24 = .ok (.iadd, 1) := by decide +kernel
theorem dX12_ringOf_25 : decode cX12_ringOf 25 = .ok (.iload_n 1, 1) := by decide +kernel
theorem dX12_ringOf_26 : decode cX12_ringOf 26 = .ok (.irem, 1) := by decide +kernel
theorem dX12_ringOf_27 : decode cX12_ringOf 27 = .ok (.iaload, 1) := by decide +kernel
theorem dX12_ringOf_28 : decode cX12_ringOf 28 = .ok (.iadd, 1) := by decide +kernel
theorem dX12_ringOf_29 : decode cX12_ringOf 29 = .ok (.istore 4, 2) := by decide +kernel
theorem dX12_ringOf_31 : decode cX12_ringOf 31 = .ok (.iconst 0, 1) := by decide +kernel
theorem dX12_ringOf_32 : decode cX12_ringOf 32 = .ok (.istore 5, 2) := by decide +kernel
theorem dX12_ringOf_34 : decode cX12_ringOf 34 = .ok (.iload 5, 2) := by decide +kernel
theorem dX12_ringOf_36 : decode cX12_ringOf 36 = .ok (.iload_n 3, 1) := by decide +kernel
theorem dX12_ringOf_37 : decode cX12_ringOf 37 = .ok (.if_icmp .ge 27, 3) := by decide +kernel
theorem dX12_ringOf_40 : decode cX12_ringOf 40 = .ok (.aload_n 0, 1) := by decide +kernel
theorem dX12_ringOf_41 : decode cX12_ringOf 41 = .ok (.getfield 196, 3) := by decide +kernel
theorem dX12_ringOf_44 : decode cX12_ringOf 44 = .ok (.iload 5, 2) := by decide +kernel
theorem dX12_ringOf_46 : decode cX12_ringOf 46 = .ok (.iaload, 1) := by decide +kernel
theorem dX12_ringOf_47 : decode cX12_ringOf 47 = .ok (.aload_n 0, 1) := by decide +kernel
theorem dX12_ringOf_48 : decode cX12_ringOf 48 = .ok (.getfield 196, 3) := by decide +kernel
theorem dX12_ringOf_51 : decode cX12_ringOf 51 = .ok (.iload_n 3, 1) := by decide +kernel
theorem dX12_ringOf_52 : decode cX12_ringOf 52 = .ok (.iaload, 1) := by decide +kernel
theorem dX12_ringOf_53 : decode cX12_ringOf 53 = .ok (.if_icmp .ne 5, 3) := by decide +kernel
theorem dX12_ringOf_56 : decode cX12_ringOf 56 = .ok (.iconst (-1), 1) := by decide +kernel
theorem dX12_ringOf_57 : decode cX12_ringOf 57 = .ok (.ireturn, 1) := by decide +kernel
theorem dX12_ringOf_58 : decode cX12_ringOf 58 = .ok (.iinc 5 1, 3) := by decide +kernel
theorem dX12_ringOf_61 : decode cX12_ringOf 61 = .ok (.goto (-27), 3) := by decide +kernel
theorem dX12_ringOf_64 : decode cX12_ringOf 64 = .ok (.aload_n 0, 1) := by decide +kernel
theorem dX12_ringOf_65 : decode cX12_ringOf 65 = .ok (.getfield 196, 3) := by decide +kernel
theorem dX12_ringOf_68 : decode cX12_ringOf 68 = .ok (.iload_n 3, 1) := by decide +kernel
theorem dX12_ringOf_69 : decode cX12_ringOf 69 = .ok (.iaload, 1) := by decide +kernel
theorem dX12_ringOf_70 : decode cX12_ringOf 70 = .ok (.aload_n 0, 1) := by decide +kernel
theorem dX12_ringOf_71 : decode cX12_ringOf 71 = .ok (.getfield 196, 3) := by decide +kernel
theorem dX12_ringOf_74 : decode cX12_ringOf 74 = .ok (.iconst 0, 1) := by decide +kernel
theorem dX12_ringOf_75 : decode cX12_ringOf 75 = .ok (.iaload, 1) := by decide +kernel
theorem dX12_ringOf_76 : decode cX12_ringOf 76 = .ok (.if_icmp .lt 14, 3) := by decide +kernel
theorem dX12_ringOf_79 : decode cX12_ringOf 79 = .ok (.aload_n 0, 1) := by decide +kernel
theorem dX12_ringOf_80 : decode cX12_ringOf 80 = .ok (.getfield 190, 3) := by decide +kernel
theorem dX12_ringOf_83 : decode cX12_ringOf 83 = .ok (.iload 4, 2) := by decide +kernel
theorem dX12_ringOf_85 : decode cX12_ringOf 85 = .ok (.iaload, 1) := by decide +kernel
theorem dX12_ringOf_86 : decode cX12_ringOf 86 = .ok (.iconst (-1), 1) := by decide +kernel
theorem dX12_ringOf_87 : decode cX12_ringOf 87 = .ok (.if_icmp .ne 5, 3) := by decide +kernel
theorem dX12_ringOf_90 : decode cX12_ringOf 90 = .ok (.iconst (-1), 1) := by decide +kernel
theorem dX12_ringOf_91 : decode cX12_ringOf 91 = .ok (.ireturn, 1) := by decide +kernel
theorem dX12_ringOf_92 : decode cX12_ringOf 92 = .ok (.iload_n 2, 1) := by decide +kernel
theorem dX12_ringOf_93 : decode cX12_ringOf 93 = .ok (.aload_n 0, 1) := by decide +kernel
theorem dX12_ringOf_94 : decode cX12_ringOf 94 = .ok (.getfield 190, 3) := by decide +kernel
theorem dX12_ringOf_97 : decode cX12_ringOf 97 = .ok (.iload 4, 2) := by decide +kernel
theorem dX12_ringOf_99 : decode cX12_ringOf 99 = .ok (.iaload, 1) := by decide +kernel
theorem dX12_ringOf_100 : decode cX12_ringOf 100 = .ok (.iadd, 1) := by decide +kernel
theorem dX12_ringOf_101 : decode cX12_ringOf 101 = .ok (.istore_n 2, 1) := by decide +kernel
theorem dX12_ringOf_102 : decode cX12_ringOf 102 = .ok (.iinc 3 1, 3) := by decide +kernel
theorem dX12_ringOf_105 : decode cX12_ringOf 105 = .ok (.goto (-101), 3) := by decide +kernel
theorem dX12_ringOf_108 : decode cX12_ringOf 108 = .ok (.iload_n 2, 1) := by decide +kernel
theorem dX12_ringOf_109 : decode cX12_ringOf 109 = .ok (.ireturn, 1) := by decide +kernel
theorem dX12_findRing_0 : decode cX12_findRing 0 = .ok (.aload_n 0, 1) := by decide +kernel
theorem dX12_findRing_1 : decode cX12_findRing 1 = .ok (.invokevirtual 478, 3) := by decide +kernel
theorem dX12_findRing_4 : decode cX12_findRing 4 = .ok (.aload_n 0, 1) := by decide +kernel
theorem dX12_findRing_5 : decode cX12_findRing 5 = .ok (.iconst 0, 1) := by decide +kernel
theorem dX12_findRing_6 : decode cX12_findRing 6 = .ok (.putfield 481, 3) := by decide +kernel
theorem dX12_findRing_9 : decode cX12_findRing 9 = .ok (.aload_n 0, 1) := by decide +kernel
theorem dX12_findRing_10 : decode cX12_findRing 10 = .ok (.iconst (-1), 1) := by decide +kernel
theorem dX12_findRing_11 : decode cX12_findRing 11 = .ok (.putfield 484, 3) := by decide +kernel
theorem dX12_findRing_14 : decode cX12_findRing 14 = .ok (.iconst 2, 1) := by decide +kernel
theorem dX12_findRing_15 : decode cX12_findRing 15 = .ok (.istore_n 1, 1) := by decide +kernel
theorem dX12_findRing_16 : decode cX12_findRing 16 = .ok (.iload_n 1, 1) := by decide +kernel
theorem dX12_findRing_17 : decode cX12_findRing 17 = .ok (.iconst 4, 1) := by decide +kernel
theorem dX12_findRing_18 : decode cX12_findRing 18 = .ok (.if_icmp .gt 153, 3) := by decide +kernel
theorem dX12_findRing_21 : decode cX12_findRing 21 = .ok (.iconst 0, 1) := by decide +kernel
theorem dX12_findRing_22 : decode cX12_findRing 22 = .ok (.istore_n 2, 1) := by decide +kernel
theorem dX12_findRing_23 : decode cX12_findRing 23 = .ok (.iload_n 2, 1) := by decide +kernel
theorem dX12_findRing_24 : decode cX12_findRing 24 = .ok (.iconst 1, 1) := by decide +kernel
theorem dX12_findRing_25 : decode cX12_findRing 25 = .ok (.iconst 3, 1) := by decide +kernel
theorem dX12_findRing_26 : decode cX12_findRing 26 = .ok (.iload_n 1, 1) := by decide +kernel
theorem dX12_findRing_27 : decode cX12_findRing 27 = .ok (.imul, 1) := by decide +kernel
theorem dX12_findRing_28 : decode cX12_findRing 28 = .ok (.ishl, 1) := by decide +kernel
theorem dX12_findRing_29 : decode cX12_findRing 29 = .ok (.if_icmp .ge 136, 3) := by decide +kernel
theorem dX12_findRing_32 : decode cX12_findRing 32 = .ok (.iconst 1, 1) := by decide +kernel
theorem dX12_findRing_33 : decode cX12_findRing 33 = .ok (.istore_n 3, 1) := by decide +kernel
theorem dX12_findRing_34 : decode cX12_findRing 34 = .ok (.iconst 0, 1) := by decide +kernel
theorem dX12_findRing_35 : decode cX12_findRing 35 = .ok (.istore 4, 2) := by decide +kernel
theorem dX12_findRing_37 : decode cX12_findRing 37 = .ok (.iload 4, 2) := by decide +kernel
theorem dX12_findRing_39 : decode cX12_findRing 39 = .ok (.iload_n 1, 1) := by decide +kernel
theorem dX12_findRing_40 : decode cX12_findRing 40 = .ok (.if_icmp .ge 55, 3) := by decide +kernel
theorem dX12_findRing_43 : decode cX12_findRing 43 = .ok (.aload_n 0, 1) := by decide +kernel
theorem dX12_findRing_44 : decode cX12_findRing 44 = .ok (.getfield 196, 3) := by decide +kernel
theorem dX12_findRing_47 : decode cX12_findRing 47 = .ok (.iload 4, 2) := by decide +kernel
theorem dX12_findRing_49 : decode cX12_findRing 49 = .ok (.iload_n 2, 1) := by decide +kernel
theorem dX12_findRing_50 : decode cX12_findRing 50 = .ok (.iconst 3, 1) := by decide +kernel
theorem dX12_findRing_51 : decode cX12_findRing 51 = .ok (.iload_n 1, 1) := by decide +kernel
theorem dX12_findRing_52 : decode cX12_findRing 52 = .ok (.iconst 1, 1) := by decide +kernel
theorem dX12_findRing_53 : decode cX12_findRing 53 = .ok (.isub, 1) := by decide +kernel
theorem dX12_findRing_54 : decode cX12_findRing 54 = .ok (.iload 4, 2) := by decide +kernel
theorem dX12_findRing_56 : decode cX12_findRing 56 = .ok (.isub, 1) := by decide +kernel
theorem dX12_findRing_57 : decode cX12_findRing 57 = .ok (.imul, 1) := by decide +kernel
theorem dX12_findRing_58 : decode cX12_findRing 58 = .ok (.ishr, 1) := by decide +kernel
theorem dX12_findRing_59 : decode cX12_findRing 59 = .ok (.bipush 7, 2) := by decide +kernel
theorem dX12_findRing_61 : decode cX12_findRing 61 = .ok (.iand, 1) := by decide +kernel
theorem dX12_findRing_62 : decode cX12_findRing 62 = .ok (.iastore, 1) := by decide +kernel
theorem dX12_findRing_63 : decode cX12_findRing 63 = .ok (.iload_n 3, 1) := by decide +kernel
theorem dX12_findRing_64 : decode cX12_findRing 64 = .ok (.ifCond .eq 23, 3) := by decide +kernel
theorem dX12_findRing_67 : decode cX12_findRing 67 = .ok (.aload_n 0, 1) := by decide +kernel
theorem dX12_findRing_68 : decode cX12_findRing 68 = .ok (.getfield 196, 3) := by decide +kernel
theorem dX12_findRing_71 : decode cX12_findRing 71 = .ok (.iload 4, 2) := by decide +kernel
theorem dX12_findRing_73 : decode cX12_findRing 73 = .ok (.iaload, 1) := by decide +kernel
theorem dX12_findRing_74 : decode cX12_findRing 74 = .ok (.aload_n 0, 1) := by decide +kernel
theorem dX12_findRing_75 : decode cX12_findRing 75 = .ok (.getfield 29, 3) := by decide +kernel
theorem dX12_findRing_78 : decode cX12_findRing 78 = .ok (.iconst 0, 1) := by decide +kernel
theorem dX12_findRing_79 : decode cX12_findRing 79 = .ok (.iaload, 1) := by decide +kernel
theorem dX12_findRing_80 : decode cX12_findRing 80 = .ok (.if_icmp .ge 7, 3) := by decide +kernel
theorem dX12_findRing_83 : decode cX12_findRing 83 = .ok (.iconst 1, 1) := by decide +kernel
theorem dX12_findRing_84 : decode cX12_findRing 84 = .ok (.goto 4, 3) := by decide +kernel
theorem dX12_findRing_87 : decode cX12_findRing 87 = .ok (.iconst 0, 1) := by decide +kernel
theorem dX12_findRing_88 : decode cX12_findRing 88 = .ok (.istore_n 3, 1) := by decide +kernel
theorem dX12_findRing_89 : decode cX12_findRing 89 = .ok (.iinc 4 1, 3) := by decide +kernel
theorem dX12_findRing_92 : decode cX12_findRing 92 = .ok (.goto (-55), 3) := by decide +kernel
theorem dX12_findRing_95 : decode cX12_findRing 95 = .ok (.iload_n 3, 1) := by decide +kernel
theorem dX12_findRing_96 : decode cX12_findRing 96 = .ok (.ifCond .eq 11, 3) := by decide +kernel
theorem dX12_findRing_99 : decode cX12_findRing 99 = .ok (.aload_n 0, 1) := by decide +kernel
theorem dX12_findRing_100 : decode cX12_findRing 100 = .ok (.iload_n 1, 1) := by decide +kernel
theorem dX12_findRing_101 : decode cX12_findRing 101 = .ok (.invokevirtual 487, 3) := by decide +kernel
theorem dX12_findRing_104 : decode cX12_findRing 104 = .ok (.goto 4, 3) := by decide +kernel
theorem dX12_findRing_107 : decode cX12_findRing 107 = .ok (.iconst (-1), 1) := by decide +kernel
theorem dX12_findRing_108 : decode cX12_findRing 108 = .ok (.istore 4, 2) := by decide +kernel
theorem dX12_findRing_110 : decode cX12_findRing 110 = .ok (.iload 4, 2) := by decide +kernel
theorem dX12_findRing_112 : decode cX12_findRing 112 = .ok (.aload_n 0, 1) := by decide +kernel
theorem dX12_findRing_113 : decode cX12_findRing 113 = .ok (.getfield 484, 3) := by decide +kernel
theorem dX12_findRing_116 : decode cX12_findRing 116 = .ok (.if_icmp .le 43, 3) := by decide +kernel
theorem dX12_findRing_119 : decode cX12_findRing 119 = .ok (.aload_n 0, 1) := by decide +kernel
theorem dX12_findRing_120 : decode cX12_findRing 120 = .ok (.iload 4, 2) := by decide +kernel
theorem dX12_findRing_122 : decode cX12_findRing 122 = .ok (.putfield 484, 3) := by decide +kernel
theorem dX12_findRing_125 : decode cX12_findRing 125 = .ok (.aload_n 0, 1) := by decide +kernel
theorem dX12_findRing_126 : decode cX12_findRing 126 = .ok (.iload_n 1, 1) := by decide +kernel
theorem dX12_findRing_127 : decode cX12_findRing 127 = .ok (.putfield 481, 3) := by decide +kernel
theorem dX12_findRing_130 : decode cX12_findRing 130 = .ok (.iconst 0, 1) := by decide +kernel
theorem dX12_findRing_131 : decode cX12_findRing 131 = .ok (.istore 5, 2) := by decide +kernel
theorem dX12_findRing_133 : decode cX12_findRing 133 = .ok (.iload 5, 2) := by decide +kernel
theorem dX12_findRing_135 : decode cX12_findRing 135 = .ok (.iload_n 1, 1) := by decide +kernel
theorem dX12_findRing_136 : decode cX12_findRing 136 = .ok (.if_icmp .ge 23, 3) := by decide +kernel
theorem dX12_findRing_139 : decode cX12_findRing 139 = .ok (.aload_n 0, 1) := by decide +kernel
theorem dX12_findRing_140 : decode cX12_findRing 140 = .ok (.getfield 193, 3) := by decide +kernel
theorem dX12_findRing_143 : decode cX12_findRing 143 = .ok (.iload 5, 2) := by decide +kernel
theorem dX12_findRing_145 : decode cX12_findRing 145 = .ok (.aload_n 0, 1) := by decide +kernel
theorem dX12_findRing_146 : decode cX12_findRing 146 = .ok (.getfield 196, 3) := by decide +kernel
theorem dX12_findRing_149 : decode cX12_findRing 149 = .ok (.iload 5, 2) := by decide +kernel
theorem dX12_findRing_151 : decode cX12_findRing 151 = .ok (.iaload, 1) := by decide +kernel
theorem dX12_findRing_152 : decode cX12_findRing 152 = .ok (.iastore, 1) := by decide +kernel
theorem dX12_findRing_153 : decode cX12_findRing 153 = .ok (.iinc 5 1, 3) := by decide +kernel
theorem dX12_findRing_156 : decode cX12_findRing 156 = .ok (.goto (-23), 3) := by decide +kernel
theorem dX12_findRing_159 : decode cX12_findRing 159 = .ok (.iinc 2 1, 3) := by decide +kernel
theorem dX12_findRing_162 : decode cX12_findRing 162 = .ok (.goto (-139), 3) := by decide +kernel
theorem dX12_findRing_165 : decode cX12_findRing 165 = .ok (.iinc 1 1, 3) := by decide +kernel
theorem dX12_findRing_168 : decode cX12_findRing 168 = .ok (.goto (-152), 3) := by decide +kernel
theorem dX12_findRing_171 : decode cX12_findRing 171 = .ok (.return_, 1) := by decide +kernel
theorem dX12_ring_0 : decode cX12_ring 0 = .ok (.aload_n 0, 1) := by decide +kernel
theorem dX12_ring_1 : decode cX12_ring 1 = .ok (.iconst 0, 1) := by decide +kernel
theorem dX12_ring_2 : decode cX12_ring 2 = .ok (.putfield 202, 3) := by decide +kernel
theorem dX12_ring_5 : decode cX12_ring 5 = .ok (.iload_n 1, 1) := by decide +kernel
theorem dX12_ring_6 : decode cX12_ring 6 = .ok (.iconst 0, 1) := by decide +kernel
theorem dX12_ring_7 : decode cX12_ring 7 = .ok (.iconst 1, 1) := by decide +kernel
theorem dX12_ring_8 : decode cX12_ring 8 = .ok (.invokestatic 218, 3) := by decide +kernel
theorem dX12_ring_11 : decode cX12_ring 11 = .ok (.ifCond .ne 5, 3) := by decide +kernel
theorem dX12_ring_14 : decode cX12_ring 14 = .ok (.iconst (-1), 1) := by decide +kernel
theorem dX12_ring_15 : decode cX12_ring 15 = .ok (.ireturn, 1) := by decide +kernel
theorem dX12_ring_16 : decode cX12_ring 16 = .ok (.aload_n 0, 1) := by decide +kernel
theorem dX12_ring_17 : decode cX12_ring 17 = .ok (.invokevirtual 490, 3) := by decide +kernel
theorem dX12_ring_20 : decode cX12_ring 20 = .ok (.aload_n 0, 1) := by decide +kernel
theorem dX12_ring_21 : decode cX12_ring 21 = .ok (.getfield 481, 3) := by decide +kernel
theorem dX12_ring_24 : decode cX12_ring 24 = .ok (.ifCond .ne 7, 3) := by decide +kernel
theorem dX12_ring_27 : decode cX12_ring 27 = .ok (.iconst (-1), 1) := by decide +kernel
theorem dX12_ring_28 : decode cX12_ring 28 = .ok (.goto 18, 3) := by decide +kernel
theorem dX12_ring_31 : decode cX12_ring 31 = .ok (.iload_n 1, 1) := by decide +kernel
theorem dX12_ring_32 : decode cX12_ring 32 = .ok (.ifCond .ne 10, 3) := by decide +kernel
theorem dX12_ring_35 : decode cX12_ring 35 = .ok (.aload_n 0, 1) := by decide +kernel
theorem dX12_ring_36 : decode cX12_ring 36 = .ok (.getfield 481, 3) := by decide +kernel
theorem dX12_ring_39 : decode cX12_ring 39 = .ok (.goto 7, 3) := by decide +kernel
theorem dX12_ring_42 : decode cX12_ring 42 = .ok (.aload_n 0, 1) := by decide +kernel
theorem dX12_ring_43 : decode cX12_ring 43 = .ok (.getfield 484, 3) := by decide +kernel
theorem dX12_ring_46 : decode cX12_ring 46 = .ok (.ireturn, 1) := by decide +kernel
theorem dX12_ringed_0 : decode cX12_ringed 0 = .ok (.aload_n 0, 1) := by decide +kernel
theorem dX12_ringed_1 : decode cX12_ringed 1 = .ok (.iconst 0, 1) := by decide +kernel
theorem dX12_ringed_2 : decode cX12_ringed 2 = .ok (.putfield 202, 3) := by decide +kernel
theorem dX12_ringed_5 : decode cX12_ringed 5 = .ok (.iload_n 2, 1) := by decide +kernel
theorem dX12_ringed_6 : decode cX12_ringed 6 = .ok (.iconst 0, 1) := by decide +kernel
theorem dX12_ringed_7 : decode cX12_ringed 7 = .ok (.iconst 2, 1) := by decide +kernel
theorem dX12_ringed_8 : decode cX12_ringed 8 = .ok (.invokestatic 218, 3) := by decide +kernel
theorem dX12_ringed_11 : decode cX12_ringed 11 = .ok (.ifCond .ne 5, 3) := by decide +kernel
theorem dX12_ringed_14 : decode cX12_ringed 14 = .ok (.iconst (-1), 1) := by decide +kernel
theorem dX12_ringed_15 : decode cX12_ringed 15 = .ok (.ireturn, 1) := by decide +kernel
theorem dX12_ringed_16 : decode cX12_ringed 16 = .ok (.aload_n 0, 1) := by decide +kernel
theorem dX12_ringed_17 : decode cX12_ringed 17 = .ok (.invokevirtual 490, 3) := by decide +kernel
theorem dX12_ringed_20 : decode cX12_ringed 20 = .ok (.iload_n 1, 1) := by decide +kernel
theorem dX12_ringed_21 : decode cX12_ringed 21 = .ok (.iconst 0, 1) := by decide +kernel
theorem dX12_ringed_22 : decode cX12_ringed 22 = .ok (.aload_n 0, 1) := by decide +kernel
theorem dX12_ringed_23 : decode cX12_ringed 23 = .ok (.getfield 481, 3) := by decide +kernel
theorem dX12_ringed_26 : decode cX12_ringed 26 = .ok (.iconst 1, 1) := by decide +kernel
theorem dX12_ringed_27 : decode cX12_ringed 27 = .ok (.isub, 1) := by decide +kernel
theorem dX12_ringed_28 : decode cX12_ringed 28 = .ok (.invokestatic 218, 3) := by decide +kernel
theorem dX12_ringed_31 : decode cX12_ringed 31 = .ok (.ifCond .ne 5, 3) := by decide +kernel
theorem dX12_ringed_34 : decode cX12_ringed 34 = .ok (.iconst (-1), 1) := by decide +kernel
theorem dX12_ringed_35 : decode cX12_ringed 35 = .ok (.ireturn, 1) := by decide +kernel
theorem dX12_ringed_36 : decode cX12_ringed 36 = .ok (.bipush 8, 2) := by decide +kernel
theorem dX12_ringed_38 : decode cX12_ringed 38 = .ok (.aload_n 0, 1) := by decide +kernel
theorem dX12_ringed_39 : decode cX12_ringed 39 = .ok (.getfield 193, 3) := by decide +kernel
theorem dX12_ringed_42 : decode cX12_ringed 42 = .ok (.iload_n 1, 1) := by decide +kernel
theorem dX12_ringed_43 : decode cX12_ringed 43 = .ok (.iaload, 1) := by decide +kernel
theorem dX12_ringed_44 : decode cX12_ringed 44 = .ok (.imul, 1) := by decide +kernel
theorem dX12_ringed_45 : decode cX12_ringed 45 = .ok (.aload_n 0, 1) := by decide +kernel
theorem dX12_ringed_46 : decode cX12_ringed 46 = .ok (.getfield 193, 3) := by decide +kernel
theorem dX12_ringed_49 : decode cX12_ringed 49 = .ok (.iload_n 1, 1) := by decide +kernel
theorem dX12_ringed_50 : decode cX12_ringed 50 = .ok (.iconst 1, 1) := by decide +kernel
theorem dX12_ringed_51 : decode cX12_ringed 51 = .ok (.iadd, 1) := by decide +kernel
theorem dX12_ringed_52 : decode cX12_ringed 52 = .ok (.aload_n 0, 1) := by decide +kernel
theorem dX12_ringed_53 : decode cX12_ringed 53 = .ok (.getfield 481, 3) := by decide +kernel
theorem dX12_ringed_56 : decode cX12_ringed 56 = .ok (.irem, 1) := by decide +kernel
theorem dX12_ringed_57 : decode cX12_ringed 57 = .ok (.iaload, 1) := by decide +kernel
theorem dX12_ringed_58 : decode cX12_ringed 58 = .ok (.iadd, 1) := by decide +kernel
theorem dX12_ringed_59 : decode cX12_ringed 59 = .ok (.istore_n 3, 1) := by decide +kernel
theorem dX12_ringed_60 : decode cX12_ringed 60 = .ok (.iload_n 2, 1) := by decide +kernel
theorem dX12_ringed_61 : decode cX12_ringed 61 = .ok (.ifCond .ne 12, 3) := by decide +kernel
theorem dX12_ringed_64 : decode cX12_ringed 64 = .ok (.aload_n 0, 1) := by decide +kernel
theorem dX12_ringed_65 : decode cX12_ringed 65 = .ok (.getfield 193, 3) := by decide +kernel
theorem dX12_ringed_68 : decode cX12_ringed 68 = .ok (.iload_n 1, 1) := by decide +kernel
theorem dX12_ringed_69 : decode cX12_ringed 69 = .ok (.iaload, 1) := by decide +kernel
theorem dX12_ringed_70 : decode cX12_ringed 70 = .ok (.goto 23, 3) := by decide +kernel
theorem dX12_ringed_73 : decode cX12_ringed 73 = .ok (.iload_n 2, 1) := by decide +kernel
theorem dX12_ringed_74 : decode cX12_ringed 74 = .ok (.iconst 1, 1) := by decide +kernel
theorem dX12_ringed_75 : decode cX12_ringed 75 = .ok (.if_icmp .ne 12, 3) := by decide +kernel
theorem dX12_ringed_78 : decode cX12_ringed 78 = .ok (.aload_n 0, 1) := by decide +kernel
theorem dX12_ringed_79 : decode cX12_ringed 79 = .ok (.getfield 184, 3) := by decide +kernel
theorem dX12_ringed_82 : decode cX12_ringed 82 = .ok (.iload_n 3, 1) := by decide +kernel
theorem dX12_ringed_83 : decode cX12_ringed 83 = .ok (.iaload, 1) := by decide +kernel
theorem dX12_ringed_84 : decode cX12_ringed 84 = .ok (.goto 9, 3) := by decide +kernel
theorem dX12_ringed_87 : decode cX12_ringed 87 = .ok (.aload_n 0, 1) := by decide +kernel
theorem dX12_ringed_88 : decode cX12_ringed 88 = .ok (.getfield 187, 3) := by decide +kernel
theorem dX12_ringed_91 : decode cX12_ringed 91 = .ok (.iload_n 3, 1) := by decide +kernel
theorem dX12_ringed_92 : decode cX12_ringed 92 = .ok (.iaload, 1) := by decide +kernel
theorem dX12_ringed_93 : decode cX12_ringed 93 = .ok (.ireturn, 1) := by decide +kernel
theorem dX12_count_0 : decode cX12_count 0 = .ok (.aload_n 0, 1) := by decide +kernel
theorem dX12_count_1 : decode cX12_count 1 = .ok (.iconst 0, 1) := by decide +kernel
theorem dX12_count_2 : decode cX12_count 2 = .ok (.putfield 202, 3) := by decide +kernel
theorem dX12_count_5 : decode cX12_count 5 = .ok (.iconst 0, 1) := by decide +kernel
theorem dX12_count_6 : decode cX12_count 6 = .ok (.istore_n 2, 1) := by decide +kernel
theorem dX12_count_7 : decode cX12_count 7 = .ok (.iload_n 1, 1) := by decide +kernel
theorem dX12_count_8 : decode cX12_count 8 = .ok (.tableswitch 307 0 11 #[64, 71, 78, 85, 92, 99, 99, 176, 229, 258, 258, 99], 64) := by decide +kernel
theorem dX12_count_72 : decode cX12_count 72 = .ok (.aload_n 0, 1) := by decide +kernel
theorem dX12_count_73 : decode cX12_count 73 = .ok (.getfield 29, 3) := by decide +kernel
theorem dX12_count_76 : decode cX12_count 76 = .ok (.iconst 0, 1) := by decide +kernel
theorem dX12_count_77 : decode cX12_count 77 = .ok (.iaload, 1) := by decide +kernel
theorem dX12_count_78 : decode cX12_count 78 = .ok (.ireturn, 1) := by decide +kernel
theorem dX12_count_79 : decode cX12_count 79 = .ok (.aload_n 0, 1) := by decide +kernel
theorem dX12_count_80 : decode cX12_count 80 = .ok (.getfield 44, 3) := by decide +kernel
theorem dX12_count_83 : decode cX12_count 83 = .ok (.iconst 0, 1) := by decide +kernel
theorem dX12_count_84 : decode cX12_count 84 = .ok (.iaload, 1) := by decide +kernel
theorem dX12_count_85 : decode cX12_count 85 = .ok (.ireturn, 1) := by decide +kernel
theorem dX12_count_86 : decode cX12_count 86 = .ok (.aload_n 0, 1) := by decide +kernel
theorem dX12_count_87 : decode cX12_count 87 = .ok (.getfield 72, 3) := by decide +kernel
theorem dX12_count_90 : decode cX12_count 90 = .ok (.iconst 0, 1) := by decide +kernel
theorem dX12_count_91 : decode cX12_count 91 = .ok (.iaload, 1) := by decide +kernel
theorem dX12_count_92 : decode cX12_count 92 = .ok (.ireturn, 1) := by decide +kernel
theorem dX12_count_93 : decode cX12_count 93 = .ok (.aload_n 0, 1) := by decide +kernel
theorem dX12_count_94 : decode cX12_count 94 = .ok (.getfield 23, 3) := by decide +kernel
theorem dX12_count_97 : decode cX12_count 97 = .ok (.iconst 0, 1) := by decide +kernel
theorem dX12_count_98 : decode cX12_count 98 = .ok (.iaload, 1) := by decide +kernel
theorem dX12_count_99 : decode cX12_count 99 = .ok (.ireturn, 1) := by decide +kernel
theorem dX12_count_100 : decode cX12_count 100 = .ok (.aload_n 0, 1) := by decide +kernel
theorem dX12_count_101 : decode cX12_count 101 = .ok (.getfield 78, 3) := by decide +kernel
theorem dX12_count_104 : decode cX12_count 104 = .ok (.iconst 0, 1) := by decide +kernel
theorem dX12_count_105 : decode cX12_count 105 = .ok (.iaload, 1) := by decide +kernel
theorem dX12_count_106 : decode cX12_count 106 = .ok (.ireturn, 1) := by decide +kernel
theorem dX12_count_107 : decode cX12_count 107 = .ok (.iconst 0, 1) := by decide +kernel
theorem dX12_count_108 : decode cX12_count 108 = .ok (.istore_n 3, 1) := by decide +kernel
theorem dX12_count_109 : decode cX12_count 109 = .ok (.iload_n 3, 1) := by decide +kernel
theorem dX12_count_110 : decode cX12_count 110 = .ok (.aload_n 0, 1) := by decide +kernel
theorem dX12_count_111 : decode cX12_count 111 = .ok (.getfield 78, 3) := by decide +kernel
theorem dX12_count_114 : decode cX12_count 114 = .ok (.iconst 0, 1) := by decide +kernel
theorem dX12_count_115 : decode cX12_count 115 = .ok (.iaload, 1) := by decide +kernel
theorem dX12_count_116 : decode cX12_count 116 = .ok (.if_icmp .ge 66, 3) := by decide +kernel
theorem dX12_count_119 : decode cX12_count 119 = .ok (.iload_n 1, 1) := by decide +kernel
theorem dX12_count_120 : decode cX12_count 120 = .ok (.iconst 5, 1) := by decide +kernel
theorem dX12_count_121 : decode cX12_count 121 = .ok (.if_icmp .ne 11, 3) := by decide +kernel
theorem dX12_count_124 : decode cX12_count 124 = .ok (.aload_n 0, 1) := by decide +kernel
theorem dX12_count_125 : decode cX12_count 125 = .ok (.iload_n 3, 1) := by decide +kernel
theorem dX12_count_126 : decode cX12_count 126 = .ok (.invokevirtual 272, 3) := by decide +kernel
theorem dX12_count_129 : decode cX12_count 129 = .ok (.goto 32, 3) := by decide +kernel
theorem dX12_count_132 : decode cX12_count 132 = .ok (.iload_n 1, 1) := by decide +kernel
theorem dX12_count_133 : decode cX12_count 133 = .ok (.bipush 6, 2) := by decide +kernel
theorem dX12_count_135 : decode cX12_count 135 = .ok (.if_icmp .ne 21, 3) := by decide +kernel
theorem dX12_count_138 : decode cX12_count 138 = .ok (.aload_n 0, 1) := by decide +kernel
theorem dX12_count_139 : decode cX12_count 139 = .ok (.getfield 87, 3) := by decide +kernel
theorem dX12_count_142 : decode cX12_count 142 = .ok (.iload_n 3, 1) := by decide +kernel
theorem dX12_count_143 : decode cX12_count 143 = .ok (.iaload, 1) := by decide +kernel
theorem dX12_count_144 : decode cX12_count 144 = .ok (.iconst 2, 1) := by decide +kernel
theorem dX12_count_145 : decode cX12_count 145 = .ok (.if_icmp .ne 7, 3) := by decide +kernel
theorem dX12_count_148 : decode cX12_count 148 = .ok (.iconst 1, 1) := by decide +kernel
theorem dX12_count_149 : decode cX12_count 149 = .ok (.goto 12, 3) := by decide +kernel
theorem dX12_count_152 : decode cX12_count 152 = .ok (.iconst 0, 1) := by decide +kernel
theorem dX12_count_153 : decode cX12_count 153 = .ok (.goto 8, 3) := by decide +kernel
theorem dX12_count_156 : decode cX12_count 156 = .ok (.aload_n 0, 1) := by decide +kernel
theorem dX12_count_157 : decode cX12_count 157 = .ok (.iload_n 3, 1) := by decide +kernel
theorem dX12_count_158 : decode cX12_count 158 = .ok (.invokevirtual 444, 3) := by decide +kernel
theorem dX12_count_161 : decode cX12_count 161 = .ok (.istore 4, 2) := by decide +kernel
theorem dX12_count_163 : decode cX12_count 163 = .ok (.iload_n 2, 1) := by decide +kernel
theorem dX12_count_164 : decode cX12_count 164 = .ok (.iload 4, 2) := by decide +kernel
theorem dX12_count_166 : decode cX12_count 166 = .ok (.ifCond .eq 7, 3) := by decide +kernel
theorem dX12_count_169 : decode cX12_count 169 = .ok (.iconst 1, 1) := by decide +kernel
theorem dX12_count_170 : decode cX12_count 170 = .ok (.goto 4, 3) := by decide +kernel
theorem dX12_count_173 : decode cX12_count 173 = .ok (.iconst 0, 1) := by decide +kernel
theorem dX12_count_174 : decode cX12_count 174 = .ok (.iadd, 1) := by decide +kernel
theorem dX12_count_175 : decode cX12_count 175 = .ok (.istore_n 2, 1) := by decide +kernel
theorem dX12_count_176 : decode cX12_count 176 = .ok (.iinc 3 1, 3) := by decide +kernel
theorem dX12_count_179 : decode cX12_count 179 = .ok (.goto (-70), 3) := by decide +kernel
theorem dX12_count_182 : decode cX12_count 182 = .ok (.iload_n 2, 1) := by decide +kernel
theorem dX12_count_183 : decode cX12_count 183 = .ok (.ireturn, 1) := by decide +kernel
theorem dX12_count_184 : decode cX12_count 184 = .ok (.iconst 0, 1) := by decide +kernel
theorem dX12_count_185 : decode cX12_count 185 = .ok (.istore_n 3, 1) := by decide +kernel
theorem dX12_count_186 : decode cX12_count 186 = .ok (.iload_n 3, 1) := by decide +kernel
theorem dX12_count_187 : decode cX12_count 187 = .ok (.aload_n 0, 1) := by decide +kernel
theorem dX12_count_188 : decode cX12_count 188 = .ok (.getfield 29, 3) := by decide +kernel
theorem dX12_count_191 : decode cX12_count 191 = .ok (.iconst 0, 1) := by decide +kernel
theorem dX12_count_192 : decode cX12_count 192 = .ok (.iaload, 1) := by decide +kernel
theorem dX12_count_193 : decode cX12_count 193 = .ok (.if_icmp .ge 42, 3) := by decide +kernel
theorem dX12_count_196 : decode cX12_count 196 = .ok (.iconst 0, 1) := by decide +kernel
theorem dX12_count_197 : decode cX12_count 197 = .ok (.istore 4, 2) := by decide +kernel
theorem dX12_count_199 : decode cX12_count 199 = .ok (.iload 4, 2) := by decide +kernel
theorem dX12_count_201 : decode cX12_count 201 = .ok (.iload_n 3, 1) := by decide +kernel
theorem dX12_count_202 : decode cX12_count 202 = .ok (.if_icmp .ge 27, 3) := by decide +kernel
theorem dX12_count_205 : decode cX12_count 205 = .ok (.iload_n 2, 1) := by decide +kernel
theorem dX12_count_206 : decode cX12_count 206 = .ok (.aload_n 0, 1) := by decide +kernel
theorem dX12_count_207 : decode cX12_count 207 = .ok (.iload_n 3, 1) := by decide +kernel
theorem dX12_count_208 : decode cX12_count 208 = .ok (.iload 4, 2) := by decide +kernel
theorem dX12_count_210 : decode cX12_count 210 = .ok (.invokevirtual 233, 3) := by decide +kernel
theorem dX12_count_213 : decode cX12_count 213 = .ok (.ifCond .eq 7, 3) := by decide +kernel
theorem dX12_count_216 : decode cX12_count 216 = .ok (.iconst 1, 1) := by decide +kernel
theorem dX12_count_217 : decode cX12_count 217 = .ok (.goto 4, 3) := by decide +kernel
theorem dX12_count_220 : decode cX12_count 220 = .ok (.iconst 0, 1) := by decide +kernel
theorem dX12_count_221 : decode cX12_count 221 = .ok (.iadd, 1) := by decide +kernel
theorem dX12_count_222 : decode cX12_count 222 = .ok (.istore_n 2, 1) := by decide +kernel
theorem dX12_count_223 : decode cX12_count 223 = .ok (.iinc 4 1, 3) := by decide +kernel
theorem dX12_count_226 : decode cX12_count 226 = .ok (.goto (-27), 3) := by decide +kernel
theorem dX12_count_229 : decode cX12_count 229 = .ok (.iinc 3 1, 3) := by decide +kernel
theorem dX12_count_232 : decode cX12_count 232 = .ok (.goto (-46), 3) := by decide +kernel
theorem dX12_count_235 : decode cX12_count 235 = .ok (.iload_n 2, 1) := by decide +kernel
theorem dX12_count_236 : decode cX12_count 236 = .ok (.ireturn, 1) := by decide +kernel
theorem dX12_count_237 : decode cX12_count 237 = .ok (.iconst 0, 1) := by decide +kernel
theorem dX12_count_238 : decode cX12_count 238 = .ok (.istore_n 3, 1) := by decide +kernel
theorem dX12_count_239 : decode cX12_count 239 = .ok (.iload_n 3, 1) := by decide +kernel
theorem dX12_count_240 : decode cX12_count 240 = .ok (.aload_n 0, 1) := by decide +kernel
theorem dX12_count_241 : decode cX12_count 241 = .ok (.getfield 29, 3) := by decide +kernel
theorem dX12_count_244 : decode cX12_count 244 = .ok (.iconst 0, 1) := by decide +kernel
theorem dX12_count_245 : decode cX12_count 245 = .ok (.iaload, 1) := by decide +kernel
theorem dX12_count_246 : decode cX12_count 246 = .ok (.if_icmp .ge 18, 3) := by decide +kernel
theorem dX12_count_249 : decode cX12_count 249 = .ok (.iload_n 2, 1) := by decide +kernel
theorem dX12_count_250 : decode cX12_count 250 = .ok (.aload_n 0, 1) := by decide +kernel
theorem dX12_count_251 : decode cX12_count 251 = .ok (.getfield 38, 3) := by decide +kernel
theorem dX12_count_254 : decode cX12_count 254 = .ok (.iload_n 3, 1) := by decide +kernel
theorem dX12_count_255 : decode cX12_count 255 = .ok (.iaload, 1) := by decide +kernel
theorem dX12_count_256 : decode cX12_count 256 = .ok (.iadd, 1) := by decide +kernel
theorem dX12_count_257 : decode cX12_count 257 = .ok (.istore_n 2, 1) := by decide +kernel
theorem dX12_count_258 : decode cX12_count 258 = .ok (.iinc 3 1, 3) := by decide +kernel
theorem dX12_count_261 : decode cX12_count 261 = .ok (.goto (-22), 3) := by decide +kernel
theorem dX12_count_264 : decode cX12_count 264 = .ok (.iload_n 2, 1) := by decide +kernel
theorem dX12_count_265 : decode cX12_count 265 = .ok (.ireturn, 1) := by decide +kernel
theorem dX12_count_266 : decode cX12_count 266 = .ok (.iconst 0, 1) := by decide +kernel
theorem dX12_count_267 : decode cX12_count 267 = .ok (.istore_n 3, 1) := by decide +kernel
theorem dX12_count_268 : decode cX12_count 268 = .ok (.iload_n 3, 1) := by decide +kernel
theorem dX12_count_269 : decode cX12_count 269 = .ok (.aload_n 0, 1) := by decide +kernel
theorem dX12_count_270 : decode cX12_count 270 = .ok (.getfield 44, 3) := by decide +kernel
theorem dX12_count_273 : decode cX12_count 273 = .ok (.iconst 0, 1) := by decide +kernel
theorem dX12_count_274 : decode cX12_count 274 = .ok (.iaload, 1) := by decide +kernel
theorem dX12_count_275 : decode cX12_count 275 = .ok (.if_icmp .ge 38, 3) := by decide +kernel
theorem dX12_count_278 : decode cX12_count 278 = .ok (.iload_n 2, 1) := by decide +kernel
theorem dX12_count_279 : decode cX12_count 279 = .ok (.aload_n 0, 1) := by decide +kernel
theorem dX12_count_280 : decode cX12_count 280 = .ok (.getfield 50, 3) := by decide +kernel
theorem dX12_count_283 : decode cX12_count 283 = .ok (.iload_n 3, 1) := by decide +kernel
theorem dX12_count_284 : decode cX12_count 284 = .ok (.iaload, 1) := by decide +kernel
theorem dX12_count_285 : decode cX12_count 285 = .ok (.iload_n 1, 1) := by decide +kernel
theorem dX12_count_286 : decode cX12_count 286 = .ok (.bipush 9, 2) := by decide +kernel
theorem dX12_count_288 : decode cX12_count 288 = .ok (.isub, 1) := by decide +kernel
theorem dX12_count_289 : decode cX12_count 289 = .ok (.if_icmp .ne 15, 3) := by decide +kernel
theorem dX12_count_292 : decode cX12_count 292 = .ok (.aload_n 0, 1) := by decide +kernel
theorem dX12_count_293 : decode cX12_count 293 = .ok (.iload_n 3, 1) := by decide +kernel
theorem dX12_count_294 : decode cX12_count 294 = .ok (.invokevirtual 278, 3) := by decide +kernel
theorem dX12_count_297 : decode cX12_count 297 = .ok (.ifCond .eq 7, 3) := by decide +kernel
theorem dX12_count_300 : decode cX12_count 300 = .ok (.iconst 1, 1) := by decide +kernel
theorem dX12_count_301 : decode cX12_count 301 = .ok (.goto 4, 3) := by decide +kernel
theorem dX12_count_304 : decode cX12_count 304 = .ok (.iconst 0, 1) := by decide +kernel
theorem dX12_count_305 : decode cX12_count 305 = .ok (.iadd, 1) := by decide +kernel
theorem dX12_count_306 : decode cX12_count 306 = .ok (.istore_n 2, 1) := by decide +kernel
theorem dX12_count_307 : decode cX12_count 307 = .ok (.iinc 3 1, 3) := by decide +kernel
theorem dX12_count_310 : decode cX12_count 310 = .ok (.goto (-42), 3) := by decide +kernel
theorem dX12_count_313 : decode cX12_count 313 = .ok (.iload_n 2, 1) := by decide +kernel
theorem dX12_count_314 : decode cX12_count 314 = .ok (.ireturn, 1) := by decide +kernel
theorem dX12_count_315 : decode cX12_count 315 = .ok (.bipush (-100), 2) := by decide +kernel
theorem dX12_count_317 : decode cX12_count 317 = .ok (.ireturn, 1) := by decide +kernel
theorem dX12_image_0 : decode cX12_image 0 = .ok (.aload_n 0, 1) := by decide +kernel
theorem dX12_image_1 : decode cX12_image 1 = .ok (.iconst 0, 1) := by decide +kernel
theorem dX12_image_2 : decode cX12_image 2 = .ok (.putfield 202, 3) := by decide +kernel
theorem dX12_image_5 : decode cX12_image 5 = .ok (.iload_n 1, 1) := by decide +kernel
theorem dX12_image_6 : decode cX12_image 6 = .ok (.iconst 0, 1) := by decide +kernel
theorem dX12_image_7 : decode cX12_image 7 = .ok (.iconst 2, 1) := by decide +kernel
theorem dX12_image_8 : decode cX12_image 8 = .ok (.invokestatic 218, 3) := by decide +kernel
theorem dX12_image_11 : decode cX12_image 11 = .ok (.ifCond .ne 5, 3) := by decide +kernel
theorem dX12_image_14 : decode cX12_image 14 = .ok (.iconst 0, 1) := by decide +kernel
theorem dX12_image_15 : decode cX12_image 15 = .ok (.ireturn, 1) := by decide +kernel
theorem dX12_image_16 : decode cX12_image 16 = .ok (.aload_n 0, 1) := by decide +kernel
theorem dX12_image_17 : decode cX12_image 17 = .ok (.iconst 0, 1) := by decide +kernel
theorem dX12_image_18 : decode cX12_image 18 = .ok (.iload_n 1, 1) := by decide +kernel
theorem dX12_image_19 : decode cX12_image 19 = .ok (.iconst 1, 1) := by decide +kernel
theorem dX12_image_20 : decode cX12_image 20 = .ok (.iadd, 1) := by decide +kernel
theorem dX12_image_21 : decode cX12_image 21 = .ok (.invokevirtual 493, 3) := by decide +kernel
theorem dX12_image_24 : decode cX12_image 24 = .ok (.aload_n 0, 1) := by decide +kernel
theorem dX12_image_25 : decode cX12_image 25 = .ok (.getfield 199, 3) := by decide +kernel
theorem dX12_image_28 : decode cX12_image 28 = .ok (.iload_n 1, 1) := by decide +kernel
theorem dX12_image_29 : decode cX12_image 29 = .ok (.iconst 1, 1) := by decide +kernel
theorem dX12_image_30 : decode cX12_image 30 = .ok (.bastore, 1) := by decide +kernel
theorem dX12_image_31 : decode cX12_image 31 = .ok (.iconst 1, 1) := by decide +kernel
theorem dX12_image_32 : decode cX12_image 32 = .ok (.ireturn, 1) := by decide +kernel
theorem dX12_again_0 : decode cX12_again 0 = .ok (.aload_n 0, 1) := by decide +kernel
theorem dX12_again_1 : decode cX12_again 1 = .ok (.iconst 0, 1) := by decide +kernel
theorem dX12_again_2 : decode cX12_again 2 = .ok (.putfield 202, 3) := by decide +kernel
theorem dX12_again_5 : decode cX12_again 5 = .ok (.iload_n 1, 1) := by decide +kernel
theorem dX12_again_6 : decode cX12_again 6 = .ok (.iconst 0, 1) := by decide +kernel
theorem dX12_again_7 : decode cX12_again 7 = .ok (.iconst 2, 1) := by decide +kernel
theorem dX12_again_8 : decode cX12_again 8 = .ok (.invokestatic 218, 3) := by decide +kernel
theorem dX12_again_11 : decode cX12_again 11 = .ok (.ifCond .eq 12, 3) := by decide +kernel
theorem dX12_again_14 : decode cX12_again 14 = .ok (.aload_n 0, 1) := by decide +kernel
theorem dX12_again_15 : decode cX12_again 15 = .ok (.getfield 199, 3) := by decide +kernel
theorem dX12_again_18 : decode cX12_again 18 = .ok (.iload_n 1, 1) := by decide +kernel
theorem dX12_again_19 : decode cX12_again 19 = .ok (.baload, 1) := by decide +kernel
theorem dX12_again_20 : decode cX12_again 20 = .ok (.ifCond .ne 5, 3) := by decide +kernel
theorem dX12_again_23 : decode cX12_again 23 = .ok (.iconst 0, 1) := by decide +kernel
theorem dX12_again_24 : decode cX12_again 24 = .ok (.ireturn, 1) := by decide +kernel
theorem dX12_again_25 : decode cX12_again 25 = .ok (.aload_n 0, 1) := by decide +kernel
theorem dX12_again_26 : decode cX12_again 26 = .ok (.iload_n 1, 1) := by decide +kernel
theorem dX12_again_27 : decode cX12_again 27 = .ok (.iconst 1, 1) := by decide +kernel
theorem dX12_again_28 : decode cX12_again 28 = .ok (.iadd, 1) := by decide +kernel
theorem dX12_again_29 : decode cX12_again 29 = .ok (.iconst 0, 1) := by decide +kernel
theorem dX12_again_30 : decode cX12_again 30 = .ok (.invokevirtual 493, 3) := by decide +kernel
theorem dX12_again_33 : decode cX12_again 33 = .ok (.iconst 1, 1) := by decide +kernel
theorem dX12_again_34 : decode cX12_again 34 = .ok (.ireturn, 1) := by decide +kernel
theorem dJ6_bitCount_0f7a4_0 : decode cJ6_bitCount_0f7a4 0 = .ok (.iload_n 0, 1) := by decide +kernel
theorem dJ6_bitCount_0f7a4_1 : decode cJ6_bitCount_0f7a4 1 = .ok (.iload_n 0, 1) := by decide +kernel
theorem dJ6_bitCount_0f7a4_2 : decode cJ6_bitCount_0f7a4 2 = .ok (.iconst 1, 1) := by decide +kernel
theorem dJ6_bitCount_0f7a4_3 : decode cJ6_bitCount_0f7a4 3 = .ok (.iushr, 1) := by decide +kernel
theorem dJ6_bitCount_0f7a4_4 : decode cJ6_bitCount_0f7a4 4 = .ok (.ldc_w 265, 3) := by decide +kernel
theorem dJ6_bitCount_0f7a4_7 : decode cJ6_bitCount_0f7a4 7 = .ok (.iand, 1) := by decide +kernel
theorem dJ6_bitCount_0f7a4_8 : decode cJ6_bitCount_0f7a4 8 = .ok (.isub, 1) := by decide +kernel
theorem dJ6_bitCount_0f7a4_9 : decode cJ6_bitCount_0f7a4 9 = .ok (.istore_n 0, 1) := by decide +kernel
theorem dJ6_bitCount_0f7a4_10 : decode cJ6_bitCount_0f7a4 10 = .ok (.iload_n 0, 1) := by decide +kernel
theorem dJ6_bitCount_0f7a4_11 : decode cJ6_bitCount_0f7a4 11 = .ok (.ldc_w 266, 3) := by decide +kernel
theorem dJ6_bitCount_0f7a4_14 : decode cJ6_bitCount_0f7a4 14 = .ok (.iand, 1) := by decide +kernel
theorem dJ6_bitCount_0f7a4_15 : decode cJ6_bitCount_0f7a4 15 = .ok (.iload_n 0, 1) := by decide +kernel
theorem dJ6_bitCount_0f7a4_16 : decode cJ6_bitCount_0f7a4 16 = .ok (.iconst 2, 1) := by decide +kernel
theorem dJ6_bitCount_0f7a4_17 : decode cJ6_bitCount_0f7a4 17 = .ok (.iushr, 1) := by decide +kernel
theorem dJ6_bitCount_0f7a4_18 : decode cJ6_bitCount_0f7a4 18 = .ok (.ldc_w 266, 3) := by decide +kernel
theorem dJ6_bitCount_0f7a4_21 : decode cJ6_bitCount_0f7a4 21 = .ok (.iand, 1) := by decide +kernel
theorem dJ6_bitCount_0f7a4_22 : decode cJ6_bitCount_0f7a4 22 = .ok (.iadd, 1) := by decide +kernel
theorem dJ6_bitCount_0f7a4_23 : decode cJ6_bitCount_0f7a4 23 = .ok (.istore_n 0, 1) := by decide +kernel
theorem dJ6_bitCount_0f7a4_24 : decode cJ6_bitCount_0f7a4 24 = .ok (.iload_n 0, 1) := by decide +kernel
theorem dJ6_bitCount_0f7a4_25 : decode cJ6_bitCount_0f7a4 25 = .ok (.iload_n 0, 1) := by decide +kernel
theorem dJ6_bitCount_0f7a4_26 : decode cJ6_bitCount_0f7a4 26 = .ok (.iconst 4, 1) := by decide +kernel
theorem dJ6_bitCount_0f7a4_27 : decode cJ6_bitCount_0f7a4 27 = .ok (.iushr, 1) := by decide +kernel
theorem dJ6_bitCount_0f7a4_28 : decode cJ6_bitCount_0f7a4 28 = .ok (.iadd, 1) := by decide +kernel
theorem dJ6_bitCount_0f7a4_29 : decode cJ6_bitCount_0f7a4 29 = .ok (.ldc_w 267, 3) := by decide +kernel
theorem dJ6_bitCount_0f7a4_32 : decode cJ6_bitCount_0f7a4 32 = .ok (.iand, 1) := by decide +kernel
theorem dJ6_bitCount_0f7a4_33 : decode cJ6_bitCount_0f7a4 33 = .ok (.istore_n 0, 1) := by decide +kernel
theorem dJ6_bitCount_0f7a4_34 : decode cJ6_bitCount_0f7a4 34 = .ok (.iload_n 0, 1) := by decide +kernel
theorem dJ6_bitCount_0f7a4_35 : decode cJ6_bitCount_0f7a4 35 = .ok (.iload_n 0, 1) := by decide +kernel
theorem dJ6_bitCount_0f7a4_36 : decode cJ6_bitCount_0f7a4 36 = .ok (.bipush 8, 2) := by decide +kernel
theorem dJ6_bitCount_0f7a4_38 : decode cJ6_bitCount_0f7a4 38 = .ok (.iushr, 1) := by decide +kernel
theorem dJ6_bitCount_0f7a4_39 : decode cJ6_bitCount_0f7a4 39 = .ok (.iadd, 1) := by decide +kernel
theorem dJ6_bitCount_0f7a4_40 : decode cJ6_bitCount_0f7a4 40 = .ok (.istore_n 0, 1) := by decide +kernel
theorem dJ6_bitCount_0f7a4_41 : decode cJ6_bitCount_0f7a4 41 = .ok (.iload_n 0, 1) := by decide +kernel
theorem dJ6_bitCount_0f7a4_42 : decode cJ6_bitCount_0f7a4 42 = .ok (.iload_n 0, 1) := by decide +kernel
theorem dJ6_bitCount_0f7a4_43 : decode cJ6_bitCount_0f7a4 43 = .ok (.bipush 16, 2) := by decide +kernel
theorem dJ6_bitCount_0f7a4_45 : decode cJ6_bitCount_0f7a4 45 = .ok (.iushr, 1) := by decide +kernel
theorem dJ6_bitCount_0f7a4_46 : decode cJ6_bitCount_0f7a4 46 = .ok (.iadd, 1) := by decide +kernel
theorem dJ6_bitCount_0f7a4_47 : decode cJ6_bitCount_0f7a4 47 = .ok (.istore_n 0, 1) := by decide +kernel
theorem dJ6_bitCount_0f7a4_48 : decode cJ6_bitCount_0f7a4 48 = .ok (.iload_n 0, 1) := by decide +kernel
theorem dJ6_bitCount_0f7a4_49 : decode cJ6_bitCount_0f7a4 49 = .ok (.bipush 63, 2) := by decide +kernel
theorem dJ6_bitCount_0f7a4_51 : decode cJ6_bitCount_0f7a4 51 = .ok (.iand, 1) := by decide +kernel
theorem dJ6_bitCount_0f7a4_52 : decode cJ6_bitCount_0f7a4 52 = .ok (.ireturn, 1) := by decide +kernel
theorem dJ9_abs_0f7a4_0 : decode cJ9_abs_0f7a4 0 = .ok (.iload_n 0, 1) := by decide +kernel
theorem dJ9_abs_0f7a4_1 : decode cJ9_abs_0f7a4 1 = .ok (.ifCond .ge 8, 3) := by decide +kernel
theorem dJ9_abs_0f7a4_4 : decode cJ9_abs_0f7a4 4 = .ok (.iload_n 0, 1) := by decide +kernel
theorem dJ9_abs_0f7a4_5 : decode cJ9_abs_0f7a4 5 = .ok (.ineg, 1) := by decide +kernel
theorem dJ9_abs_0f7a4_6 : decode cJ9_abs_0f7a4 6 = .ok (.goto 4, 3) := by decide +kernel
theorem dJ9_abs_0f7a4_9 : decode cJ9_abs_0f7a4 9 = .ok (.iload_n 0, 1) := by decide +kernel
theorem dJ9_abs_0f7a4_10 : decode cJ9_abs_0f7a4 10 = .ok (.ireturn, 1) := by decide +kernel
theorem dJ9_max_7cf53_0 : decode cJ9_max_7cf53 0 = .ok (.iload_n 0, 1) := by decide +kernel
theorem dJ9_max_7cf53_1 : decode cJ9_max_7cf53 1 = .ok (.iload_n 1, 1) := by decide +kernel
theorem dJ9_max_7cf53_2 : decode cJ9_max_7cf53 2 = .ok (.if_icmp .lt 7, 3) := by decide +kernel
theorem dJ9_max_7cf53_5 : decode cJ9_max_7cf53 5 = .ok (.iload_n 0, 1) := by decide +kernel
theorem dJ9_max_7cf53_6 : decode cJ9_max_7cf53 6 = .ok (.goto 4, 3) := by decide +kernel
theorem dJ9_max_7cf53_9 : decode cJ9_max_7cf53 9 = .ok (.iload_n 1, 1) := by decide +kernel
theorem dJ9_max_7cf53_10 : decode cJ9_max_7cf53 10 = .ok (.ireturn, 1) := by decide +kernel
theorem dJ9_min_7cf53_0 : decode cJ9_min_7cf53 0 = .ok (.iload_n 0, 1) := by decide +kernel
theorem dJ9_min_7cf53_1 : decode cJ9_min_7cf53 1 = .ok (.iload_n 1, 1) := by decide +kernel
theorem dJ9_min_7cf53_2 : decode cJ9_min_7cf53 2 = .ok (.if_icmp .gt 7, 3) := by decide +kernel
theorem dJ9_min_7cf53_5 : decode cJ9_min_7cf53 5 = .ok (.iload_n 0, 1) := by decide +kernel
theorem dJ9_min_7cf53_6 : decode cJ9_min_7cf53 6 = .ok (.goto 4, 3) := by decide +kernel
theorem dJ9_min_7cf53_9 : decode cJ9_min_7cf53 9 = .ok (.iload_n 1, 1) := by decide +kernel
theorem dJ9_min_7cf53_10 : decode cJ9_min_7cf53 10 = .ok (.ireturn, 1) := by decide +kernel
theorem dJ0_length_8abf5_0 : decode cJ0_length_8abf5 0 = .ok (.aload_n 0, 1) := by decide +kernel
theorem dJ0_length_8abf5_1 : decode cJ0_length_8abf5 1 = .ok (.getfield 9, 3) := by decide +kernel
theorem dJ0_length_8abf5_4 : decode cJ0_length_8abf5 4 = .ok (.arraylength, 1) := by decide +kernel
theorem dJ0_length_8abf5_5 : decode cJ0_length_8abf5 5 = .ok (.aload_n 0, 1) := by decide +kernel
theorem dJ0_length_8abf5_6 : decode cJ0_length_8abf5 6 = .ok (.invokevirtual 335, 3) := by decide +kernel
theorem dJ0_length_8abf5_9 : decode cJ0_length_8abf5 9 = .ok (.ishr, 1) := by decide +kernel
theorem dJ0_length_8abf5_10 : decode cJ0_length_8abf5 10 = .ok (.ireturn, 1) := by decide +kernel
theorem dJ0_charAt_5068e_0 : decode cJ0_charAt_5068e 0 = .ok (.aload_n 0, 1) := by decide +kernel
theorem dJ0_charAt_5068e_1 : decode cJ0_charAt_5068e 1 = .ok (.invokevirtual 492, 3) := by decide +kernel
theorem dJ0_charAt_5068e_4 : decode cJ0_charAt_5068e 4 = .ok (.ifCond .eq 12, 3) := by decide +kernel
theorem dJ0_charAt_5068e_7 : decode cJ0_charAt_5068e 7 = .ok (.aload_n 0, 1) := by decide +kernel
theorem dJ0_charAt_5068e_8 : decode cJ0_charAt_5068e 8 = .ok (.getfield 9, 3) := by decide +kernel
theorem dJ0_charAt_5068e_11 : decode cJ0_charAt_5068e 11 = .ok (.iload_n 1, 1) := by decide +kernel
theorem dJ0_charAt_5068e_12 : decode cJ0_charAt_5068e 12 = .ok (.invokestatic 495, 3) := by decide +kernel
theorem dJ0_charAt_5068e_15 : decode cJ0_charAt_5068e 15 = .ok (.ireturn, 1) := by decide +kernel
theorem dJ0_charAt_5068e_16 : decode cJ0_charAt_5068e 16 = .ok (.aload_n 0, 1) := by decide +kernel
theorem dJ0_charAt_5068e_17 : decode cJ0_charAt_5068e 17 = .ok (.getfield 9, 3) := by decide +kernel
theorem dJ0_charAt_5068e_20 : decode cJ0_charAt_5068e 20 = .ok (.iload_n 1, 1) := by decide +kernel
theorem dJ0_charAt_5068e_21 : decode cJ0_charAt_5068e 21 = .ok (.invokestatic 498, 3) := by decide +kernel
theorem dJ0_charAt_5068e_24 : decode cJ0_charAt_5068e 24 = .ok (.ireturn, 1) := by decide +kernel
theorem dJ0_coder_7d493_0 : decode cJ0_coder_7d493 0 = .ok (.getstatic 38, 3) := by decide +kernel
theorem dJ0_coder_7d493_3 : decode cJ0_coder_7d493 3 = .ok (.ifCond .eq 10, 3) := by decide +kernel
theorem dJ0_coder_7d493_6 : decode cJ0_coder_7d493 6 = .ok (.aload_n 0, 1) := by decide +kernel
theorem dJ0_coder_7d493_7 : decode cJ0_coder_7d493 7 = .ok (.getfield 15, 3) := by decide +kernel
theorem dJ0_coder_7d493_10 : decode cJ0_coder_7d493 10 = .ok (.goto 4, 3) := by decide +kernel
theorem dJ0_coder_7d493_13 : decode cJ0_coder_7d493 13 = .ok (.iconst 1, 1) := by decide +kernel
theorem dJ0_coder_7d493_14 : decode cJ0_coder_7d493 14 = .ok (.ireturn, 1) := by decide +kernel
theorem dJ0_isLatin1_aae02_0 : decode cJ0_isLatin1_aae02 0 = .ok (.getstatic 38, 3) := by decide +kernel
theorem dJ0_isLatin1_aae02_3 : decode cJ0_isLatin1_aae02 3 = .ok (.ifCond .eq 14, 3) := by decide +kernel
theorem dJ0_isLatin1_aae02_6 : decode cJ0_isLatin1_aae02 6 = .ok (.aload_n 0, 1) := by decide +kernel
theorem dJ0_isLatin1_aae02_7 : decode cJ0_isLatin1_aae02 7 = .ok (.getfield 15, 3) := by decide +kernel
theorem dJ0_isLatin1_aae02_10 : decode cJ0_isLatin1_aae02 10 = .ok (.ifCond .ne 7, 3) := by decide +kernel
theorem dJ0_isLatin1_aae02_13 : decode cJ0_isLatin1_aae02 13 = .ok (.iconst 1, 1) := by decide +kernel
theorem dJ0_isLatin1_aae02_14 : decode cJ0_isLatin1_aae02 14 = .ok (.goto 4, 3) := by decide +kernel
theorem dJ0_isLatin1_aae02_17 : decode cJ0_isLatin1_aae02 17 = .ok (.iconst 0, 1) := by decide +kernel
theorem dJ0_isLatin1_aae02_18 : decode cJ0_isLatin1_aae02 18 = .ok (.ireturn, 1) := by decide +kernel
theorem dJ0_checkIndex_df160_0 : decode cJ0_checkIndex_df160 0 = .ok (.iload_n 0, 1) := by decide +kernel
theorem dJ0_checkIndex_df160_1 : decode cJ0_checkIndex_df160 1 = .ok (.iload_n 1, 1) := by decide +kernel
theorem dJ0_checkIndex_df160_2 : decode cJ0_checkIndex_df160 2 = .ok (.getstatic 1053, 3) := by decide +kernel
theorem dJ0_checkIndex_df160_5 : decode cJ0_checkIndex_df160 5 = .ok (.invokestatic 1059, 3) := by decide +kernel
theorem dJ0_checkIndex_df160_8 : decode cJ0_checkIndex_df160 8 = .ok (.pop, 1) := by decide +kernel
theorem dJ0_checkIndex_df160_9 : decode cJ0_checkIndex_df160 9 = .ok (.return_, 1) := by decide +kernel
theorem dJ1_charAt_3b067_0 : decode cJ1_charAt_3b067 0 = .ok (.iload_n 1, 1) := by decide +kernel
theorem dJ1_charAt_3b067_1 : decode cJ1_charAt_3b067 1 = .ok (.aload_n 0, 1) := by decide +kernel
theorem dJ1_charAt_3b067_2 : decode cJ1_charAt_3b067 2 = .ok (.arraylength, 1) := by decide +kernel
theorem dJ1_charAt_3b067_3 : decode cJ1_charAt_3b067 3 = .ok (.invokestatic 9, 3) := by decide +kernel
theorem dJ1_charAt_3b067_6 : decode cJ1_charAt_3b067 6 = .ok (.aload_n 0, 1) := by decide +kernel
theorem dJ1_charAt_3b067_7 : decode cJ1_charAt_3b067 7 = .ok (.iload_n 1, 1) := by decide +kernel
theorem dJ1_charAt_3b067_8 : decode cJ1_charAt_3b067 8 = .ok (.baload, 1) := by decide +kernel
theorem dJ1_charAt_3b067_9 : decode cJ1_charAt_3b067 9 = .ok (.sipush 255, 3) := by decide +kernel
theorem dJ1_charAt_3b067_12 : decode cJ1_charAt_3b067 12 = .ok (.iand, 1) := by decide +kernel
theorem dJ1_charAt_3b067_13 : decode cJ1_charAt_3b067 13 = .ok (.i2c, 1) := by decide +kernel
theorem dJ1_charAt_3b067_14 : decode cJ1_charAt_3b067 14 = .ok (.ireturn, 1) := by decide +kernel
theorem dJ2_getChar_3b067_0 : decode cJ2_getChar_3b067 0 = .ok (.getstatic 44, 3) := by decide +kernel
theorem dJ2_getChar_3b067_3 : decode cJ2_getChar_3b067 3 = .ok (.ifCond .ne 25, 3) := by decide +kernel
theorem dJ2_getChar_3b067_6 : decode cJ2_getChar_3b067 6 = .ok (.iload_n 1, 1) := by decide +kernel
theorem dJ2_getChar_3b067_7 : decode cJ2_getChar_3b067 7 = .ok (.ifCond .lt 11, 3) := by decide +kernel
theorem dJ2_getChar_3b067_10 : decode cJ2_getChar_3b067 10 = .ok (.iload_n 1, 1) := by decide +kernel
theorem dJ2_getChar_3b067_11 : decode cJ2_getChar_3b067 11 = .ok (.aload_n 0, 1) := by decide +kernel
theorem dJ2_getChar_3b067_12 : decode cJ2_getChar_3b067 12 = .ok (.invokestatic 48, 3) := by decide +kernel
theorem dJ2_getChar_3b067_15 : decode cJ2_getChar_3b067 15 = .ok (.if_icmp .lt 13, 3) := by decide +kernel
theorem dJ2_getChar_3b067_18 : decode cJ2_getChar_3b067 18 = .ok (.new 52, 3) := by decide +kernel
theorem dJ2_getChar_3b067_21 : decode cJ2_getChar_3b067 21 = .ok (.dup, 1) := by decide +kernel
theorem dJ2_getChar_3b067_22 : decode cJ2_getChar_3b067 22 = .ok (.ldc 54, 2) := by decide +kernel
theorem dJ2_getChar_3b067_24 : decode cJ2_getChar_3b067 24 = .ok (.invokespecial 56, 3) := by decide +kernel
theorem dJ2_getChar_3b067_27 : decode cJ2_getChar_3b067 27 = .ok (.athrow, 1) := by decide +kernel
theorem dJ2_getChar_3b067_28 : decode cJ2_getChar_3b067 28 = .ok (.iload_n 1, 1) := by decide +kernel
theorem dJ2_getChar_3b067_29 : decode cJ2_getChar_3b067 29 = .ok (.iconst 1, 1) := by decide +kernel
theorem dJ2_getChar_3b067_30 : decode cJ2_getChar_3b067 30 = .ok (.ishl, 1) := by decide +kernel
theorem dJ2_getChar_3b067_31 : decode cJ2_getChar_3b067 31 = .ok (.istore_n 1, 1) := by decide +kernel
theorem dJ2_getChar_3b067_32 : decode cJ2_getChar_3b067 32 = .ok (.aload_n 0, 1) := by decide +kernel
theorem dJ2_getChar_3b067_33 : decode cJ2_getChar_3b067 33 = .ok (.iload_n 1, 1) := by decide +kernel
theorem dJ2_getChar_3b067_34 : decode cJ2_getChar_3b067 34 = .ok (.iinc 1 1, 3) := by decide +kernel
theorem dJ2_getChar_3b067_37 : decode cJ2_getChar_3b067 37 = .ok (.baload, 1) := by decide +kernel
theorem dJ2_getChar_3b067_38 : decode cJ2_getChar_3b067 38 = .ok (.sipush 255, 3) := by decide +kernel
theorem dJ2_getChar_3b067_41 : decode cJ2_getChar_3b067 41 = .ok (.iand, 1) := by decide +kernel
theorem dJ2_getChar_3b067_42 : decode cJ2_getChar_3b067 42 = .ok (.getstatic 59, 3) := by decide +kernel
theorem dJ2_getChar_3b067_45 : decode cJ2_getChar_3b067 45 = .ok (.ishl, 1) := by decide +kernel
theorem dJ2_getChar_3b067_46 : decode cJ2_getChar_3b067 46 = .ok (.aload_n 0, 1) := by decide +kernel
theorem dJ2_getChar_3b067_47 : decode cJ2_getChar_3b067 47 = .ok (.iload_n 1, 1) := by decide +kernel
theorem dJ2_getChar_3b067_48 : decode cJ2_getChar_3b067 48 = .ok (.baload, 1) := by decide +kernel
theorem dJ2_getChar_3b067_49 : decode cJ2_getChar_3b067 49 = .ok (.sipush 255, 3) := by decide +kernel
theorem dJ2_getChar_3b067_52 : decode cJ2_getChar_3b067 52 = .ok (.iand, 1) := by decide +kernel
theorem dJ2_getChar_3b067_53 : decode cJ2_getChar_3b067 53 = .ok (.getstatic 63, 3) := by decide +kernel
theorem dJ2_getChar_3b067_56 : decode cJ2_getChar_3b067 56 = .ok (.ishl, 1) := by decide +kernel
theorem dJ2_getChar_3b067_57 : decode cJ2_getChar_3b067 57 = .ok (.ior, 1) := by decide +kernel
theorem dJ2_getChar_3b067_58 : decode cJ2_getChar_3b067 58 = .ok (.i2c, 1) := by decide +kernel
theorem dJ2_getChar_3b067_59 : decode cJ2_getChar_3b067 59 = .ok (.ireturn, 1) := by decide +kernel
theorem dJ2_length_9d52b_0 : decode cJ2_length_9d52b 0 = .ok (.aload_n 0, 1) := by decide +kernel
theorem dJ2_length_9d52b_1 : decode cJ2_length_9d52b 1 = .ok (.arraylength, 1) := by decide +kernel
theorem dJ2_length_9d52b_2 : decode cJ2_length_9d52b 2 = .ok (.iconst 1, 1) := by decide +kernel
theorem dJ2_length_9d52b_3 : decode cJ2_length_9d52b 3 = .ok (.ishr, 1) := by decide +kernel
theorem dJ2_length_9d52b_4 : decode cJ2_length_9d52b 4 = .ok (.ireturn, 1) := by decide +kernel
theorem dJ2_charAt_3b067_0 : decode cJ2_charAt_3b067 0 = .ok (.iload_n 1, 1) := by decide +kernel
theorem dJ2_charAt_3b067_1 : decode cJ2_charAt_3b067 1 = .ok (.aload_n 0, 1) := by decide +kernel
theorem dJ2_charAt_3b067_2 : decode cJ2_charAt_3b067 2 = .ok (.invokestatic 67, 3) := by decide +kernel
theorem dJ2_charAt_3b067_5 : decode cJ2_charAt_3b067 5 = .ok (.aload_n 0, 1) := by decide +kernel
theorem dJ2_charAt_3b067_6 : decode cJ2_charAt_3b067 6 = .ok (.iload_n 1, 1) := by decide +kernel
theorem dJ2_charAt_3b067_7 : decode cJ2_charAt_3b067 7 = .ok (.invokestatic 71, 3) := by decide +kernel
theorem dJ2_charAt_3b067_10 : decode cJ2_charAt_3b067 10 = .ok (.ireturn, 1) := by decide +kernel
theorem dJ2_checkIndex_2214a_0 : decode cJ2_checkIndex_2214a 0 = .ok (.iload_n 0, 1) := by decide +kernel
theorem dJ2_checkIndex_2214a_1 : decode cJ2_checkIndex_2214a 1 = .ok (.aload_n 1, 1) := by decide +kernel
theorem dJ2_checkIndex_2214a_2 : decode cJ2_checkIndex_2214a 2 = .ok (.invokestatic 48, 3) := by decide +kernel
theorem dJ2_checkIndex_2214a_5 : decode cJ2_checkIndex_2214a 5 = .ok (.invokestatic 414, 3) := by decide +kernel
theorem dJ2_checkIndex_2214a_8 : decode cJ2_checkIndex_2214a 8 = .ok (.return_, 1) := by decide +kernel
theorem dJ7_fill_53178_0 : decode cJ7_fill_53178 0 = .ok (.iconst 0, 1) := by decide +kernel
theorem dJ7_fill_53178_1 : decode cJ7_fill_53178 1 = .ok (.istore_n 2, 1) := by decide +kernel
theorem dJ7_fill_53178_2 : decode cJ7_fill_53178 2 = .ok (.aload_n 0, 1) := by decide +kernel
theorem dJ7_fill_53178_3 : decode cJ7_fill_53178 3 = .ok (.arraylength, 1) := by decide +kernel
theorem dJ7_fill_53178_4 : decode cJ7_fill_53178 4 = .ok (.istore_n 3, 1) := by decide +kernel
theorem dJ7_fill_53178_5 : decode cJ7_fill_53178 5 = .ok (.iload_n 2, 1) := by decide +kernel
theorem dJ7_fill_53178_6 : decode cJ7_fill_53178 6 = .ok (.iload_n 3, 1) := by decide +kernel
theorem dJ7_fill_53178_7 : decode cJ7_fill_53178 7 = .ok (.if_icmp .ge 13, 3) := by decide +kernel
theorem dJ7_fill_53178_10 : decode cJ7_fill_53178 10 = .ok (.aload_n 0, 1) := by decide +kernel
theorem dJ7_fill_53178_11 : decode cJ7_fill_53178 11 = .ok (.iload_n 2, 1) := by decide +kernel
theorem dJ7_fill_53178_12 : decode cJ7_fill_53178 12 = .ok (.iload_n 1, 1) := by decide +kernel
theorem dJ7_fill_53178_13 : decode cJ7_fill_53178 13 = .ok (.iastore, 1) := by decide +kernel
theorem dJ7_fill_53178_14 : decode cJ7_fill_53178 14 = .ok (.iinc 2 1, 3) := by decide +kernel
theorem dJ7_fill_53178_17 : decode cJ7_fill_53178 17 = .ok (.goto (-12), 3) := by decide +kernel
theorem dJ7_fill_53178_20 : decode cJ7_fill_53178 20 = .ok (.return_, 1) := by decide +kernel
theorem dJ3_checkIndex_8e157_0 : decode cJ3_checkIndex_8e157 0 = .ok (.iload_n 0, 1) := by decide +kernel
theorem dJ3_checkIndex_8e157_1 : decode cJ3_checkIndex_8e157 1 = .ok (.ifCond .lt 8, 3) := by decide +kernel
theorem dJ3_checkIndex_8e157_4 : decode cJ3_checkIndex_8e157 4 = .ok (.iload_n 0, 1) := by decide +kernel
theorem dJ3_checkIndex_8e157_5 : decode cJ3_checkIndex_8e157 5 = .ok (.iload_n 1, 1) := by decide +kernel
theorem dJ3_checkIndex_8e157_6 : decode cJ3_checkIndex_8e157 6 = .ok (.if_icmp .lt 10, 3) := by decide +kernel
theorem dJ3_checkIndex_8e157_9 : decode cJ3_checkIndex_8e157 9 = .ok (.aload_n 2, 1) := by decide +kernel
theorem dJ3_checkIndex_8e157_10 : decode cJ3_checkIndex_8e157 10 = .ok (.iload_n 0, 1) := by decide +kernel
theorem dJ3_checkIndex_8e157_11 : decode cJ3_checkIndex_8e157 11 = .ok (.iload_n 1, 1) := by decide +kernel
theorem dJ3_checkIndex_8e157_12 : decode cJ3_checkIndex_8e157 12 = .ok (.invokestatic 95, 3) := by decide +kernel
theorem dJ3_checkIndex_8e157_15 : decode cJ3_checkIndex_8e157 15 = .ok (.athrow, 1) := by decide +kernel
theorem dJ3_checkIndex_8e157_16 : decode cJ3_checkIndex_8e157 16 = .ok (.iload_n 0, 1) := by decide +kernel
theorem dJ3_checkIndex_8e157_17 : decode cJ3_checkIndex_8e157 17 = .ok (.ireturn, 1) := by decide +kernel
theorem dL_law_0 : decode cL_law 0 = .ok (.new 7, 3) := by decide +kernel
theorem dL_law_3 : decode cL_law 3 = .ok (.dup, 1) := by decide +kernel
theorem dL_law_4 : decode cL_law 4 = .ok (.invokespecial 9, 3) := by decide +kernel
theorem dL_law_7 : decode cL_law 7 = .ok (.astore_n 1, 1) := by decide +kernel
theorem dL_law_8 : decode cL_law 8 = .ok (.new 10, 3) := by decide +kernel
theorem dL_law_11 : decode cL_law 11 = .ok (.dup, 1) := by decide +kernel
theorem dL_law_12 : decode cL_law 12 = .ok (.invokespecial 12, 3) := by decide +kernel
theorem dL_law_15 : decode cL_law 15 = .ok (.astore_n 2, 1) := by decide +kernel
theorem dL_law_16 : decode cL_law 16 = .ok (.iconst 0, 1) := by decide +kernel
theorem dL_law_17 : decode cL_law 17 = .ok (.istore_n 3, 1) := by decide +kernel
theorem dL_law_18 : decode cL_law 18 = .ok (.iload_n 3, 1) := by decide +kernel
theorem dL_law_19 : decode cL_law 19 = .ok (.aload_n 0, 1) := by decide +kernel
theorem dL_law_20 : decode cL_law 20 = .ok (.arraylength, 1) := by decide +kernel
theorem dL_law_21 : decode cL_law 21 = .ok (.bipush 6, 2) := by decide +kernel
theorem dL_law_23 : decode cL_law 23 = .ok (.isub, 1) := by decide +kernel
theorem dL_law_24 : decode cL_law 24 = .ok (.if_icmp .gt 1347, 3) := by decide +kernel
theorem dL_law_27 : decode cL_law 27 = .ok (.aload_n 0, 1) := by decide +kernel
theorem dL_law_28 : decode cL_law 28 = .ok (.iload_n 3, 1) := by decide +kernel
theorem dL_law_29 : decode cL_law 29 = .ok (.iaload, 1) := by decide +kernel
theorem dL_law_30 : decode cL_law 30 = .ok (.bipush 63, 2) := by decide +kernel
theorem dL_law_32 : decode cL_law 32 = .ok (.iand, 1) := by decide +kernel
theorem dL_law_33 : decode cL_law 33 = .ok (.tableswitch 1332 0 34 #[155, 198, 251, 294, 353, 386, 429, 462, 485, 498, 551, 614, 647, 680, 743, 766, 789, 812, 865, 898, 931, 964, 987, 1010, 1059, 1092, 1115, 1138, 1161, 1184, 1207, 1230, 1263, 1286, 1309], 155) := by decide +kernel
theorem dL_law_188 : decode cL_law 188 = .ok (.aload_n 1, 1) := by decide +kernel
theorem dL_law_189 : decode cL_law 189 = .ok (.aload_n 0, 1) := by decide +kernel
theorem dL_law_190 : decode cL_law 190 = .ok (.iload_n 3, 1) := by decide +kernel
theorem dL_law_191 : decode cL_law 191 = .ok (.iconst 1, 1) := by decide +kernel
theorem dL_law_192 : decode cL_law 192 = .ok (.iadd, 1) := by decide +kernel
theorem dL_law_193 : decode cL_law 193 = .ok (.iaload, 1) := by decide +kernel
theorem dL_law_194 : decode cL_law 194 = .ok (.aload_n 0, 1) := by decide +kernel
theorem dL_law_195 : decode cL_law 195 = .ok (.iload_n 3, 1) := by decide +kernel
theorem dL_law_196 : decode cL_law 196 = .ok (.iconst 2, 1) := by decide +kernel
theorem dL_law_197 : decode cL_law 197 = .ok (.iadd, 1) := by decide +kernel
theorem dL_law_198 : decode cL_law 198 = .ok (.iaload, 1) := by decide +kernel
theorem dL_law_199 : decode cL_law 199 = .ok (.aload_n 0, 1) := by decide +kernel
theorem dL_law_200 : decode cL_law 200 = .ok (.iload_n 3, 1) := by decide +kernel
theorem dL_law_201 : decode cL_law 201 = .ok (.iconst 3, 1) := by decide +kernel
theorem dL_law_202 : decode cL_law 202 = .ok (.iadd, 1) := by decide +kernel
theorem dL_law_203 : decode cL_law 203 = .ok (.iaload, 1) := by decide +kernel
theorem dL_law_204 : decode cL_law 204 = .ok (.invokevirtual 13, 3) := by decide +kernel
theorem dL_law_207 : decode cL_law 207 = .ok (.aload_n 2, 1) := by decide +kernel
theorem dL_law_208 : decode cL_law 208 = .ok (.aload_n 0, 1) := by decide +kernel
theorem dL_law_209 : decode cL_law 209 = .ok (.iload_n 3, 1) := by decide +kernel
theorem dL_law_210 : decode cL_law 210 = .ok (.iconst 1, 1) := by decide +kernel
theorem dL_law_211 : decode cL_law 211 = .ok (.iadd, 1) := by decide +kernel
theorem dL_law_212 : decode cL_law 212 = .ok (.iaload, 1) := by decide +kernel
theorem dL_law_213 : decode cL_law 213 = .ok (.aload_n 0, 1) := by decide +kernel
theorem dL_law_214 : decode cL_law 214 = .ok (.iload_n 3, 1) := by decide +kernel
theorem dL_law_215 : decode cL_law 215 = .ok (.iconst 2, 1) := by decide +kernel
theorem dL_law_216 : decode cL_law 216 = .ok (.iadd, 1) := by decide +kernel
theorem dL_law_217 : decode cL_law 217 = .ok (.iaload, 1) := by decide +kernel
theorem dL_law_218 : decode cL_law 218 = .ok (.aload_n 0, 1) := by decide +kernel
theorem dL_law_219 : decode cL_law 219 = .ok (.iload_n 3, 1) := by decide +kernel
theorem dL_law_220 : decode cL_law 220 = .ok (.iconst 3, 1) := by decide +kernel
theorem dL_law_221 : decode cL_law 221 = .ok (.iadd, 1) := by decide +kernel
theorem dL_law_222 : decode cL_law 222 = .ok (.iaload, 1) := by decide +kernel
theorem dL_law_223 : decode cL_law 223 = .ok (.invokevirtual 17, 3) := by decide +kernel
theorem dL_law_226 : decode cL_law 226 = .ok (.if_icmp .eq 1139, 3) := by decide +kernel
theorem dL_law_229 : decode cL_law 229 = .ok (.iconst 0, 1) := by decide +kernel
theorem dL_law_230 : decode cL_law 230 = .ok (.ireturn, 1) := by decide +kernel
theorem dL_law_231 : decode cL_law 231 = .ok (.aload_n 1, 1) := by decide +kernel
theorem dL_law_232 : decode cL_law 232 = .ok (.aload_n 0, 1) := by decide +kernel
theorem dL_law_233 : decode cL_law 233 = .ok (.iload_n 3, 1) := by decide +kernel
theorem dL_law_234 : decode cL_law 234 = .ok (.iconst 1, 1) := by decide +kernel
theorem dL_law_235 : decode cL_law 235 = .ok (.iadd, 1) := by decide +kernel
theorem dL_law_236 : decode cL_law 236 = .ok (.iaload, 1) := by decide +kernel
theorem dL_law_237 : decode cL_law 237 = .ok (.aload_n 0, 1) := by decide +kernel
theorem dL_law_238 : decode cL_law 238 = .ok (.iload_n 3, 1) := by decide +kernel
theorem dL_law_239 : decode cL_law 239 = .ok (.iconst 2, 1) := by decide +kernel
theorem dL_law_240 : decode cL_law 240 = .ok (.iadd, 1) := by decide +kernel
theorem dL_law_241 : decode cL_law 241 = .ok (.iaload, 1) := by decide +kernel
theorem dL_law_242 : decode cL_law 242 = .ok (.aload_n 0, 1) := by decide +kernel
theorem dL_law_243 : decode cL_law 243 = .ok (.iload_n 3, 1) := by decide +kernel
theorem dL_law_244 : decode cL_law 244 = .ok (.iconst 3, 1) := by decide +kernel
theorem dL_law_245 : decode cL_law 245 = .ok (.iadd, 1) := by decide +kernel
theorem dL_law_246 : decode cL_law 246 = .ok (.iaload, 1) := by decide +kernel
theorem dL_law_247 : decode cL_law 247 = .ok (.aload_n 0, 1) := by decide +kernel
theorem dL_law_248 : decode cL_law 248 = .ok (.iload_n 3, 1) := by decide +kernel
theorem dL_law_249 : decode cL_law 249 = .ok (.iconst 4, 1) := by decide +kernel
theorem dL_law_250 : decode cL_law 250 = .ok (.iadd, 1) := by decide +kernel
theorem dL_law_251 : decode cL_law 251 = .ok (.iaload, 1) := by decide +kernel
theorem dL_law_252 : decode cL_law 252 = .ok (.invokevirtual 18, 3) := by decide +kernel
theorem dL_law_255 : decode cL_law 255 = .ok (.aload_n 2, 1) := by decide +kernel
theorem dL_law_256 : decode cL_law 256 = .ok (.aload_n 0, 1) := by decide +kernel
theorem dL_law_257 : decode cL_law 257 = .ok (.iload_n 3, 1) := by decide +kernel
theorem dL_law_258 : decode cL_law 258 = .ok (.iconst 1, 1) := by decide +kernel
theorem dL_law_259 : decode cL_law 259 = .ok (.iadd, 1) := by decide +kernel
theorem dL_law_260 : decode cL_law 260 = .ok (.iaload, 1) := by decide +kernel
theorem dL_law_261 : decode cL_law 261 = .ok (.aload_n 0, 1) := by decide +kernel
theorem dL_law_262 : decode cL_law 262 = .ok (.iload_n 3, 1) := by decide +kernel
theorem dL_law_263 : decode cL_law 263 = .ok (.iconst 2, 1) := by decide +kernel
theorem dL_law_264 : decode cL_law 264 = .ok (.iadd, 1) := by decide +kernel
theorem dL_law_265 : decode cL_law 265 = .ok (.iaload, 1) := by decide +kernel
theorem dL_law_266 : decode cL_law 266 = .ok (.aload_n 0, 1) := by decide +kernel
theorem dL_law_267 : decode cL_law 267 = .ok (.iload_n 3, 1) := by decide +kernel
theorem dL_law_268 : decode cL_law 268 = .ok (.iconst 3, 1) := by decide +kernel
theorem dL_law_269 : decode cL_law 269 = .ok (.iadd, 1) := by decide +kernel
theorem dL_law_270 : decode cL_law 270 = .ok (.iaload, 1) := by decide +kernel
theorem dL_law_271 : decode cL_law 271 = .ok (.aload_n 0, 1) := by decide +kernel
theorem dL_law_272 : decode cL_law 272 = .ok (.iload_n 3, 1) := by decide +kernel
theorem dL_law_273 : decode cL_law 273 = .ok (.iconst 4, 1) := by decide +kernel
theorem dL_law_274 : decode cL_law 274 = .ok (.iadd, 1) := by decide +kernel
theorem dL_law_275 : decode cL_law 275 = .ok (.iaload, 1) := by decide +kernel
theorem dL_law_276 : decode cL_law 276 = .ok (.invokevirtual 22, 3) := by decide +kernel
theorem dL_law_279 : decode cL_law 279 = .ok (.if_icmp .eq 1086, 3) := by decide +kernel
theorem dL_law_282 : decode cL_law 282 = .ok (.iconst 0, 1) := by decide +kernel
theorem dL_law_283 : decode cL_law 283 = .ok (.ireturn, 1) := by decide +kernel
theorem dL_law_284 : decode cL_law 284 = .ok (.aload_n 1, 1) := by decide +kernel
theorem dL_law_285 : decode cL_law 285 = .ok (.aload_n 0, 1) := by decide +kernel
theorem dL_law_286 : decode cL_law 286 = .ok (.iload_n 3, 1) := by decide +kernel
theorem dL_law_287 : decode cL_law 287 = .ok (.iconst 1, 1) := by decide +kernel
theorem dL_law_288 : decode cL_law 288 = .ok (.iadd, 1) := by decide +kernel
theorem dL_law_289 : decode cL_law 289 = .ok (.iaload, 1) := by decide +kernel
theorem dL_law_290 : decode cL_law 290 = .ok (.aload_n 0, 1) := by decide +kernel
theorem dL_law_291 : decode cL_law 291 = .ok (.iload_n 3, 1) := by decide +kernel
theorem dL_law_292 : decode cL_law 292 = .ok (.iconst 2, 1) := by decide +kernel
theorem dL_law_293 : decode cL_law 293 = .ok (.iadd, 1) := by decide +kernel
theorem dL_law_294 : decode cL_law 294 = .ok (.iaload, 1) := by decide +kernel
theorem dL_law_295 : decode cL_law 295 = .ok (.aload_n 0, 1) := by decide +kernel
theorem dL_law_296 : decode cL_law 296 = .ok (.iload_n 3, 1) := by decide +kernel
theorem dL_law_297 : decode cL_law 297 = .ok (.iconst 3, 1) := by decide +kernel
theorem dL_law_298 : decode cL_law 298 = .ok (.iadd, 1) := by decide +kernel
theorem dL_law_299 : decode cL_law 299 = .ok (.iaload, 1) := by decide +kernel
theorem dL_law_300 : decode cL_law 300 = .ok (.invokevirtual 23, 3) := by decide +kernel
theorem dL_law_303 : decode cL_law 303 = .ok (.aload_n 2, 1) := by decide +kernel
theorem dL_law_304 : decode cL_law 304 = .ok (.aload_n 0, 1) := by decide +kernel
theorem dL_law_305 : decode cL_law 305 = .ok (.iload_n 3, 1) := by decide +kernel
theorem dL_law_306 : decode cL_law 306 = .ok (.iconst 1, 1) := by decide +kernel
theorem dL_law_307 : decode cL_law 307 = .ok (.iadd, 1) := by decide +kernel
theorem dL_law_308 : decode cL_law 308 = .ok (.iaload, 1) := by decide +kernel
theorem dL_law_309 : decode cL_law 309 = .ok (.aload_n 0, 1) := by decide +kernel
theorem dL_law_310 : decode cL_law 310 = .ok (.iload_n 3, 1) := by decide +kernel
theorem dL_law_311 : decode cL_law 311 = .ok (.iconst 2, 1) := by decide +kernel
theorem dL_law_312 : decode cL_law 312 = .ok (.iadd, 1) := by decide +kernel
theorem dL_law_313 : decode cL_law 313 = .ok (.iaload, 1) := by decide +kernel
theorem dL_law_314 : decode cL_law 314 = .ok (.aload_n 0, 1) := by decide +kernel
theorem dL_law_315 : decode cL_law 315 = .ok (.iload_n 3, 1) := by decide +kernel
theorem dL_law_316 : decode cL_law 316 = .ok (.iconst 3, 1) := by decide +kernel
theorem dL_law_317 : decode cL_law 317 = .ok (.iadd, 1) := by decide +kernel
theorem dL_law_318 : decode cL_law 318 = .ok (.iaload, 1) := by decide +kernel
theorem dL_law_319 : decode cL_law 319 = .ok (.invokevirtual 27, 3) := by decide +kernel
theorem dL_law_322 : decode cL_law 322 = .ok (.if_icmp .eq 1043, 3) := by decide +kernel
theorem dL_law_325 : decode cL_law 325 = .ok (.iconst 0, 1) := by decide +kernel
theorem dL_law_326 : decode cL_law 326 = .ok (.ireturn, 1) := by decide +kernel
theorem dL_law_327 : decode cL_law 327 = .ok (.aload_n 1, 1) := by decide +kernel
theorem dL_law_328 : decode cL_law 328 = .ok (.aload_n 0, 1) := by decide +kernel
theorem dL_law_329 : decode cL_law 329 = .ok (.iload_n 3, 1) := by decide +kernel
theorem dL_law_330 : decode cL_law 330 = .ok (.iconst 1, 1) := by decide +kernel
theorem dL_law_331 : decode cL_law 331 = .ok (.iadd, 1) := by decide +kernel
theorem dL_law_332 : decode cL_law 332 = .ok (.iaload, 1) := by decide +kernel
theorem dL_law_333 : decode cL_law 333 = .ok (.aload_n 0, 1) := by decide +kernel
theorem dL_law_334 : decode cL_law 334 = .ok (.iload_n 3, 1) := by decide +kernel
theorem dL_law_335 : decode cL_law 335 = .ok (.iconst 2, 1) := by decide +kernel
theorem dL_law_336 : decode cL_law 336 = .ok (.iadd, 1) := by decide +kernel
theorem dL_law_337 : decode cL_law 337 = .ok (.iaload, 1) := by decide +kernel
theorem dL_law_338 : decode cL_law 338 = .ok (.aload_n 0, 1) := by decide +kernel
theorem dL_law_339 : decode cL_law 339 = .ok (.iload_n 3, 1) := by decide +kernel
theorem dL_law_340 : decode cL_law 340 = .ok (.iconst 3, 1) := by decide +kernel
theorem dL_law_341 : decode cL_law 341 = .ok (.iadd, 1) := by decide +kernel
theorem dL_law_342 : decode cL_law 342 = .ok (.iaload, 1) := by decide +kernel
theorem dL_law_343 : decode cL_law 343 = .ok (.ifCond .eq 7, 3) := by decide +kernel
theorem dL_law_346 : decode cL_law 346 = .ok (.iconst 1, 1) := by decide +kernel
theorem dL_law_347 : decode cL_law 347 = .ok (.goto 4, 3) := by decide +kernel
theorem dL_law_350 : decode cL_law 350 = .ok (.iconst 0, 1) := by decide +kernel
theorem dL_law_351 : decode cL_law 351 = .ok (.invokevirtual 28, 3) := by decide +kernel
theorem dL_law_354 : decode cL_law 354 = .ok (.aload_n 2, 1) := by decide +kernel
theorem dL_law_355 : decode cL_law 355 = .ok (.aload_n 0, 1) := by decide +kernel
theorem dL_law_356 : decode cL_law 356 = .ok (.iload_n 3, 1) := by decide +kernel
theorem dL_law_357 : decode cL_law 357 = .ok (.iconst 1, 1) := by decide +kernel
theorem dL_law_358 : decode cL_law 358 = .ok (.iadd, 1) := by decide +kernel
theorem dL_law_359 : decode cL_law 359 = .ok (.iaload, 1) := by decide +kernel
theorem dL_law_360 : decode cL_law 360 = .ok (.aload_n 0, 1) := by decide +kernel
theorem dL_law_361 : decode cL_law 361 = .ok (.iload_n 3, 1) := by decide +kernel
theorem dL_law_362 : decode cL_law 362 = .ok (.iconst 2, 1) := by decide +kernel
theorem dL_law_363 : decode cL_law 363 = .ok (.iadd, 1) := by decide +kernel
theorem dL_law_364 : decode cL_law 364 = .ok (.iaload, 1) := by decide +kernel
theorem dL_law_365 : decode cL_law 365 = .ok (.aload_n 0, 1) := by decide +kernel
theorem dL_law_366 : decode cL_law 366 = .ok (.iload_n 3, 1) := by decide +kernel
theorem dL_law_367 : decode cL_law 367 = .ok (.iconst 3, 1) := by decide +kernel
theorem dL_law_368 : decode cL_law 368 = .ok (.iadd, 1) := by decide +kernel
theorem dL_law_369 : decode cL_law 369 = .ok (.iaload, 1) := by decide +kernel
theorem dL_law_370 : decode cL_law 370 = .ok (.ifCond .eq 7, 3) := by decide +kernel
theorem dL_law_373 : decode cL_law 373 = .ok (.iconst 1, 1) := by decide +kernel
theorem dL_law_374 : decode cL_law 374 = .ok (.goto 4, 3) := by decide +kernel
theorem dL_law_377 : decode cL_law 377 = .ok (.iconst 0, 1) := by decide +kernel
theorem dL_law_378 : decode cL_law 378 = .ok (.invokevirtual 32, 3) := by decide +kernel
theorem dL_law_381 : decode cL_law 381 = .ok (.if_icmp .eq 984, 3) := by decide +kernel
theorem dL_law_384 : decode cL_law 384 = .ok (.iconst 0, 1) := by decide +kernel
theorem dL_law_385 : decode cL_law 385 = .ok (.ireturn, 1) := by decide +kernel
theorem dL_law_386 : decode cL_law 386 = .ok (.aload_n 1, 1) := by decide +kernel
theorem dL_law_387 : decode cL_law 387 = .ok (.aload_n 0, 1) := by decide +kernel
theorem dL_law_388 : decode cL_law 388 = .ok (.iload_n 3, 1) := by decide +kernel
theorem dL_law_389 : decode cL_law 389 = .ok (.iconst 1, 1) := by decide +kernel
theorem dL_law_390 : decode cL_law 390 = .ok (.iadd, 1) := by decide +kernel
theorem dL_law_391 : decode cL_law 391 = .ok (.iaload, 1) := by decide +kernel
theorem dL_law_392 : decode cL_law 392 = .ok (.aload_n 0, 1) := by decide +kernel
theorem dL_law_393 : decode cL_law 393 = .ok (.iload_n 3, 1) := by decide +kernel
theorem dL_law_394 : decode cL_law 394 = .ok (.iconst 2, 1) := by decide +kernel
theorem dL_law_395 : decode cL_law 395 = .ok (.iadd, 1) := by decide +kernel
theorem dL_law_396 : decode cL_law 396 = .ok (.iaload, 1) := by decide +kernel
theorem dL_law_397 : decode cL_law 397 = .ok (.invokevirtual 33, 3) := by decide +kernel
theorem dL_law_400 : decode cL_law 400 = .ok (.aload_n 2, 1) := by decide +kernel
theorem dL_law_401 : decode cL_law 401 = .ok (.aload_n 0, 1) := by decide +kernel
theorem dL_law_402 : decode cL_law 402 = .ok (.iload_n 3, 1) := by decide +kernel
theorem dL_law_403 : decode cL_law 403 = .ok (.iconst 1, 1) := by decide +kernel
theorem dL_law_404 : decode cL_law 404 = .ok (.iadd, 1) := by decide +kernel
theorem dL_law_405 : decode cL_law 405 = .ok (.iaload, 1) := by decide +kernel
theorem dL_law_406 : decode cL_law 406 = .ok (.aload_n 0, 1) := by decide +kernel
theorem dL_law_407 : decode cL_law 407 = .ok (.iload_n 3, 1) := by decide +kernel
theorem dL_law_408 : decode cL_law 408 = .ok (.iconst 2, 1) := by decide +kernel
theorem dL_law_409 : decode cL_law 409 = .ok (.iadd, 1) := by decide +kernel
theorem dL_law_410 : decode cL_law 410 = .ok (.iaload, 1) := by decide +kernel
theorem dL_law_411 : decode cL_law 411 = .ok (.invokevirtual 37, 3) := by decide +kernel
theorem dL_law_414 : decode cL_law 414 = .ok (.if_icmp .eq 951, 3) := by decide +kernel
theorem dL_law_417 : decode cL_law 417 = .ok (.iconst 0, 1) := by decide +kernel
theorem dL_law_418 : decode cL_law 418 = .ok (.ireturn, 1) := by decide +kernel
theorem dL_law_419 : decode cL_law 419 = .ok (.aload_n 1, 1) := by decide +kernel
theorem dL_law_420 : decode cL_law 420 = .ok (.aload_n 0, 1) := by decide +kernel
theorem dL_law_421 : decode cL_law 421 = .ok (.iload_n 3, 1) := by decide +kernel
theorem dL_law_422 : decode cL_law 422 = .ok (.iconst 1, 1) := by decide +kernel
theorem dL_law_423 : decode cL_law 423 = .ok (.iadd, 1) := by decide +kernel
theorem dL_law_424 : decode cL_law 424 = .ok (.iaload, 1) := by decide +kernel
theorem dL_law_425 : decode cL_law 425 = .ok (.aload_n 0, 1) := by decide +kernel
theorem dL_law_426 : decode cL_law 426 = .ok (.iload_n 3, 1) := by decide +kernel
theorem dL_law_427 : decode cL_law 427 = .ok (.iconst 2, 1) := by decide +kernel
theorem dL_law_428 : decode cL_law 428 = .ok (.iadd, 1) := by decide +kernel
theorem dL_law_429 : decode cL_law 429 = .ok (.iaload, 1) := by decide +kernel
theorem dL_law_430 : decode cL_law 430 = .ok (.aload_n 0, 1) := by decide +kernel
theorem dL_law_431 : decode cL_law 431 = .ok (.iload_n 3, 1) := by decide +kernel
theorem dL_law_432 : decode cL_law 432 = .ok (.iconst 3, 1) := by decide +kernel
theorem dL_law_433 : decode cL_law 433 = .ok (.iadd, 1) := by decide +kernel
theorem dL_law_434 : decode cL_law 434 = .ok (.iaload, 1) := by decide +kernel
theorem dL_law_435 : decode cL_law 435 = .ok (.invokevirtual 38, 3) := by decide +kernel
theorem dL_law_438 : decode cL_law 438 = .ok (.aload_n 2, 1) := by decide +kernel
theorem dL_law_439 : decode cL_law 439 = .ok (.aload_n 0, 1) := by decide +kernel
theorem dL_law_440 : decode cL_law 440 = .ok (.iload_n 3, 1) := by decide +kernel
theorem dL_law_441 : decode cL_law 441 = .ok (.iconst 1, 1) := by decide +kernel
theorem dL_law_442 : decode cL_law 442 = .ok (.iadd, 1) := by decide +kernel
theorem dL_law_443 : decode cL_law 443 = .ok (.iaload, 1) := by decide +kernel
theorem dL_law_444 : decode cL_law 444 = .ok (.aload_n 0, 1) := by decide +kernel
theorem dL_law_445 : decode cL_law 445 = .ok (.iload_n 3, 1) := by decide +kernel
theorem dL_law_446 : decode cL_law 446 = .ok (.iconst 2, 1) := by decide +kernel
theorem dL_law_447 : decode cL_law 447 = .ok (.iadd, 1) := by decide +kernel
theorem dL_law_448 : decode cL_law 448 = .ok (.iaload, 1) := by decide +kernel
theorem dL_law_449 : decode cL_law 449 = .ok (.aload_n 0, 1) := by decide +kernel
theorem dL_law_450 : decode cL_law 450 = .ok (.iload_n 3, 1) := by decide +kernel
theorem dL_law_451 : decode cL_law 451 = .ok (.iconst 3, 1) := by decide +kernel
theorem dL_law_452 : decode cL_law 452 = .ok (.iadd, 1) := by decide +kernel
theorem dL_law_453 : decode cL_law 453 = .ok (.iaload, 1) := by decide +kernel
theorem dL_law_454 : decode cL_law 454 = .ok (.invokevirtual 41, 3) := by decide +kernel
theorem dL_law_457 : decode cL_law 457 = .ok (.if_icmp .eq 908, 3) := by decide +kernel
theorem dL_law_460 : decode cL_law 460 = .ok (.iconst 0, 1) := by decide +kernel
theorem dL_law_461 : decode cL_law 461 = .ok (.ireturn, 1) := by decide +kernel
theorem dL_law_462 : decode cL_law 462 = .ok (.aload_n 1, 1) := by decide +kernel
theorem dL_law_463 : decode cL_law 463 = .ok (.aload_n 0, 1) := by decide +kernel
theorem dL_law_464 : decode cL_law 464 = .ok (.iload_n 3, 1) := by decide +kernel
theorem dL_law_465 : decode cL_law 465 = .ok (.iconst 1, 1) := by decide +kernel
theorem dL_law_466 : decode cL_law 466 = .ok (.iadd, 1) := by decide +kernel
theorem dL_law_467 : decode cL_law 467 = .ok (.iaload, 1) := by decide +kernel
theorem dL_law_468 : decode cL_law 468 = .ok (.aload_n 0, 1) := by decide +kernel
theorem dL_law_469 : decode cL_law 469 = .ok (.iload_n 3, 1) := by decide +kernel
theorem dL_law_470 : decode cL_law 470 = .ok (.iconst 2, 1) := by decide +kernel
theorem dL_law_471 : decode cL_law 471 = .ok (.iadd, 1) := by decide +kernel
theorem dL_law_472 : decode cL_law 472 = .ok (.iaload, 1) := by decide +kernel
theorem dL_law_473 : decode cL_law 473 = .ok (.invokevirtual 42, 3) := by decide +kernel
theorem dL_law_476 : decode cL_law 476 = .ok (.aload_n 2, 1) := by decide +kernel
theorem dL_law_477 : decode cL_law 477 = .ok (.aload_n 0, 1) := by decide +kernel
theorem dL_law_478 : decode cL_law 478 = .ok (.iload_n 3, 1) := by decide +kernel
theorem dL_law_479 : decode cL_law 479 = .ok (.iconst 1, 1) := by decide +kernel
theorem dL_law_480 : decode cL_law 480 = .ok (.iadd, 1) := by decide +kernel
theorem dL_law_481 : decode cL_law 481 = .ok (.iaload, 1) := by decide +kernel
theorem dL_law_482 : decode cL_law 482 = .ok (.aload_n 0, 1) := by decide +kernel
theorem dL_law_483 : decode cL_law 483 = .ok (.iload_n 3, 1) := by decide +kernel
theorem dL_law_484 : decode cL_law 484 = .ok (.iconst 2, 1) := by decide +kernel
theorem dL_law_485 : decode cL_law 485 = .ok (.iadd, 1) := by decide +kernel
theorem dL_law_486 : decode cL_law 486 = .ok (.iaload, 1) := by decide +kernel
theorem dL_law_487 : decode cL_law 487 = .ok (.invokevirtual 45, 3) := by decide +kernel
theorem dL_law_490 : decode cL_law 490 = .ok (.if_icmp .eq 875, 3) := by decide +kernel
theorem dL_law_493 : decode cL_law 493 = .ok (.iconst 0, 1) := by decide +kernel
theorem dL_law_494 : decode cL_law 494 = .ok (.ireturn, 1) := by decide +kernel
theorem dL_law_495 : decode cL_law 495 = .ok (.aload_n 1, 1) := by decide +kernel
theorem dL_law_496 : decode cL_law 496 = .ok (.aload_n 0, 1) := by decide +kernel
theorem dL_law_497 : decode cL_law 497 = .ok (.iload_n 3, 1) := by decide +kernel
theorem dL_law_498 : decode cL_law 498 = .ok (.iconst 1, 1) := by decide +kernel
theorem dL_law_499 : decode cL_law 499 = .ok (.iadd, 1) := by decide +kernel
theorem dL_law_500 : decode cL_law 500 = .ok (.iaload, 1) := by decide +kernel
theorem dL_law_501 : decode cL_law 501 = .ok (.invokevirtual 46, 3) := by decide +kernel
theorem dL_law_504 : decode cL_law 504 = .ok (.aload_n 2, 1) := by decide +kernel
theorem dL_law_505 : decode cL_law 505 = .ok (.aload_n 0, 1) := by decide +kernel
theorem dL_law_506 : decode cL_law 506 = .ok (.iload_n 3, 1) := by decide +kernel
theorem dL_law_507 : decode cL_law 507 = .ok (.iconst 1, 1) := by decide +kernel
theorem dL_law_508 : decode cL_law 508 = .ok (.iadd, 1) := by decide +kernel
theorem dL_law_509 : decode cL_law 509 = .ok (.iaload, 1) := by decide +kernel
theorem dL_law_510 : decode cL_law 510 = .ok (.invokevirtual 50, 3) := by decide +kernel
theorem dL_law_513 : decode cL_law 513 = .ok (.if_icmp .eq 852, 3) := by decide +kernel
theorem dL_law_516 : decode cL_law 516 = .ok (.iconst 0, 1) := by decide +kernel
theorem dL_law_517 : decode cL_law 517 = .ok (.ireturn, 1) := by decide +kernel
theorem dL_law_518 : decode cL_law 518 = .ok (.aload_n 1, 1) := by decide +kernel
theorem dL_law_519 : decode cL_law 519 = .ok (.invokevirtual 51, 3) := by decide +kernel
theorem dL_law_522 : decode cL_law 522 = .ok (.aload_n 2, 1) := by decide +kernel
theorem dL_law_523 : decode cL_law 523 = .ok (.invokevirtual 55, 3) := by decide +kernel
theorem dL_law_526 : decode cL_law 526 = .ok (.if_icmp .eq 839, 3) := by decide +kernel
theorem dL_law_529 : decode cL_law 529 = .ok (.iconst 0, 1) := by decide +kernel
theorem dL_law_530 : decode cL_law 530 = .ok (.ireturn, 1) := by decide +kernel
theorem dL_law_531 : decode cL_law 531 = .ok (.aload_n 1, 1) := by decide +kernel
theorem dL_law_532 : decode cL_law 532 = .ok (.aload_n 0, 1) := by decide +kernel
theorem dL_law_533 : decode cL_law 533 = .ok (.iload_n 3, 1) := by decide +kernel
theorem dL_law_534 : decode cL_law 534 = .ok (.iconst 1, 1) := by decide +kernel
theorem dL_law_535 : decode cL_law 535 = .ok (.iadd, 1) := by decide +kernel
theorem dL_law_536 : decode cL_law 536 = .ok (.iaload, 1) := by decide +kernel
theorem dL_law_537 : decode cL_law 537 = .ok (.aload_n 0, 1) := by decide +kernel
theorem dL_law_538 : decode cL_law 538 = .ok (.iload_n 3, 1) := by decide +kernel
theorem dL_law_539 : decode cL_law 539 = .ok (.iconst 2, 1) := by decide +kernel
theorem dL_law_540 : decode cL_law 540 = .ok (.iadd, 1) := by decide +kernel
theorem dL_law_541 : decode cL_law 541 = .ok (.iaload, 1) := by decide +kernel
theorem dL_law_542 : decode cL_law 542 = .ok (.aload_n 0, 1) := by decide +kernel
theorem dL_law_543 : decode cL_law 543 = .ok (.iload_n 3, 1) := by decide +kernel
theorem dL_law_544 : decode cL_law 544 = .ok (.iconst 3, 1) := by decide +kernel
theorem dL_law_545 : decode cL_law 545 = .ok (.iadd, 1) := by decide +kernel
theorem dL_law_546 : decode cL_law 546 = .ok (.iaload, 1) := by decide +kernel
theorem dL_law_547 : decode cL_law 547 = .ok (.aload_n 0, 1) := by decide +kernel
theorem dL_law_548 : decode cL_law 548 = .ok (.iload_n 3, 1) := by decide +kernel
theorem dL_law_549 : decode cL_law 549 = .ok (.iconst 4, 1) := by decide +kernel
theorem dL_law_550 : decode cL_law 550 = .ok (.iadd, 1) := by decide +kernel
theorem dL_law_551 : decode cL_law 551 = .ok (.iaload, 1) := by decide +kernel
theorem dL_law_552 : decode cL_law 552 = .ok (.invokevirtual 56, 3) := by decide +kernel
theorem dL_law_555 : decode cL_law 555 = .ok (.aload_n 2, 1) := by decide +kernel
theorem dL_law_556 : decode cL_law 556 = .ok (.aload_n 0, 1) := by decide +kernel
theorem dL_law_557 : decode cL_law 557 = .ok (.iload_n 3, 1) := by decide +kernel
theorem dL_law_558 : decode cL_law 558 = .ok (.iconst 1, 1) := by decide +kernel
theorem dL_law_559 : decode cL_law 559 = .ok (.iadd, 1) := by decide +kernel
theorem dL_law_560 : decode cL_law 560 = .ok (.iaload, 1) := by decide +kernel
theorem dL_law_561 : decode cL_law 561 = .ok (.aload_n 0, 1) := by decide +kernel
theorem dL_law_562 : decode cL_law 562 = .ok (.iload_n 3, 1) := by decide +kernel
theorem dL_law_563 : decode cL_law 563 = .ok (.iconst 2, 1) := by decide +kernel
theorem dL_law_564 : decode cL_law 564 = .ok (.iadd, 1) := by decide +kernel
theorem dL_law_565 : decode cL_law 565 = .ok (.iaload, 1) := by decide +kernel
theorem dL_law_566 : decode cL_law 566 = .ok (.aload_n 0, 1) := by decide +kernel
theorem dL_law_567 : decode cL_law 567 = .ok (.iload_n 3, 1) := by decide +kernel
theorem dL_law_568 : decode cL_law 568 = .ok (.iconst 3, 1) := by decide +kernel
theorem dL_law_569 : decode cL_law 569 = .ok (.iadd, 1) := by decide +kernel
theorem dL_law_570 : decode cL_law 570 = .ok (.iaload, 1) := by decide +kernel
theorem dL_law_571 : decode cL_law 571 = .ok (.aload_n 0, 1) := by decide +kernel
theorem dL_law_572 : decode cL_law 572 = .ok (.iload_n 3, 1) := by decide +kernel
theorem dL_law_573 : decode cL_law 573 = .ok (.iconst 4, 1) := by decide +kernel
theorem dL_law_574 : decode cL_law 574 = .ok (.iadd, 1) := by decide +kernel
theorem dL_law_575 : decode cL_law 575 = .ok (.iaload, 1) := by decide +kernel
theorem dL_law_576 : decode cL_law 576 = .ok (.invokevirtual 59, 3) := by decide +kernel
theorem dL_law_579 : decode cL_law 579 = .ok (.if_icmp .eq 786, 3) := by decide +kernel
theorem dL_law_582 : decode cL_law 582 = .ok (.iconst 0, 1) := by decide +kernel
theorem dL_law_583 : decode cL_law 583 = .ok (.ireturn, 1) := by decide +kernel
theorem dL_law_584 : decode cL_law 584 = .ok (.aload_n 1, 1) := by decide +kernel
theorem dL_law_585 : decode cL_law 585 = .ok (.aload_n 0, 1) := by decide +kernel
theorem dL_law_586 : decode cL_law 586 = .ok (.iload_n 3, 1) := by decide +kernel
theorem dL_law_587 : decode cL_law 587 = .ok (.iconst 1, 1) := by decide +kernel
theorem dL_law_588 : decode cL_law 588 = .ok (.iadd, 1) := by decide +kernel
theorem dL_law_589 : decode cL_law 589 = .ok (.iaload, 1) := by decide +kernel
theorem dL_law_590 : decode cL_law 590 = .ok (.aload_n 0, 1) := by decide +kernel
theorem dL_law_591 : decode cL_law 591 = .ok (.iload_n 3, 1) := by decide +kernel
theorem dL_law_592 : decode cL_law 592 = .ok (.iconst 2, 1) := by decide +kernel
theorem dL_law_593 : decode cL_law 593 = .ok (.iadd, 1) := by decide +kernel
theorem dL_law_594 : decode cL_law 594 = .ok (.iaload, 1) := by decide +kernel
theorem dL_law_595 : decode cL_law 595 = .ok (.aload_n 0, 1) := by decide +kernel
theorem dL_law_596 : decode cL_law 596 = .ok (.iload_n 3, 1) := by decide +kernel
theorem dL_law_597 : decode cL_law 597 = .ok (.iconst 3, 1) := by decide +kernel
theorem dL_law_598 : decode cL_law 598 = .ok (.iadd, 1) := by decide +kernel
theorem dL_law_599 : decode cL_law 599 = .ok (.iaload, 1) := by decide +kernel
theorem dL_law_600 : decode cL_law 600 = .ok (.aload_n 0, 1) := by decide +kernel
theorem dL_law_601 : decode cL_law 601 = .ok (.iload_n 3, 1) := by decide +kernel
theorem dL_law_602 : decode cL_law 602 = .ok (.iconst 4, 1) := by decide +kernel
theorem dL_law_603 : decode cL_law 603 = .ok (.iadd, 1) := by decide +kernel
theorem dL_law_604 : decode cL_law 604 = .ok (.iaload, 1) := by decide +kernel
theorem dL_law_605 : decode cL_law 605 = .ok (.aload_n 0, 1) := by decide +kernel
theorem dL_law_606 : decode cL_law 606 = .ok (.iload_n 3, 1) := by decide +kernel
theorem dL_law_607 : decode cL_law 607 = .ok (.iconst 5, 1) := by decide +kernel
theorem dL_law_608 : decode cL_law 608 = .ok (.iadd, 1) := by decide +kernel
theorem dL_law_609 : decode cL_law 609 = .ok (.iaload, 1) := by decide +kernel
theorem dL_law_610 : decode cL_law 610 = .ok (.invokevirtual 60, 3) := by decide +kernel
theorem dL_law_613 : decode cL_law 613 = .ok (.aload_n 2, 1) := by decide +kernel
theorem dL_law_614 : decode cL_law 614 = .ok (.aload_n 0, 1) := by decide +kernel
theorem dL_law_615 : decode cL_law 615 = .ok (.iload_n 3, 1) := by decide +kernel
theorem dL_law_616 : decode cL_law 616 = .ok (.iconst 1, 1) := by decide +kernel
theorem dL_law_617 : decode cL_law 617 = .ok (.iadd, 1) := by decide +kernel
theorem dL_law_618 : decode cL_law 618 = .ok (.iaload, 1) := by decide +kernel
theorem dL_law_619 : decode cL_law 619 = .ok (.aload_n 0, 1) := by decide +kernel
theorem dL_law_620 : decode cL_law 620 = .ok (.iload_n 3, 1) := by decide +kernel
theorem dL_law_621 : decode cL_law 621 = .ok (.iconst 2, 1) := by decide +kernel
theorem dL_law_622 : decode cL_law 622 = .ok (.iadd, 1) := by decide +kernel
theorem dL_law_623 : decode cL_law 623 = .ok (.iaload, 1) := by decide +kernel
theorem dL_law_624 : decode cL_law 624 = .ok (.aload_n 0, 1) := by decide +kernel
theorem dL_law_625 : decode cL_law 625 = .ok (.iload_n 3, 1) := by decide +kernel
theorem dL_law_626 : decode cL_law 626 = .ok (.iconst 3, 1) := by decide +kernel
theorem dL_law_627 : decode cL_law 627 = .ok (.iadd, 1) := by decide +kernel
theorem dL_law_628 : decode cL_law 628 = .ok (.iaload, 1) := by decide +kernel
theorem dL_law_629 : decode cL_law 629 = .ok (.aload_n 0, 1) := by decide +kernel
theorem dL_law_630 : decode cL_law 630 = .ok (.iload_n 3, 1) := by decide +kernel
theorem dL_law_631 : decode cL_law 631 = .ok (.iconst 4, 1) := by decide +kernel
theorem dL_law_632 : decode cL_law 632 = .ok (.iadd, 1) := by decide +kernel
theorem dL_law_633 : decode cL_law 633 = .ok (.iaload, 1) := by decide +kernel
theorem dL_law_634 : decode cL_law 634 = .ok (.aload_n 0, 1) := by decide +kernel
theorem dL_law_635 : decode cL_law 635 = .ok (.iload_n 3, 1) := by decide +kernel
theorem dL_law_636 : decode cL_law 636 = .ok (.iconst 5, 1) := by decide +kernel
theorem dL_law_637 : decode cL_law 637 = .ok (.iadd, 1) := by decide +kernel
theorem dL_law_638 : decode cL_law 638 = .ok (.iaload, 1) := by decide +kernel
theorem dL_law_639 : decode cL_law 639 = .ok (.invokevirtual 64, 3) := by decide +kernel
theorem dL_law_642 : decode cL_law 642 = .ok (.if_icmp .eq 723, 3) := by decide +kernel
theorem dL_law_645 : decode cL_law 645 = .ok (.iconst 0, 1) := by decide +kernel
theorem dL_law_646 : decode cL_law 646 = .ok (.ireturn, 1) := by decide +kernel
theorem dL_law_647 : decode cL_law 647 = .ok (.aload_n 1, 1) := by decide +kernel
theorem dL_law_648 : decode cL_law 648 = .ok (.aload_n 0, 1) := by decide +kernel
theorem dL_law_649 : decode cL_law 649 = .ok (.iload_n 3, 1) := by decide +kernel
theorem dL_law_650 : decode cL_law 650 = .ok (.iconst 1, 1) := by decide +kernel
theorem dL_law_651 : decode cL_law 651 = .ok (.iadd, 1) := by decide +kernel
theorem dL_law_652 : decode cL_law 652 = .ok (.iaload, 1) := by decide +kernel
theorem dL_law_653 : decode cL_law 653 = .ok (.aload_n 0, 1) := by decide +kernel
theorem dL_law_654 : decode cL_law 654 = .ok (.iload_n 3, 1) := by decide +kernel
theorem dL_law_655 : decode cL_law 655 = .ok (.iconst 2, 1) := by decide +kernel
theorem dL_law_656 : decode cL_law 656 = .ok (.iadd, 1) := by decide +kernel
theorem dL_law_657 : decode cL_law 657 = .ok (.iaload, 1) := by decide +kernel
theorem dL_law_658 : decode cL_law 658 = .ok (.invokevirtual 65, 3) := by decide +kernel
theorem dL_law_661 : decode cL_law 661 = .ok (.aload_n 2, 1) := by decide +kernel
theorem dL_law_662 : decode cL_law 662 = .ok (.aload_n 0, 1) := by decide +kernel
theorem dL_law_663 : decode cL_law 663 = .ok (.iload_n 3, 1) := by decide +kernel
theorem dL_law_664 : decode cL_law 664 = .ok (.iconst 1, 1) := by decide +kernel
theorem dL_law_665 : decode cL_law 665 = .ok (.iadd, 1) := by decide +kernel
theorem dL_law_666 : decode cL_law 666 = .ok (.iaload, 1) := by decide +kernel
theorem dL_law_667 : decode cL_law 667 = .ok (.aload_n 0, 1) := by decide +kernel
theorem dL_law_668 : decode cL_law 668 = .ok (.iload_n 3, 1) := by decide +kernel
theorem dL_law_669 : decode cL_law 669 = .ok (.iconst 2, 1) := by decide +kernel
theorem dL_law_670 : decode cL_law 670 = .ok (.iadd, 1) := by decide +kernel
theorem dL_law_671 : decode cL_law 671 = .ok (.iaload, 1) := by decide +kernel
theorem dL_law_672 : decode cL_law 672 = .ok (.invokevirtual 68, 3) := by decide +kernel
theorem dL_law_675 : decode cL_law 675 = .ok (.if_icmp .eq 690, 3) := by decide +kernel
theorem dL_law_678 : decode cL_law 678 = .ok (.iconst 0, 1) := by decide +kernel
theorem dL_law_679 : decode cL_law 679 = .ok (.ireturn, 1) := by decide +kernel
theorem dL_law_680 : decode cL_law 680 = .ok (.aload_n 1, 1) := by decide +kernel
theorem dL_law_681 : decode cL_law 681 = .ok (.aload_n 0, 1) := by decide +kernel
theorem dL_law_682 : decode cL_law 682 = .ok (.iload_n 3, 1) := by decide +kernel
theorem dL_law_683 : decode cL_law 683 = .ok (.iconst 1, 1) := by decide +kernel
theorem dL_law_684 : decode cL_law 684 = .ok (.iadd, 1) := by decide +kernel
theorem dL_law_685 : decode cL_law 685 = .ok (.iaload, 1) := by decide +kernel
theorem dL_law_686 : decode cL_law 686 = .ok (.aload_n 0, 1) := by decide +kernel
theorem dL_law_687 : decode cL_law 687 = .ok (.iload_n 3, 1) := by decide +kernel
theorem dL_law_688 : decode cL_law 688 = .ok (.iconst 2, 1) := by decide +kernel
theorem dL_law_689 : decode cL_law 689 = .ok (.iadd, 1) := by decide +kernel
theorem dL_law_690 : decode cL_law 690 = .ok (.iaload, 1) := by decide +kernel
theorem dL_law_691 : decode cL_law 691 = .ok (.invokevirtual 69, 3) := by decide +kernel
theorem dL_law_694 : decode cL_law 694 = .ok (.aload_n 2, 1) := by decide +kernel
theorem dL_law_695 : decode cL_law 695 = .ok (.aload_n 0, 1) := by decide +kernel
theorem dL_law_696 : decode cL_law 696 = .ok (.iload_n 3, 1) := by decide +kernel
theorem dL_law_697 : decode cL_law 697 = .ok (.iconst 1, 1) := by decide +kernel
theorem dL_law_698 : decode cL_law 698 = .ok (.iadd, 1) := by decide +kernel
theorem dL_law_699 : decode cL_law 699 = .ok (.iaload, 1) := by decide +kernel
theorem dL_law_700 : decode cL_law 700 = .ok (.aload_n 0, 1) := by decide +kernel
theorem dL_law_701 : decode cL_law 701 = .ok (.iload_n 3, 1) := by decide +kernel
theorem dL_law_702 : decode cL_law 702 = .ok (.iconst 2, 1) := by decide +kernel
theorem dL_law_703 : decode cL_law 703 = .ok (.iadd, 1) := by decide +kernel
theorem dL_law_704 : decode cL_law 704 = .ok (.iaload, 1) := by decide +kernel
theorem dL_law_705 : decode cL_law 705 = .ok (.invokevirtual 72, 3) := by decide +kernel
theorem dL_law_708 : decode cL_law 708 = .ok (.if_icmp .eq 657, 3) := by decide +kernel
theorem dL_law_711 : decode cL_law 711 = .ok (.iconst 0, 1) := by decide +kernel
theorem dL_law_712 : decode cL_law 712 = .ok (.ireturn, 1) := by decide +kernel
theorem dL_law_713 : decode cL_law 713 = .ok (.aload_n 1, 1) := by decide +kernel
theorem dL_law_714 : decode cL_law 714 = .ok (.aload_n 0, 1) := by decide +kernel
theorem dL_law_715 : decode cL_law 715 = .ok (.iload_n 3, 1) := by decide +kernel
theorem dL_law_716 : decode cL_law 716 = .ok (.iconst 1, 1) := by decide +kernel
theorem dL_law_717 : decode cL_law 717 = .ok (.iadd, 1) := by decide +kernel
theorem dL_law_718 : decode cL_law 718 = .ok (.iaload, 1) := by decide +kernel
theorem dL_law_719 : decode cL_law 719 = .ok (.aload_n 0, 1) := by decide +kernel
theorem dL_law_720 : decode cL_law 720 = .ok (.iload_n 3, 1) := by decide +kernel
theorem dL_law_721 : decode cL_law 721 = .ok (.iconst 2, 1) := by decide +kernel
theorem dL_law_722 : decode cL_law 722 = .ok (.iadd, 1) := by decide +kernel
theorem dL_law_723 : decode cL_law 723 = .ok (.iaload, 1) := by decide +kernel
theorem dL_law_724 : decode cL_law 724 = .ok (.aload_n 0, 1) := by decide +kernel
theorem dL_law_725 : decode cL_law 725 = .ok (.iload_n 3, 1) := by decide +kernel
theorem dL_law_726 : decode cL_law 726 = .ok (.iconst 3, 1) := by decide +kernel
theorem dL_law_727 : decode cL_law 727 = .ok (.iadd, 1) := by decide +kernel
theorem dL_law_728 : decode cL_law 728 = .ok (.iaload, 1) := by decide +kernel
theorem dL_law_729 : decode cL_law 729 = .ok (.aload_n 0, 1) := by decide +kernel
theorem dL_law_730 : decode cL_law 730 = .ok (.iload_n 3, 1) := by decide +kernel
theorem dL_law_731 : decode cL_law 731 = .ok (.iconst 4, 1) := by decide +kernel
theorem dL_law_732 : decode cL_law 732 = .ok (.iadd, 1) := by decide +kernel
theorem dL_law_733 : decode cL_law 733 = .ok (.iaload, 1) := by decide +kernel
theorem dL_law_734 : decode cL_law 734 = .ok (.aload_n 0, 1) := by decide +kernel
theorem dL_law_735 : decode cL_law 735 = .ok (.iload_n 3, 1) := by decide +kernel
theorem dL_law_736 : decode cL_law 736 = .ok (.iconst 5, 1) := by decide +kernel
theorem dL_law_737 : decode cL_law 737 = .ok (.iadd, 1) := by decide +kernel
theorem dL_law_738 : decode cL_law 738 = .ok (.iaload, 1) := by decide +kernel
theorem dL_law_739 : decode cL_law 739 = .ok (.invokevirtual 73, 3) := by decide +kernel
