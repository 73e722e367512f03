theorem dX0_init_0 : decode cX0_init 0 = .ok (.aload_n 0, 1) := by decide +kernel
theorem dX0_init_1 : decode cX0_init 1 = .ok (.invokespecial 3, 3) := by decide +kernel
theorem dX0_init_4 : decode cX0_init 4 = .ok (.aload_n 0, 1) := by decide +kernel
theorem dX0_init_5 : decode cX0_init 5 = .ok (.new 9, 3) := by decide +kernel
theorem dX0_init_8 : decode cX0_init 8 = .ok (.dup, 1) := by decide +kernel
theorem dX0_init_9 : decode cX0_init 9 = .ok (.invokespecial 11, 3) := by decide +kernel
theorem dX0_init_12 : decode cX0_init 12 = .ok (.putfield 12, 3) := by decide +kernel
theorem dX0_init_15 : decode cX0_init 15 = .ok (.aload_n 0, 1) := by decide +kernel
theorem dX0_init_16 : decode cX0_init 16 = .ok (.new 18, 3) := by decide +kernel
theorem dX0_init_19 : decode cX0_init 19 = .ok (.dup, 1) := by decide +kernel
theorem dX0_init_20 : decode cX0_init 20 = .ok (.invokespecial 20, 3) := by decide +kernel
theorem dX0_init_23 : decode cX0_init 23 = .ok (.putfield 21, 3) := by decide +kernel
theorem dX0_init_26 : decode cX0_init 26 = .ok (.aload_n 0, 1) := by decide +kernel
theorem dX0_init_27 : decode cX0_init 27 = .ok (.new 25, 3) := by decide +kernel
theorem dX0_init_30 : decode cX0_init 30 = .ok (.dup, 1) := by decide +kernel
theorem dX0_init_31 : decode cX0_init 31 = .ok (.invokespecial 27, 3) := by decide +kernel
theorem dX0_init_34 : decode cX0_init 34 = .ok (.putfield 28, 3) := by decide +kernel
theorem dX0_init_37 : decode cX0_init 37 = .ok (.aload_n 0, 1) := by decide +kernel
theorem dX0_init_38 : decode cX0_init 38 = .ok (.new 32, 3) := by decide +kernel
theorem dX0_init_41 : decode cX0_init 41 = .ok (.dup, 1) := by decide +kernel
theorem dX0_init_42 : decode cX0_init 42 = .ok (.invokespecial 34, 3) := by decide +kernel
theorem dX0_init_45 : decode cX0_init 45 = .ok (.putfield 35, 3) := by decide +kernel
theorem dX0_init_48 : decode cX0_init 48 = .ok (.aload_n 0, 1) := by decide +kernel
theorem dX0_init_49 : decode cX0_init 49 = .ok (.bipush 7, 2) := by decide +kernel
theorem dX0_init_51 : decode cX0_init 51 = .ok (.anewarray 39, 3) := by decide +kernel
theorem dX0_init_54 : decode cX0_init 54 = .ok (.putfield 41, 3) := by decide +kernel
theorem dX0_init_57 : decode cX0_init 57 = .ok (.aload_n 0, 1) := by decide +kernel
theorem dX0_init_58 : decode cX0_init 58 = .ok (.sipush 500, 3) := by decide +kernel
theorem dX0_init_61 : decode cX0_init 61 = .ok (.newarray .byte, 2) := by decide +kernel
theorem dX0_init_63 : decode cX0_init 63 = .ok (.putfield 45, 3) := by decide +kernel
theorem dX0_init_66 : decode cX0_init 66 = .ok (.aload_n 0, 1) := by decide +kernel
theorem dX0_init_67 : decode cX0_init 67 = .ok (.iconst (-1), 1) := by decide +kernel
theorem dX0_init_68 : decode cX0_init 68 = .ok (.putfield 49, 3) := by decide +kernel
theorem dX0_init_71 : decode cX0_init 71 = .ok (.new 39, 3) := by decide +kernel
theorem dX0_init_74 : decode cX0_init 74 = .ok (.dup, 1) := by decide +kernel
theorem dX0_init_75 : decode cX0_init 75 = .ok (.iconst 0, 1) := by decide +kernel
theorem dX0_init_76 : decode cX0_init 76 = .ok (.iconst 0, 1) := by decide +kernel
theorem dX0_init_77 : decode cX0_init 77 = .ok (.invokespecial 53, 3) := by decide +kernel
theorem dX0_init_80 : decode cX0_init 80 = .ok (.astore_n 1, 1) := by decide +kernel
theorem dX0_init_81 : decode cX0_init 81 = .ok (.iconst 0, 1) := by decide +kernel
theorem dX0_init_82 : decode cX0_init 82 = .ok (.istore_n 2, 1) := by decide +kernel
theorem dX0_init_83 : decode cX0_init 83 = .ok (.iload_n 2, 1) := by decide +kernel
theorem dX0_init_84 : decode cX0_init 84 = .ok (.bipush 7, 2) := by decide +kernel
theorem dX0_init_86 : decode cX0_init 86 = .ok (.if_icmp .ge 16, 3) := by decide +kernel
theorem dX0_init_89 : decode cX0_init 89 = .ok (.aload_n 0, 1) := by decide +kernel
theorem dX0_init_90 : decode cX0_init 90 = .ok (.getfield 41, 3) := by decide +kernel
theorem dX0_init_93 : decode cX0_init 93 = .ok (.iload_n 2, 1) := by decide +kernel
theorem dX0_init_94 : decode cX0_init 94 = .ok (.aload_n 1, 1) := by decide +kernel
theorem dX0_init_95 : decode cX0_init 95 = .ok (.aastore, 1) := by decide +kernel
theorem dX0_init_96 : decode cX0_init 96 = .ok (.iinc 2 1, 3) := by decide +kernel
theorem dX0_init_99 : decode cX0_init 99 = .ok (.goto (-16), 3) := by decide +kernel
theorem dX0_init_102 : decode cX0_init 102 = .ok (.return_, 1) := by decide +kernel
theorem dX0_write_0 : decode cX0_write 0 = .ok (.bipush 24, 2) := by decide +kernel
theorem dX0_write_2 : decode cX0_write 2 = .ok (.istore_n 2, 1) := by decide +kernel
theorem dX0_write_3 : decode cX0_write 3 = .ok (.iload_n 2, 1) := by decide +kernel
theorem dX0_write_4 : decode cX0_write 4 = .ok (.ifCond .lt 42, 3) := by decide +kernel
theorem dX0_write_7 : decode cX0_write 7 = .ok (.aload_n 0, 1) := by decide +kernel
theorem dX0_write_8 : decode cX0_write 8 = .ok (.getfield 56, 3) := by decide +kernel
theorem dX0_write_11 : decode cX0_write 11 = .ok (.sipush 500, 3) := by decide +kernel
theorem dX0_write_14 : decode cX0_write 14 = .ok (.if_icmp .ge 32, 3) := by decide +kernel
theorem dX0_write_17 : decode cX0_write 17 = .ok (.aload_n 0, 1) := by decide +kernel
theorem dX0_write_18 : decode cX0_write 18 = .ok (.getfield 45, 3) := by decide +kernel
theorem dX0_write_21 : decode cX0_write 21 = .ok (.aload_n 0, 1) := by decide +kernel
theorem dX0_write_22 : decode cX0_write 22 = .ok (.getfield 56, 3) := by decide +kernel
theorem dX0_write_25 : decode cX0_write 25 = .ok (.iload_n 1, 1) := by decide +kernel
theorem dX0_write_26 : decode cX0_write 26 = .ok (.iload_n 2, 1) := by decide +kernel
theorem dX0_write_27 : decode cX0_write 27 = .ok (.ishr, 1) := by decide +kernel
theorem dX0_write_28 : decode cX0_write 28 = .ok (.i2b, 1) := by decide +kernel
theorem dX0_write_29 : decode cX0_write 29 = .ok (.bastore, 1) := by decide +kernel
theorem dX0_write_30 : decode cX0_write 30 = .ok (.aload_n 0, 1) := by decide +kernel
theorem dX0_write_31 : decode cX0_write 31 = .ok (.dup, 1) := by decide +kernel
theorem dX0_write_32 : decode cX0_write 32 = .ok (.getfield 56, 3) := by decide +kernel
theorem dX0_write_35 : decode cX0_write 35 = .ok (.iconst 1, 1) := by decide +kernel
theorem dX0_write_36 : decode cX0_write 36 = .ok (.iadd, 1) := by decide +kernel
theorem dX0_write_37 : decode cX0_write 37 = .ok (.putfield 56, 3) := by decide +kernel
theorem dX0_write_40 : decode cX0_write 40 = .ok (.iinc 2 (-8), 3) := by decide +kernel
theorem dX0_write_43 : decode cX0_write 43 = .ok (.goto (-40), 3) := by decide +kernel
theorem dX0_write_46 : decode cX0_write 46 = .ok (.return_, 1) := by decide +kernel
theorem dX0_villageOf_0 : decode cX0_villageOf 0 = .ok (.aload_n 0, 1) := by decide +kernel
theorem dX0_villageOf_1 : decode cX0_villageOf 1 = .ok (.getfield 12, 3) := by decide +kernel
theorem dX0_villageOf_4 : decode cX0_villageOf 4 = .ok (.getfield 59, 3) := by decide +kernel
theorem dX0_villageOf_7 : decode cX0_villageOf 7 = .ok (.aload_n 0, 1) := by decide +kernel
theorem dX0_villageOf_8 : decode cX0_villageOf 8 = .ok (.getfield 21, 3) := by decide +kernel
theorem dX0_villageOf_11 : decode cX0_villageOf 11 = .ok (.getfield 63, 3) := by decide +kernel
theorem dX0_villageOf_14 : decode cX0_villageOf 14 = .ok (.iload_n 1, 1) := by decide +kernel
theorem dX0_villageOf_15 : decode cX0_villageOf 15 = .ok (.iaload, 1) := by decide +kernel
theorem dX0_villageOf_16 : decode cX0_villageOf 16 = .ok (.iaload, 1) := by decide +kernel
theorem dX0_villageOf_17 : decode cX0_villageOf 17 = .ok (.ireturn, 1) := by decide +kernel
theorem dX0_customOf_0 : decode cX0_customOf 0 = .ok (.aload_n 0, 1) := by decide +kernel
theorem dX0_customOf_1 : decode cX0_customOf 1 = .ok (.getfield 41, 3) := by decide +kernel
theorem dX0_customOf_4 : decode cX0_customOf 4 = .ok (.aload_n 0, 1) := by decide +kernel
theorem dX0_customOf_5 : decode cX0_customOf 5 = .ok (.getfield 12, 3) := by decide +kernel
theorem dX0_customOf_8 : decode cX0_customOf 8 = .ok (.getfield 59, 3) := by decide +kernel
theorem dX0_customOf_11 : decode cX0_customOf 11 = .ok (.iload_n 1, 1) := by decide +kernel
theorem dX0_customOf_12 : decode cX0_customOf 12 = .ok (.iaload, 1) := by decide +kernel
theorem dX0_customOf_13 : decode cX0_customOf 13 = .ok (.aaload, 1) := by decide +kernel
theorem dX0_customOf_14 : decode cX0_customOf 14 = .ok (.areturn, 1) := by decide +kernel
theorem dX0_takeFrom_0 : decode cX0_takeFrom 0 = .ok (.aload_n 0, 1) := by decide +kernel
theorem dX0_takeFrom_1 : decode cX0_takeFrom 1 = .ok (.aload_n 1, 1) := by decide +kernel
theorem dX0_takeFrom_2 : decode cX0_takeFrom 2 = .ok (.getfield 66, 3) := by decide +kernel
theorem dX0_takeFrom_5 : decode cX0_takeFrom 5 = .ok (.putfield 66, 3) := by decide +kernel
theorem dX0_takeFrom_8 : decode cX0_takeFrom 8 = .ok (.aload_n 0, 1) := by decide +kernel
theorem dX0_takeFrom_9 : decode cX0_takeFrom 9 = .ok (.getfield 12, 3) := by decide +kernel
theorem dX0_takeFrom_12 : decode cX0_takeFrom 12 = .ok (.aload_n 1, 1) := by decide +kernel
theorem dX0_takeFrom_13 : decode cX0_takeFrom 13 = .ok (.getfield 12, 3) := by decide +kernel
theorem dX0_takeFrom_16 : decode cX0_takeFrom 16 = .ok (.invokevirtual 69, 3) := by decide +kernel
theorem dX0_takeFrom_19 : decode cX0_takeFrom 19 = .ok (.aload_n 0, 1) := by decide +kernel
theorem dX0_takeFrom_20 : decode cX0_takeFrom 20 = .ok (.getfield 21, 3) := by decide +kernel
theorem dX0_takeFrom_23 : decode cX0_takeFrom 23 = .ok (.aload_n 1, 1) := by decide +kernel
theorem dX0_takeFrom_24 : decode cX0_takeFrom 24 = .ok (.getfield 21, 3) := by decide +kernel
theorem dX0_takeFrom_27 : decode cX0_takeFrom 27 = .ok (.invokevirtual 73, 3) := by decide +kernel
theorem dX0_takeFrom_30 : decode cX0_takeFrom 30 = .ok (.aload_n 0, 1) := by decide +kernel
theorem dX0_takeFrom_31 : decode cX0_takeFrom 31 = .ok (.getfield 28, 3) := by decide +kernel
theorem dX0_takeFrom_34 : decode cX0_takeFrom 34 = .ok (.aload_n 1, 1) := by decide +kernel
theorem dX0_takeFrom_35 : decode cX0_takeFrom 35 = .ok (.getfield 28, 3) := by decide +kernel
theorem dX0_takeFrom_38 : decode cX0_takeFrom 38 = .ok (.invokevirtual 76, 3) := by decide +kernel
theorem dX0_takeFrom_41 : decode cX0_takeFrom 41 = .ok (.aload_n 0, 1) := by decide +kernel
theorem dX0_takeFrom_42 : decode cX0_takeFrom 42 = .ok (.getfield 35, 3) := by decide +kernel
theorem dX0_takeFrom_45 : decode cX0_takeFrom 45 = .ok (.aload_n 1, 1) := by decide +kernel
theorem dX0_takeFrom_46 : decode cX0_takeFrom 46 = .ok (.getfield 35, 3) := by decide +kernel
theorem dX0_takeFrom_49 : decode cX0_takeFrom 49 = .ok (.invokevirtual 79, 3) := by decide +kernel
theorem dX0_takeFrom_52 : decode cX0_takeFrom 52 = .ok (.aload_n 1, 1) := by decide +kernel
theorem dX0_takeFrom_53 : decode cX0_takeFrom 53 = .ok (.getfield 41, 3) := by decide +kernel
theorem dX0_takeFrom_56 : decode cX0_takeFrom 56 = .ok (.aload_n 0, 1) := by decide +kernel
theorem dX0_takeFrom_57 : decode cX0_takeFrom 57 = .ok (.getfield 41, 3) := by decide +kernel
theorem dX0_takeFrom_60 : decode cX0_takeFrom 60 = .ok (.invokestatic 82, 3) := by decide +kernel
theorem dX0_takeFrom_63 : decode cX0_takeFrom 63 = .ok (.aload_n 1, 1) := by decide +kernel
theorem dX0_takeFrom_64 : decode cX0_takeFrom 64 = .ok (.getfield 45, 3) := by decide +kernel
theorem dX0_takeFrom_67 : decode cX0_takeFrom 67 = .ok (.iconst 0, 1) := by decide +kernel
theorem dX0_takeFrom_68 : decode cX0_takeFrom 68 = .ok (.aload_n 0, 1) := by decide +kernel
theorem dX0_takeFrom_69 : decode cX0_takeFrom 69 = .ok (.getfield 45, 3) := by decide +kernel
theorem dX0_takeFrom_72 : decode cX0_takeFrom 72 = .ok (.iconst 0, 1) := by decide +kernel
theorem dX0_takeFrom_73 : decode cX0_takeFrom 73 = .ok (.aload_n 1, 1) := by decide +kernel
theorem dX0_takeFrom_74 : decode cX0_takeFrom 74 = .ok (.getfield 56, 3) := by decide +kernel
theorem dX0_takeFrom_77 : decode cX0_takeFrom 77 = .ok (.invokestatic 86, 3) := by decide +kernel
theorem dX0_takeFrom_80 : decode cX0_takeFrom 80 = .ok (.aload_n 0, 1) := by decide +kernel
theorem dX0_takeFrom_81 : decode cX0_takeFrom 81 = .ok (.aload_n 1, 1) := by decide +kernel
theorem dX0_takeFrom_82 : decode cX0_takeFrom 82 = .ok (.getfield 56, 3) := by decide +kernel
theorem dX0_takeFrom_85 : decode cX0_takeFrom 85 = .ok (.putfield 56, 3) := by decide +kernel
theorem dX0_takeFrom_88 : decode cX0_takeFrom 88 = .ok (.aload_n 0, 1) := by decide +kernel
theorem dX0_takeFrom_89 : decode cX0_takeFrom 89 = .ok (.aload_n 1, 1) := by decide +kernel
theorem dX0_takeFrom_90 : decode cX0_takeFrom 90 = .ok (.getfield 92, 3) := by decide +kernel
theorem dX0_takeFrom_93 : decode cX0_takeFrom 93 = .ok (.putfield 92, 3) := by decide +kernel
theorem dX0_takeFrom_96 : decode cX0_takeFrom 96 = .ok (.aload_n 0, 1) := by decide +kernel
theorem dX0_takeFrom_97 : decode cX0_takeFrom 97 = .ok (.aload_n 1, 1) := by decide +kernel
theorem dX0_takeFrom_98 : decode cX0_takeFrom 98 = .ok (.getfield 49, 3) := by decide +kernel
theorem dX0_takeFrom_101 : decode cX0_takeFrom 101 = .ok (.putfield 49, 3) := by decide +kernel
theorem dX0_takeFrom_104 : decode cX0_takeFrom 104 = .ok (.return_, 1) := by decide +kernel
theorem dX1_init_0 : decode cX1_init 0 = .ok (.aload_n 0, 1) := by decide +kernel
theorem dX1_init_1 : decode cX1_init 1 = .ok (.invokespecial 3, 3) := by decide +kernel
theorem dX1_init_4 : decode cX1_init 4 = .ok (.aload_n 0, 1) := by decide +kernel
theorem dX1_init_5 : decode cX1_init 5 = .ok (.bipush 8, 2) := by decide +kernel
theorem dX1_init_7 : decode cX1_init 7 = .ok (.newarray .int, 2) := by decide +kernel
theorem dX1_init_9 : decode cX1_init 9 = .ok (.putfield 9, 3) := by decide +kernel
theorem dX1_init_12 : decode cX1_init 12 = .ok (.aload_n 0, 1) := by decide +kernel
theorem dX1_init_13 : decode cX1_init 13 = .ok (.bipush 8, 2) := by decide +kernel
theorem dX1_init_15 : decode cX1_init 15 = .ok (.newarray .int, 2) := by decide +kernel
theorem dX1_init_17 : decode cX1_init 17 = .ok (.putfield 15, 3) := by decide +kernel
theorem dX1_init_20 : decode cX1_init 20 = .ok (.aload_n 0, 1) := by decide +kernel
theorem dX1_init_21 : decode cX1_init 21 = .ok (.bipush 8, 2) := by decide +kernel
theorem dX1_init_23 : decode cX1_init 23 = .ok (.newarray .int, 2) := by decide +kernel
theorem dX1_init_25 : decode cX1_init 25 = .ok (.putfield 18, 3) := by decide +kernel
theorem dX1_init_28 : decode cX1_init 28 = .ok (.aload_n 0, 1) := by decide +kernel
theorem dX1_init_29 : decode cX1_init 29 = .ok (.bipush 8, 2) := by decide +kernel
theorem dX1_init_31 : decode cX1_init 31 = .ok (.newarray .int, 2) := by decide +kernel
theorem dX1_init_33 : decode cX1_init 33 = .ok (.putfield 21, 3) := by decide +kernel
theorem dX1_init_36 : decode cX1_init 36 = .ok (.return_, 1) := by decide +kernel
theorem dX1_has_0 : decode cX1_has 0 = .ok (.iload_n 1, 1) := by decide +kernel
theorem dX1_has_1 : decode cX1_has 1 = .ok (.ifCond .lt 15, 3) := by decide +kernel
theorem dX1_has_4 : decode cX1_has 4 = .ok (.iload_n 1, 1) := by decide +kernel
theorem dX1_has_5 : decode cX1_has 5 = .ok (.aload_n 0, 1) := by decide +kernel
theorem dX1_has_6 : decode cX1_has 6 = .ok (.getfield 24, 3) := by decide +kernel
theorem dX1_has_9 : decode cX1_has 9 = .ok (.if_icmp .ge 7, 3) := by decide +kernel
theorem dX1_has_12 : decode cX1_has 12 = .ok (.iconst 1, 1) := by decide +kernel
theorem dX1_has_13 : decode cX1_has 13 = .ok (.goto 4, 3) := by decide +kernel
theorem dX1_has_16 : decode cX1_has 16 = .ok (.iconst 0, 1) := by decide +kernel
theorem dX1_has_17 : decode cX1_has 17 = .ok (.ireturn, 1) := by decide +kernel
theorem dX1_add_0 : decode cX1_add 0 = .ok (.aload_n 0, 1) := by decide +kernel
theorem dX1_add_1 : decode cX1_add 1 = .ok (.getfield 24, 3) := by decide +kernel
theorem dX1_add_4 : decode cX1_add 4 = .ok (.bipush 8, 2) := by decide +kernel
theorem dX1_add_6 : decode cX1_add 6 = .ok (.if_icmp .lt 5, 3) := by decide +kernel
theorem dX1_add_9 : decode cX1_add 9 = .ok (.iconst (-1), 1) := by decide +kernel
theorem dX1_add_10 : decode cX1_add 10 = .ok (.ireturn, 1) := by decide +kernel
theorem dX1_add_11 : decode cX1_add 11 = .ok (.aload_n 0, 1) := by decide +kernel
theorem dX1_add_12 : decode cX1_add 12 = .ok (.getfield 9, 3) := by decide +kernel
theorem dX1_add_15 : decode cX1_add 15 = .ok (.aload_n 0, 1) := by decide +kernel
theorem dX1_add_16 : decode cX1_add 16 = .ok (.getfield 24, 3) := by decide +kernel
theorem dX1_add_19 : decode cX1_add 19 = .ok (.iload_n 1, 1) := by decide +kernel
theorem dX1_add_20 : decode cX1_add 20 = .ok (.iastore, 1) := by decide +kernel
theorem dX1_add_21 : decode cX1_add 21 = .ok (.aload_n 0, 1) := by decide +kernel
theorem dX1_add_22 : decode cX1_add 22 = .ok (.getfield 15, 3) := by decide +kernel
theorem dX1_add_25 : decode cX1_add 25 = .ok (.aload_n 0, 1) := by decide +kernel
theorem dX1_add_26 : decode cX1_add 26 = .ok (.getfield 24, 3) := by decide +kernel
theorem dX1_add_29 : decode cX1_add 29 = .ok (.iload_n 2, 1) := by decide +kernel
theorem dX1_add_30 : decode cX1_add 30 = .ok (.iastore, 1) := by decide +kernel
theorem dX1_add_31 : decode cX1_add 31 = .ok (.aload_n 0, 1) := by decide +kernel
theorem dX1_add_32 : decode cX1_add 32 = .ok (.getfield 18, 3) := by decide +kernel
theorem dX1_add_35 : decode cX1_add 35 = .ok (.aload_n 0, 1) := by decide +kernel
theorem dX1_add_36 : decode cX1_add 36 = .ok (.getfield 24, 3) := by decide +kernel
theorem dX1_add_39 : decode cX1_add 39 = .ok (.iload_n 3, 1) := by decide +kernel
theorem dX1_add_40 : decode cX1_add 40 = .ok (.iastore, 1) := by decide +kernel
theorem dX1_add_41 : decode cX1_add 41 = .ok (.aload_n 0, 1) := by decide +kernel
theorem dX1_add_42 : decode cX1_add 42 = .ok (.getfield 21, 3) := by decide +kernel
theorem dX1_add_45 : decode cX1_add 45 = .ok (.aload_n 0, 1) := by decide +kernel
theorem dX1_add_46 : decode cX1_add 46 = .ok (.getfield 24, 3) := by decide +kernel
theorem dX1_add_49 : decode cX1_add 49 = .ok (.iconst 0, 1) := by decide +kernel
theorem dX1_add_50 : decode cX1_add 50 = .ok (.iastore, 1) := by decide +kernel
theorem dX1_add_51 : decode cX1_add 51 = .ok (.aload_n 0, 1) := by decide +kernel
theorem dX1_add_52 : decode cX1_add 52 = .ok (.dup, 1) := by decide +kernel
theorem dX1_add_53 : decode cX1_add 53 = .ok (.getfield 24, 3) := by decide +kernel
theorem dX1_add_56 : decode cX1_add 56 = .ok (.iconst 1, 1) := by decide +kernel
theorem dX1_add_57 : decode cX1_add 57 = .ok (.iadd, 1) := by decide +kernel
theorem dX1_add_58 : decode cX1_add 58 = .ok (.putfield 24, 3) := by decide +kernel
theorem dX1_add_61 : decode cX1_add 61 = .ok (.aload_n 0, 1) := by decide +kernel
theorem dX1_add_62 : decode cX1_add 62 = .ok (.getfield 24, 3) := by decide +kernel
theorem dX1_add_65 : decode cX1_add 65 = .ok (.iconst 1, 1) := by decide +kernel
theorem dX1_add_66 : decode cX1_add 66 = .ok (.isub, 1) := by decide +kernel
theorem dX1_add_67 : decode cX1_add 67 = .ok (.ireturn, 1) := by decide +kernel
theorem dX1_atFeud_0 : decode cX1_atFeud 0 = .ok (.aload_n 0, 1) := by decide +kernel
theorem dX1_atFeud_1 : decode cX1_atFeud 1 = .ok (.getfield 21, 3) := by decide +kernel
theorem dX1_atFeud_4 : decode cX1_atFeud 4 = .ok (.iload_n 1, 1) := by decide +kernel
theorem dX1_atFeud_5 : decode cX1_atFeud 5 = .ok (.iaload, 1) := by decide +kernel
theorem dX1_atFeud_6 : decode cX1_atFeud 6 = .ok (.iload_n 2, 1) := by decide +kernel
theorem dX1_atFeud_7 : decode cX1_atFeud 7 = .ok (.ishr, 1) := by decide +kernel
theorem dX1_atFeud_8 : decode cX1_atFeud 8 = .ok (.iconst 1, 1) := by decide +kernel
theorem dX1_atFeud_9 : decode cX1_atFeud 9 = .ok (.iand, 1) := by decide +kernel
theorem dX1_atFeud_10 : decode cX1_atFeud 10 = .ok (.iconst 1, 1) := by decide +kernel
theorem dX1_atFeud_11 : decode cX1_atFeud 11 = .ok (.if_icmp .ne 7, 3) := by decide +kernel
theorem dX1_atFeud_14 : decode cX1_atFeud 14 = .ok (.iconst 1, 1) := by decide +kernel
theorem dX1_atFeud_15 : decode cX1_atFeud 15 = .ok (.goto 4, 3) := by decide +kernel
theorem dX1_atFeud_18 : decode cX1_atFeud 18 = .ok (.iconst 0, 1) := by decide +kernel
theorem dX1_atFeud_19 : decode cX1_atFeud 19 = .ok (.ireturn, 1) := by decide +kernel
theorem dX1_setFeud_0 : decode cX1_setFeud 0 = .ok (.iload_n 3, 1) := by decide +kernel
theorem dX1_setFeud_1 : decode cX1_setFeud 1 = .ok (.ifCond .eq 30, 3) := by decide +kernel
theorem dX1_setFeud_4 : decode cX1_setFeud 4 = .ok (.aload_n 0, 1) := by decide +kernel
theorem dX1_setFeud_5 : decode cX1_setFeud 5 = .ok (.getfield 21, 3) := by decide +kernel
theorem dX1_setFeud_8 : decode cX1_setFeud 8 = .ok (.iload_n 1, 1) := by decide +kernel
theorem dX1_setFeud_9 : decode cX1_setFeud 9 = .ok (.dup2, 1) := by decide +kernel
theorem dX1_setFeud_10 : decode cX1_setFeud 10 = .ok (.iaload, 1) := by decide +kernel
theorem dX1_setFeud_11 : decode cX1_setFeud 11 = .ok (.iconst 1, 1) := by decide +kernel
theorem dX1_setFeud_12 : decode cX1_setFeud 12 = .ok (.iload_n 2, 1) := by decide +kernel
theorem dX1_setFeud_13 : decode cX1_setFeud 13 = .ok (.ishl, 1) := by decide +kernel
theorem dX1_setFeud_14 : decode cX1_setFeud 14 = .ok (.ior, 1) := by decide +kernel
theorem dX1_setFeud_15 : decode cX1_setFeud 15 = .ok (.iastore, 1) := by decide +kernel
theorem dX1_setFeud_16 : decode cX1_setFeud 16 = .ok (.aload_n 0, 1) := by decide +kernel
theorem dX1_setFeud_17 : decode cX1_setFeud 17 = .ok (.getfield 21, 3) := by decide +kernel
theorem dX1_setFeud_20 : decode cX1_setFeud 20 = .ok (.iload_n 2, 1) := by decide +kernel
theorem dX1_setFeud_21 : decode cX1_setFeud 21 = .ok (.dup2, 1) := by decide +kernel
theorem dX1_setFeud_22 : decode cX1_setFeud 22 = .ok (.iaload, 1) := by decide +kernel
theorem dX1_setFeud_23 : decode cX1_setFeud 23 = .ok (.iconst 1, 1) := by decide +kernel
theorem dX1_setFeud_24 : decode cX1_setFeud 24 = .ok (.iload_n 1, 1) := by decide +kernel
theorem dX1_setFeud_25 : decode cX1_setFeud 25 = .ok (.ishl, 1) := by decide +kernel
theorem dX1_setFeud_26 : decode cX1_setFeud 26 = .ok (.ior, 1) := by decide +kernel
theorem dX1_setFeud_27 : decode cX1_setFeud 27 = .ok (.iastore, 1) := by decide +kernel
theorem dX1_setFeud_28 : decode cX1_setFeud 28 = .ok (.goto 31, 3) := by decide +kernel
theorem dX1_setFeud_31 : decode cX1_setFeud 31 = .ok (.aload_n 0, 1) := by decide +kernel
theorem dX1_setFeud_32 : decode cX1_setFeud 32 = .ok (.getfield 21, 3) := by decide +kernel
theorem dX1_setFeud_35 : decode cX1_setFeud 35 = .ok (.iload_n 1, 1) := by decide +kernel
theorem dX1_setFeud_36 : decode cX1_setFeud 36 = .ok (.dup2, 1) := by decide +kernel
theorem dX1_setFeud_37 : decode cX1_setFeud 37 = .ok (.iaload, 1) := by decide +kernel
theorem dX1_setFeud_38 : decode cX1_setFeud 38 = .ok (.iconst 1, 1) := by decide +kernel
theorem dX1_setFeud_39 : decode cX1_setFeud 39 = .ok (.iload_n 2, 1) := by decide +kernel
theorem dX1_setFeud_40 : decode cX1_setFeud 40 = .ok (.ishl, 1) := by decide +kernel
theorem dX1_setFeud_41 : decode cX1_setFeud 41 = .ok (.iconst (-1), 1) := by decide +kernel
theorem dX1_setFeud_42 : decode cX1_setFeud 42 = .ok (.ixor, 1) := by decide +kernel
theorem dX1_setFeud_43 : decode cX1_setFeud 43 = .ok (.iand, 1) := by decide +kernel
theorem dX1_setFeud_44 : decode cX1_setFeud 44 = .ok (.iastore, 1) := by decide +kernel
theorem dX1_setFeud_45 : decode cX1_setFeud 45 = .ok (.aload_n 0, 1) := by decide +kernel
theorem dX1_setFeud_46 : decode cX1_setFeud 46 = .ok (.getfield 21, 3) := by decide +kernel
theorem dX1_setFeud_49 : decode cX1_setFeud 49 = .ok (.iload_n 2, 1) := by decide +kernel
theorem dX1_setFeud_50 : decode cX1_setFeud 50 = .ok (.dup2, 1) := by decide +kernel
theorem dX1_setFeud_51 : decode cX1_setFeud 51 = .ok (.iaload, 1) := by decide +kernel
theorem dX1_setFeud_52 : decode cX1_setFeud 52 = .ok (.iconst 1, 1) := by decide +kernel
theorem dX1_setFeud_53 : decode cX1_setFeud 53 = .ok (.iload_n 1, 1) := by decide +kernel
theorem dX1_setFeud_54 : decode cX1_setFeud 54 = .ok (.ishl, 1) := by decide +kernel
theorem dX1_setFeud_55 : decode cX1_setFeud 55 = .ok (.iconst (-1), 1) := by decide +kernel
theorem dX1_setFeud_56 : decode cX1_setFeud 56 = .ok (.ixor, 1) := by decide +kernel
theorem dX1_setFeud_57 : decode cX1_setFeud 57 = .ok (.iand, 1) := by decide +kernel
theorem dX1_setFeud_58 : decode cX1_setFeud 58 = .ok (.iastore, 1) := by decide +kernel
theorem dX1_setFeud_59 : decode cX1_setFeud 59 = .ok (.return_, 1) := by decide +kernel
theorem dX1_pay_0 : decode cX1_pay 0 = .ok (.aload_n 0, 1) := by decide +kernel
theorem dX1_pay_1 : decode cX1_pay 1 = .ok (.getfield 18, 3) := by decide +kernel
theorem dX1_pay_4 : decode cX1_pay 4 = .ok (.iload_n 1, 1) := by decide +kernel
theorem dX1_pay_5 : decode cX1_pay 5 = .ok (.iaload, 1) := by decide +kernel
theorem dX1_pay_6 : decode cX1_pay 6 = .ok (.iload_n 3, 1) := by decide +kernel
theorem dX1_pay_7 : decode cX1_pay 7 = .ok (.if_icmp .ge 5, 3) := by decide +kernel
theorem dX1_pay_10 : decode cX1_pay 10 = .ok (.iconst 0, 1) := by decide +kernel
theorem dX1_pay_11 : decode cX1_pay 11 = .ok (.ireturn, 1) := by decide +kernel
theorem dX1_pay_12 : decode cX1_pay 12 = .ok (.aload_n 0, 1) := by decide +kernel
theorem dX1_pay_13 : decode cX1_pay 13 = .ok (.getfield 18, 3) := by decide +kernel
theorem dX1_pay_16 : decode cX1_pay 16 = .ok (.iload_n 1, 1) := by decide +kernel
theorem dX1_pay_17 : decode cX1_pay 17 = .ok (.dup2, 1) := by decide +kernel
theorem dX1_pay_18 : decode cX1_pay 18 = .ok (.iaload, 1) := by decide +kernel
theorem dX1_pay_19 : decode cX1_pay 19 = .ok (.iload_n 3, 1) := by decide +kernel
theorem dX1_pay_20 : decode cX1_pay 20 = .ok (.isub, 1) := by decide +kernel
theorem dX1_pay_21 : decode cX1_pay 21 = .ok (.iastore, 1) := by decide +kernel
theorem dX1_pay_22 : decode cX1_pay 22 = .ok (.aload_n 0, 1) := by decide +kernel
theorem dX1_pay_23 : decode cX1_pay 23 = .ok (.getfield 18, 3) := by decide +kernel
theorem dX1_pay_26 : decode cX1_pay 26 = .ok (.iload_n 2, 1) := by decide +kernel
theorem dX1_pay_27 : decode cX1_pay 27 = .ok (.dup2, 1) := by decide +kernel
theorem dX1_pay_28 : decode cX1_pay 28 = .ok (.iaload, 1) := by decide +kernel
theorem dX1_pay_29 : decode cX1_pay 29 = .ok (.iload_n 3, 1) := by decide +kernel
theorem dX1_pay_30 : decode cX1_pay 30 = .ok (.iadd, 1) := by decide +kernel
theorem dX1_pay_31 : decode cX1_pay 31 = .ok (.iastore, 1) := by decide +kernel
theorem dX1_pay_32 : decode cX1_pay 32 = .ok (.iconst 1, 1) := by decide +kernel
theorem dX1_pay_33 : decode cX1_pay 33 = .ok (.ireturn, 1) := by decide +kernel
theorem dX1_allFeuds_0 : decode cX1_allFeuds 0 = .ok (.iconst 0, 1) := by decide +kernel
theorem dX1_allFeuds_1 : decode cX1_allFeuds 1 = .ok (.istore_n 1, 1) := by decide +kernel
theorem dX1_allFeuds_2 : decode cX1_allFeuds 2 = .ok (.iconst 0, 1) := by decide +kernel
theorem dX1_allFeuds_3 : decode cX1_allFeuds 3 = .ok (.istore_n 2, 1) := by decide +kernel
theorem dX1_allFeuds_4 : decode cX1_allFeuds 4 = .ok (.iload_n 2, 1) := by decide +kernel
theorem dX1_allFeuds_5 : decode cX1_allFeuds 5 = .ok (.aload_n 0, 1) := by decide +kernel
theorem dX1_allFeuds_6 : decode cX1_allFeuds 6 = .ok (.getfield 24, 3) := by decide +kernel
theorem dX1_allFeuds_9 : decode cX1_allFeuds 9 = .ok (.if_icmp .ge 21, 3) := by decide +kernel
theorem dX1_allFeuds_12 : decode cX1_allFeuds 12 = .ok (.iload_n 1, 1) := by decide +kernel
theorem dX1_allFeuds_13 : decode cX1_allFeuds 13 = .ok (.aload_n 0, 1) := by decide +kernel
theorem dX1_allFeuds_14 : decode cX1_allFeuds 14 = .ok (.getfield 21, 3) := by decide +kernel
theorem dX1_allFeuds_17 : decode cX1_allFeuds 17 = .ok (.iload_n 2, 1) := by decide +kernel
theorem dX1_allFeuds_18 : decode cX1_allFeuds 18 = .ok (.iaload, 1) := by decide +kernel
theorem dX1_allFeuds_19 : decode cX1_allFeuds 19 = .ok (.invokestatic 28, 3) := by decide +kernel
theorem dX1_allFeuds_22 : decode cX1_allFeuds 22 = .ok (.iadd, 1) := by decide +kernel
theorem dX1_allFeuds_23 : decode cX1_allFeuds 23 = .ok (.istore_n 1, 1) := by decide +kernel
theorem dX1_allFeuds_24 : decode cX1_allFeuds 24 = .ok (.iinc 2 1, 3) := by decide +kernel
theorem dX1_allFeuds_27 : decode cX1_allFeuds 27 = .ok (.goto (-23), 3) := by decide +kernel
theorem dX1_allFeuds_30 : decode cX1_allFeuds 30 = .ok (.iload_n 1, 1) := by decide +kernel
theorem dX1_allFeuds_31 : decode cX1_allFeuds 31 = .ok (.iconst 2, 1) := by decide +kernel
theorem dX1_allFeuds_32 : decode cX1_allFeuds 32 = .ok (.idiv, 1) := by decide +kernel
theorem dX1_allFeuds_33 : decode cX1_allFeuds 33 = .ok (.ireturn, 1) := by decide +kernel
theorem dX1_allCoins_0 : decode cX1_allCoins 0 = .ok (.iconst 0, 1) := by decide +kernel
theorem dX1_allCoins_1 : decode cX1_allCoins 1 = .ok (.istore_n 1, 1) := by decide +kernel
theorem dX1_allCoins_2 : decode cX1_allCoins 2 = .ok (.iconst 0, 1) := by decide +kernel
theorem dX1_allCoins_3 : decode cX1_allCoins 3 = .ok (.istore_n 2, 1) := by decide +kernel
theorem dX1_allCoins_4 : decode cX1_allCoins 4 = .ok (.iload_n 2, 1) := by decide +kernel
theorem dX1_allCoins_5 : decode cX1_allCoins 5 = .ok (.aload_n 0, 1) := by decide +kernel
theorem dX1_allCoins_6 : decode cX1_allCoins 6 = .ok (.getfield 24, 3) := by decide +kernel
theorem dX1_allCoins_9 : decode cX1_allCoins 9 = .ok (.if_icmp .ge 18, 3) := by decide +kernel
theorem dX1_allCoins_12 : decode cX1_allCoins 12 = .ok (.iload_n 1, 1) := by decide +kernel
theorem dX1_allCoins_13 : decode cX1_allCoins 13 = .ok (.aload_n 0, 1) := by decide +kernel
theorem dX1_allCoins_14 : decode cX1_allCoins 14 = .ok (.getfield 18, 3) := by decide +kernel
theorem dX1_allCoins_17 : decode cX1_allCoins 17 = .ok (.iload_n 2, 1) := by decide +kernel
theorem dX1_allCoins_18 : decode cX1_allCoins 18 = .ok (.iaload, 1) := by decide +kernel
theorem dX1_allCoins_19 : decode cX1_allCoins 19 = .ok (.iadd, 1) := by decide +kernel
theorem dX1_allCoins_20 : decode cX1_allCoins 20 = .ok (.istore_n 1, 1) := by decide +kernel
theorem dX1_allCoins_21 : decode cX1_allCoins 21 = .ok (.iinc 2 1, 3) := by decide +kernel
theorem dX1_allCoins_24 : decode cX1_allCoins 24 = .ok (.goto (-20), 3) := by decide +kernel
theorem dX1_allCoins_27 : decode cX1_allCoins 27 = .ok (.iload_n 1, 1) := by decide +kernel
theorem dX1_allCoins_28 : decode cX1_allCoins 28 = .ok (.ireturn, 1) := by decide +kernel
theorem dX1_takeFrom_0 : decode cX1_takeFrom 0 = .ok (.aload_n 0, 1) := by decide +kernel
theorem dX1_takeFrom_1 : decode cX1_takeFrom 1 = .ok (.aload_n 1, 1) := by decide +kernel
theorem dX1_takeFrom_2 : decode cX1_takeFrom 2 = .ok (.getfield 24, 3) := by decide +kernel
theorem dX1_takeFrom_5 : decode cX1_takeFrom 5 = .ok (.putfield 24, 3) := by decide +kernel
theorem dX1_takeFrom_8 : decode cX1_takeFrom 8 = .ok (.aload_n 1, 1) := by decide +kernel
theorem dX1_takeFrom_9 : decode cX1_takeFrom 9 = .ok (.getfield 9, 3) := by decide +kernel
theorem dX1_takeFrom_12 : decode cX1_takeFrom 12 = .ok (.aload_n 0, 1) := by decide +kernel
theorem dX1_takeFrom_13 : decode cX1_takeFrom 13 = .ok (.getfield 9, 3) := by decide +kernel
theorem dX1_takeFrom_16 : decode cX1_takeFrom 16 = .ok (.invokestatic 34, 3) := by decide +kernel
theorem dX1_takeFrom_19 : decode cX1_takeFrom 19 = .ok (.aload_n 1, 1) := by decide +kernel
theorem dX1_takeFrom_20 : decode cX1_takeFrom 20 = .ok (.getfield 15, 3) := by decide +kernel
theorem dX1_takeFrom_23 : decode cX1_takeFrom 23 = .ok (.aload_n 0, 1) := by decide +kernel
theorem dX1_takeFrom_24 : decode cX1_takeFrom 24 = .ok (.getfield 15, 3) := by decide +kernel
theorem dX1_takeFrom_27 : decode cX1_takeFrom 27 = .ok (.invokestatic 34, 3) := by decide +kernel
theorem dX1_takeFrom_30 : decode cX1_takeFrom 30 = .ok (.aload_n 1, 1) := by decide +kernel
theorem dX1_takeFrom_31 : decode cX1_takeFrom 31 = .ok (.getfield 18, 3) := by decide +kernel
theorem dX1_takeFrom_34 : decode cX1_takeFrom 34 = .ok (.aload_n 0, 1) := by decide +kernel
theorem dX1_takeFrom_35 : decode cX1_takeFrom 35 = .ok (.getfield 18, 3) := by decide +kernel
theorem dX1_takeFrom_38 : decode cX1_takeFrom 38 = .ok (.invokestatic 34, 3) := by decide +kernel
theorem dX1_takeFrom_41 : decode cX1_takeFrom 41 = .ok (.aload_n 1, 1) := by decide +kernel
theorem dX1_takeFrom_42 : decode cX1_takeFrom 42 = .ok (.getfield 21, 3) := by decide +kernel
theorem dX1_takeFrom_45 : decode cX1_takeFrom 45 = .ok (.aload_n 0, 1) := by decide +kernel
theorem dX1_takeFrom_46 : decode cX1_takeFrom 46 = .ok (.getfield 21, 3) := by decide +kernel
theorem dX1_takeFrom_49 : decode cX1_takeFrom 49 = .ok (.invokestatic 34, 3) := by decide +kernel
theorem dX1_takeFrom_52 : decode cX1_takeFrom 52 = .ok (.return_, 1) := by decide +kernel
theorem dX2_init_0 : decode cX2_init 0 = .ok (.aload_n 0, 1) := by decide +kernel
theorem dX2_init_1 : decode cX2_init 1 = .ok (.invokespecial 3, 3) := by decide +kernel
theorem dX2_init_4 : decode cX2_init 4 = .ok (.aload_n 0, 1) := by decide +kernel
theorem dX2_init_5 : decode cX2_init 5 = .ok (.bipush 11, 2) := by decide +kernel
theorem dX2_init_7 : decode cX2_init 7 = .ok (.newarray .int, 2) := by decide +kernel
theorem dX2_init_9 : decode cX2_init 9 = .ok (.putfield 9, 3) := by decide +kernel
theorem dX2_init_12 : decode cX2_init 12 = .ok (.aload_n 0, 1) := by decide +kernel
theorem dX2_init_13 : decode cX2_init 13 = .ok (.aload_n 1, 1) := by decide +kernel
theorem dX2_init_14 : decode cX2_init 14 = .ok (.putfield 15, 3) := by decide +kernel
theorem dX2_init_17 : decode cX2_init 17 = .ok (.aload_n 0, 1) := by decide +kernel
theorem dX2_init_18 : decode cX2_init 18 = .ok (.aload_n 2, 1) := by decide +kernel
theorem dX2_init_19 : decode cX2_init 19 = .ok (.putfield 19, 3) := by decide +kernel
theorem dX2_init_22 : decode cX2_init 22 = .ok (.return_, 1) := by decide +kernel
theorem dX2_face_0 : decode cX2_face 0 = .ok (.aload_n 0, 1) := by decide +kernel
theorem dX2_face_1 : decode cX2_face 1 = .ok (.iload_n 1, 1) := by decide +kernel
theorem dX2_face_2 : decode cX2_face 2 = .ok (.putfield 23, 3) := by decide +kernel
theorem dX2_face_5 : decode cX2_face 5 = .ok (.aload_n 0, 1) := by decide +kernel
theorem dX2_face_6 : decode cX2_face 6 = .ok (.iload_n 2, 1) := by decide +kernel
theorem dX2_face_7 : decode cX2_face 7 = .ok (.putfield 27, 3) := by decide +kernel
theorem dX2_face_10 : decode cX2_face 10 = .ok (.aload_n 0, 1) := by decide +kernel
theorem dX2_face_11 : decode cX2_face 11 = .ok (.getfield 15, 3) := by decide +kernel
theorem dX2_face_14 : decode cX2_face 14 = .ok (.getfield 30, 3) := by decide +kernel
theorem dX2_face_17 : decode cX2_face 17 = .ok (.astore_n 3, 1) := by decide +kernel
theorem dX2_face_18 : decode cX2_face 18 = .ok (.aload_n 0, 1) := by decide +kernel
theorem dX2_face_19 : decode cX2_face 19 = .ok (.getfield 15, 3) := by decide +kernel
theorem dX2_face_22 : decode cX2_face 22 = .ok (.getfield 36, 3) := by decide +kernel
theorem dX2_face_25 : decode cX2_face 25 = .ok (.astore 4, 2) := by decide +kernel
theorem dX2_face_27 : decode cX2_face 27 = .ok (.aload_n 3, 1) := by decide +kernel
theorem dX2_face_28 : decode cX2_face 28 = .ok (.getfield 40, 3) := by decide +kernel
theorem dX2_face_31 : decode cX2_face 31 = .ok (.aload_n 0, 1) := by decide +kernel
theorem dX2_face_32 : decode cX2_face 32 = .ok (.getfield 23, 3) := by decide +kernel
theorem dX2_face_35 : decode cX2_face 35 = .ok (.iaload, 1) := by decide +kernel
theorem dX2_face_36 : decode cX2_face 36 = .ok (.istore 5, 2) := by decide +kernel
theorem dX2_face_38 : decode cX2_face 38 = .ok (.aload_n 3, 1) := by decide +kernel
theorem dX2_face_39 : decode cX2_face 39 = .ok (.getfield 40, 3) := by decide +kernel
theorem dX2_face_42 : decode cX2_face 42 = .ok (.aload_n 0, 1) := by decide +kernel
theorem dX2_face_43 : decode cX2_face 43 = .ok (.getfield 27, 3) := by decide +kernel
theorem dX2_face_46 : decode cX2_face 46 = .ok (.iaload, 1) := by decide +kernel
theorem dX2_face_47 : decode cX2_face 47 = .ok (.istore 6, 2) := by decide +kernel
theorem dX2_face_49 : decode cX2_face 49 = .ok (.aload_n 3, 1) := by decide +kernel
theorem dX2_face_50 : decode cX2_face 50 = .ok (.getfield 45, 3) := by decide +kernel
theorem dX2_face_53 : decode cX2_face 53 = .ok (.aload_n 0, 1) := by decide +kernel
theorem dX2_face_54 : decode cX2_face 54 = .ok (.getfield 23, 3) := by decide +kernel
theorem dX2_face_57 : decode cX2_face 57 = .ok (.iaload, 1) := by decide +kernel
theorem dX2_face_58 : decode cX2_face 58 = .ok (.aload_n 3, 1) := by decide +kernel
theorem dX2_face_59 : decode cX2_face 59 = .ok (.getfield 45, 3) := by decide +kernel
theorem dX2_face_62 : decode cX2_face 62 = .ok (.aload_n 0, 1) := by decide +kernel
theorem dX2_face_63 : decode cX2_face 63 = .ok (.getfield 27, 3) := by decide +kernel
theorem dX2_face_66 : decode cX2_face 66 = .ok (.iaload, 1) := by decide +kernel
theorem dX2_face_67 : decode cX2_face 67 = .ok (.isub, 1) := by decide +kernel
theorem dX2_face_68 : decode cX2_face 68 = .ok (.invokestatic 48, 3) := by decide +kernel
theorem dX2_face_71 : decode cX2_face 71 = .ok (.istore 7, 2) := by decide +kernel
theorem dX2_face_73 : decode cX2_face 73 = .ok (.aload_n 0, 1) := by decide +kernel
theorem dX2_face_74 : decode cX2_face 74 = .ok (.getfield 9, 3) := by decide +kernel
theorem dX2_face_77 : decode cX2_face 77 = .ok (.iconst 0, 1) := by decide +kernel
theorem dX2_face_78 : decode cX2_face 78 = .ok (.aload 4, 2) := by decide +kernel
theorem dX2_face_80 : decode cX2_face 80 = .ok (.getfield 54, 3) := by decide +kernel
theorem dX2_face_83 : decode cX2_face 83 = .ok (.iload 5, 2) := by decide +kernel
theorem dX2_face_85 : decode cX2_face 85 = .ok (.iaload, 1) := by decide +kernel
theorem dX2_face_86 : decode cX2_face 86 = .ok (.aload 4, 2) := by decide +kernel
theorem dX2_face_88 : decode cX2_face 88 = .ok (.getfield 54, 3) := by decide +kernel
theorem dX2_face_91 : decode cX2_face 91 = .ok (.iload 6, 2) := by decide +kernel
theorem dX2_face_93 : decode cX2_face 93 = .ok (.iaload, 1) := by decide +kernel
theorem dX2_face_94 : decode cX2_face 94 = .ok (.if_icmp .ne 7, 3) := by decide +kernel
theorem dX2_face_97 : decode cX2_face 97 = .ok (.iconst 1, 1) := by decide +kernel
theorem dX2_face_98 : decode cX2_face 98 = .ok (.goto 4, 3) := by decide +kernel
theorem dX2_face_101 : decode cX2_face 101 = .ok (.iconst 0, 1) := by decide +kernel
theorem dX2_face_102 : decode cX2_face 102 = .ok (.invokestatic 59, 3) := by decide +kernel
theorem dX2_face_105 : decode cX2_face 105 = .ok (.iastore, 1) := by decide +kernel
theorem dX2_face_106 : decode cX2_face 106 = .ok (.aload_n 0, 1) := by decide +kernel
theorem dX2_face_107 : decode cX2_face 107 = .ok (.getfield 9, 3) := by decide +kernel
theorem dX2_face_110 : decode cX2_face 110 = .ok (.iconst 1, 1) := by decide +kernel
theorem dX2_face_111 : decode cX2_face 111 = .ok (.aload 4, 2) := by decide +kernel
theorem dX2_face_113 : decode cX2_face 113 = .ok (.getfield 63, 3) := by decide +kernel
theorem dX2_face_116 : decode cX2_face 116 = .ok (.iload 5, 2) := by decide +kernel
theorem dX2_face_118 : decode cX2_face 118 = .ok (.iaload, 1) := by decide +kernel
theorem dX2_face_119 : decode cX2_face 119 = .ok (.aload 4, 2) := by decide +kernel
theorem dX2_face_121 : decode cX2_face 121 = .ok (.getfield 63, 3) := by decide +kernel
theorem dX2_face_124 : decode cX2_face 124 = .ok (.iload 6, 2) := by decide +kernel
theorem dX2_face_126 : decode cX2_face 126 = .ok (.iaload, 1) := by decide +kernel
theorem dX2_face_127 : decode cX2_face 127 = .ok (.if_icmp .ne 7, 3) := by decide +kernel
theorem dX2_face_130 : decode cX2_face 130 = .ok (.iconst 1, 1) := by decide +kernel
theorem dX2_face_131 : decode cX2_face 131 = .ok (.goto 4, 3) := by decide +kernel
theorem dX2_face_134 : decode cX2_face 134 = .ok (.iconst 0, 1) := by decide +kernel
theorem dX2_face_135 : decode cX2_face 135 = .ok (.invokestatic 59, 3) := by decide +kernel
theorem dX2_face_138 : decode cX2_face 138 = .ok (.iastore, 1) := by decide +kernel
theorem dX2_face_139 : decode cX2_face 139 = .ok (.aload_n 0, 1) := by decide +kernel
theorem dX2_face_140 : decode cX2_face 140 = .ok (.getfield 9, 3) := by decide +kernel
theorem dX2_face_143 : decode cX2_face 143 = .ok (.iconst 2, 1) := by decide +kernel
theorem dX2_face_144 : decode cX2_face 144 = .ok (.aload 4, 2) := by decide +kernel
theorem dX2_face_146 : decode cX2_face 146 = .ok (.iload 5, 2) := by decide +kernel
theorem dX2_face_148 : decode cX2_face 148 = .ok (.iload 6, 2) := by decide +kernel
theorem dX2_face_150 : decode cX2_face 150 = .ok (.invokevirtual 66, 3) := by decide +kernel
theorem dX2_face_153 : decode cX2_face 153 = .ok (.invokestatic 59, 3) := by decide +kernel
theorem dX2_face_156 : decode cX2_face 156 = .ok (.iastore, 1) := by decide +kernel
theorem dX2_face_157 : decode cX2_face 157 = .ok (.aload_n 0, 1) := by decide +kernel
theorem dX2_face_158 : decode cX2_face 158 = .ok (.getfield 9, 3) := by decide +kernel
theorem dX2_face_161 : decode cX2_face 161 = .ok (.iconst 3, 1) := by decide +kernel
theorem dX2_face_162 : decode cX2_face 162 = .ok (.aload_n 3, 1) := by decide +kernel
theorem dX2_face_163 : decode cX2_face 163 = .ok (.getfield 70, 3) := by decide +kernel
theorem dX2_face_166 : decode cX2_face 166 = .ok (.aload_n 0, 1) := by decide +kernel
theorem dX2_face_167 : decode cX2_face 167 = .ok (.getfield 23, 3) := by decide +kernel
theorem dX2_face_170 : decode cX2_face 170 = .ok (.baload, 1) := by decide +kernel
theorem dX2_face_171 : decode cX2_face 171 = .ok (.invokestatic 59, 3) := by decide +kernel
theorem dX2_face_174 : decode cX2_face 174 = .ok (.iastore, 1) := by decide +kernel
theorem dX2_face_175 : decode cX2_face 175 = .ok (.aload_n 0, 1) := by decide +kernel
theorem dX2_face_176 : decode cX2_face 176 = .ok (.getfield 9, 3) := by decide +kernel
theorem dX2_face_179 : decode cX2_face 179 = .ok (.iconst 4, 1) := by decide +kernel
theorem dX2_face_180 : decode cX2_face 180 = .ok (.aload_n 3, 1) := by decide +kernel
theorem dX2_face_181 : decode cX2_face 181 = .ok (.aload_n 0, 1) := by decide +kernel
theorem dX2_face_182 : decode cX2_face 182 = .ok (.getfield 23, 3) := by decide +kernel
theorem dX2_face_185 : decode cX2_face 185 = .ok (.invokevirtual 74, 3) := by decide +kernel
theorem dX2_face_188 : decode cX2_face 188 = .ok (.invokestatic 59, 3) := by decide +kernel
theorem dX2_face_191 : decode cX2_face 191 = .ok (.iastore, 1) := by decide +kernel
theorem dX2_face_192 : decode cX2_face 192 = .ok (.aload_n 0, 1) := by decide +kernel
theorem dX2_face_193 : decode cX2_face 193 = .ok (.getfield 9, 3) := by decide +kernel
theorem dX2_face_196 : decode cX2_face 196 = .ok (.iconst 5, 1) := by decide +kernel
theorem dX2_face_197 : decode cX2_face 197 = .ok (.iload 7, 2) := by decide +kernel
theorem dX2_face_199 : decode cX2_face 199 = .ok (.bipush 8, 2) := by decide +kernel
theorem dX2_face_201 : decode cX2_face 201 = .ok (.iload 7, 2) := by decide +kernel
theorem dX2_face_203 : decode cX2_face 203 = .ok (.isub, 1) := by decide +kernel
theorem dX2_face_204 : decode cX2_face 204 = .ok (.invokestatic 78, 3) := by decide +kernel
theorem dX2_face_207 : decode cX2_face 207 = .ok (.iastore, 1) := by decide +kernel
theorem dX2_face_208 : decode cX2_face 208 = .ok (.aload_n 0, 1) := by decide +kernel
theorem dX2_face_209 : decode cX2_face 209 = .ok (.getfield 9, 3) := by decide +kernel
theorem dX2_face_212 : decode cX2_face 212 = .ok (.bipush 7, 2) := by decide +kernel
theorem dX2_face_214 : decode cX2_face 214 = .ok (.aload_n 0, 1) := by decide +kernel
theorem dX2_face_215 : decode cX2_face 215 = .ok (.getfield 15, 3) := by decide +kernel
theorem dX2_face_218 : decode cX2_face 218 = .ok (.getfield 82, 3) := by decide +kernel
theorem dX2_face_221 : decode cX2_face 221 = .ok (.aload_n 3, 1) := by decide +kernel
theorem dX2_face_222 : decode cX2_face 222 = .ok (.getfield 85, 3) := by decide +kernel
theorem dX2_face_225 : decode cX2_face 225 = .ok (.aload_n 0, 1) := by decide +kernel
theorem dX2_face_226 : decode cX2_face 226 = .ok (.getfield 27, 3) := by decide +kernel
theorem dX2_face_229 : decode cX2_face 229 = .ok (.iaload, 1) := by decide +kernel
theorem dX2_face_230 : decode cX2_face 230 = .ok (.isub, 1) := by decide +kernel
theorem dX2_face_231 : decode cX2_face 231 = .ok (.iastore, 1) := by decide +kernel
theorem dX2_face_232 : decode cX2_face 232 = .ok (.aload_n 0, 1) := by decide +kernel
theorem dX2_face_233 : decode cX2_face 233 = .ok (.getfield 9, 3) := by decide +kernel
theorem dX2_face_236 : decode cX2_face 236 = .ok (.bipush 8, 2) := by decide +kernel
theorem dX2_face_238 : decode cX2_face 238 = .ok (.aload_n 0, 1) := by decide +kernel
theorem dX2_face_239 : decode cX2_face 239 = .ok (.getfield 15, 3) := by decide +kernel
theorem dX2_face_242 : decode cX2_face 242 = .ok (.getfield 82, 3) := by decide +kernel
theorem dX2_face_245 : decode cX2_face 245 = .ok (.aload_n 3, 1) := by decide +kernel
theorem dX2_face_246 : decode cX2_face 246 = .ok (.getfield 85, 3) := by decide +kernel
theorem dX2_face_249 : decode cX2_face 249 = .ok (.aload_n 0, 1) := by decide +kernel
theorem dX2_face_250 : decode cX2_face 250 = .ok (.getfield 23, 3) := by decide +kernel
theorem dX2_face_253 : decode cX2_face 253 = .ok (.iaload, 1) := by decide +kernel
theorem dX2_face_254 : decode cX2_face 254 = .ok (.isub, 1) := by decide +kernel
theorem dX2_face_255 : decode cX2_face 255 = .ok (.iastore, 1) := by decide +kernel
theorem dX2_face_256 : decode cX2_face 256 = .ok (.aload_n 0, 1) := by decide +kernel
theorem dX2_face_257 : decode cX2_face 257 = .ok (.getfield 9, 3) := by decide +kernel
theorem dX2_face_260 : decode cX2_face 260 = .ok (.bipush 9, 2) := by decide +kernel
theorem dX2_face_262 : decode cX2_face 262 = .ok (.aload_n 3, 1) := by decide +kernel
theorem dX2_face_263 : decode cX2_face 263 = .ok (.getfield 85, 3) := by decide +kernel
theorem dX2_face_266 : decode cX2_face 266 = .ok (.aload_n 0, 1) := by decide +kernel
theorem dX2_face_267 : decode cX2_face 267 = .ok (.getfield 23, 3) := by decide +kernel
theorem dX2_face_270 : decode cX2_face 270 = .ok (.iaload, 1) := by decide +kernel
theorem dX2_face_271 : decode cX2_face 271 = .ok (.aload_n 3, 1) := by decide +kernel
theorem dX2_face_272 : decode cX2_face 272 = .ok (.getfield 85, 3) := by decide +kernel
theorem dX2_face_275 : decode cX2_face 275 = .ok (.aload_n 0, 1) := by decide +kernel
theorem dX2_face_276 : decode cX2_face 276 = .ok (.getfield 27, 3) := by decide +kernel
theorem dX2_face_279 : decode cX2_face 279 = .ok (.iaload, 1) := by decide +kernel
theorem dX2_face_280 : decode cX2_face 280 = .ok (.isub, 1) := by decide +kernel
theorem dX2_face_281 : decode cX2_face 281 = .ok (.invokestatic 48, 3) := by decide +kernel
theorem dX2_face_284 : decode cX2_face 284 = .ok (.iastore, 1) := by decide +kernel
theorem dX2_face_285 : decode cX2_face 285 = .ok (.aload_n 0, 1) := by decide +kernel
theorem dX2_face_286 : decode cX2_face 286 = .ok (.getfield 9, 3) := by decide +kernel
theorem dX2_face_289 : decode cX2_face 289 = .ok (.bipush 10, 2) := by decide +kernel
theorem dX2_face_291 : decode cX2_face 291 = .ok (.aload 4, 2) := by decide +kernel
theorem dX2_face_293 : decode cX2_face 293 = .ok (.getfield 88, 3) := by decide +kernel
theorem dX2_face_296 : decode cX2_face 296 = .ok (.iload 6, 2) := by decide +kernel
theorem dX2_face_298 : decode cX2_face 298 = .ok (.iaload, 1) := by decide +kernel
theorem dX2_face_299 : decode cX2_face 299 = .ok (.iastore, 1) := by decide +kernel
theorem dX2_face_300 : decode cX2_face 300 = .ok (.return_, 1) := by decide +kernel
theorem dX2_readBy_0 : decode cX2_readBy 0 = .ok (.aload_n 1, 1) := by decide +kernel
theorem dX2_readBy_1 : decode cX2_readBy 1 = .ok (.invokevirtual 91, 3) := by decide +kernel
theorem dX2_readBy_4 : decode cX2_readBy 4 = .ok (.ifCond .eq 33, 3) := by decide +kernel
theorem dX2_readBy_7 : decode cX2_readBy 7 = .ok (.aload_n 0, 1) := by decide +kernel
theorem dX2_readBy_8 : decode cX2_readBy 8 = .ok (.getfield 9, 3) := by decide +kernel
theorem dX2_readBy_11 : decode cX2_readBy 11 = .ok (.bipush 6, 2) := by decide +kernel
theorem dX2_readBy_13 : decode cX2_readBy 13 = .ok (.aload_n 0, 1) := by decide +kernel
theorem dX2_readBy_14 : decode cX2_readBy 14 = .ok (.getfield 19, 3) := by decide +kernel
theorem dX2_readBy_17 : decode cX2_readBy 17 = .ok (.aload_n 0, 1) := by decide +kernel
theorem dX2_readBy_18 : decode cX2_readBy 18 = .ok (.getfield 23, 3) := by decide +kernel
theorem dX2_readBy_21 : decode cX2_readBy 21 = .ok (.aload_n 0, 1) := by decide +kernel
theorem dX2_readBy_22 : decode cX2_readBy 22 = .ok (.getfield 27, 3) := by decide +kernel
theorem dX2_readBy_25 : decode cX2_readBy 25 = .ok (.iload_n 2, 1) := by decide +kernel
theorem dX2_readBy_26 : decode cX2_readBy 26 = .ok (.aload_n 0, 1) := by decide +kernel
theorem dX2_readBy_27 : decode cX2_readBy 27 = .ok (.getfield 15, 3) := by decide +kernel
theorem dX2_readBy_30 : decode cX2_readBy 30 = .ok (.getfield 82, 3) := by decide +kernel
theorem dX2_readBy_33 : decode cX2_readBy 33 = .ok (.invokevirtual 97, 3) := by decide +kernel
theorem dX2_readBy_36 : decode cX2_readBy 36 = .ok (.iastore, 1) := by decide +kernel
theorem dX2_readBy_37 : decode cX2_readBy 37 = .ok (.aload_n 0, 1) := by decide +kernel
theorem dX2_readBy_38 : decode cX2_readBy 38 = .ok (.iconst (-1), 1) := by decide +kernel
theorem dX2_readBy_39 : decode cX2_readBy 39 = .ok (.putfield 103, 3) := by decide +kernel
theorem dX2_readBy_42 : decode cX2_readBy 42 = .ok (.aload_n 0, 1) := by decide +kernel
theorem dX2_readBy_43 : decode cX2_readBy 43 = .ok (.iconst 0, 1) := by decide +kernel
theorem dX2_readBy_44 : decode cX2_readBy 44 = .ok (.putfield 106, 3) := by decide +kernel
theorem dX2_readBy_47 : decode cX2_readBy 47 = .ok (.aload_n 0, 1) := by decide +kernel
theorem dX2_readBy_48 : decode cX2_readBy 48 = .ok (.iconst 0, 1) := by decide +kernel
theorem dX2_readBy_49 : decode cX2_readBy 49 = .ok (.putfield 109, 3) := by decide +kernel
theorem dX2_readBy_52 : decode cX2_readBy 52 = .ok (.iconst 0, 1) := by decide +kernel
theorem dX2_readBy_53 : decode cX2_readBy 53 = .ok (.istore_n 3, 1) := by decide +kernel
theorem dX2_readBy_54 : decode cX2_readBy 54 = .ok (.iload_n 3, 1) := by decide +kernel
theorem dX2_readBy_55 : decode cX2_readBy 55 = .ok (.aload_n 1, 1) := by decide +kernel
theorem dX2_readBy_56 : decode cX2_readBy 56 = .ok (.getfield 112, 3) := by decide +kernel
theorem dX2_readBy_59 : decode cX2_readBy 59 = .ok (.if_icmp .ge 27, 3) := by decide +kernel
theorem dX2_readBy_62 : decode cX2_readBy 62 = .ok (.aload_n 1, 1) := by decide +kernel
theorem dX2_readBy_63 : decode cX2_readBy 63 = .ok (.iload_n 3, 1) := by decide +kernel
theorem dX2_readBy_64 : decode cX2_readBy 64 = .ok (.aload_n 0, 1) := by decide +kernel
theorem dX2_readBy_65 : decode cX2_readBy 65 = .ok (.getfield 9, 3) := by decide +kernel
theorem dX2_readBy_68 : decode cX2_readBy 68 = .ok (.invokevirtual 115, 3) := by decide +kernel
theorem dX2_readBy_71 : decode cX2_readBy 71 = .ok (.ifCond .eq 9, 3) := by decide +kernel
theorem dX2_readBy_74 : decode cX2_readBy 74 = .ok (.aload_n 0, 1) := by decide +kernel
theorem dX2_readBy_75 : decode cX2_readBy 75 = .ok (.aload_n 1, 1) := by decide +kernel
theorem dX2_readBy_76 : decode cX2_readBy 76 = .ok (.iload_n 3, 1) := by decide +kernel
theorem dX2_readBy_77 : decode cX2_readBy 77 = .ok (.invokevirtual 119, 3) := by decide +kernel
theorem dX2_readBy_80 : decode cX2_readBy 80 = .ok (.iinc 3 1, 3) := by decide +kernel
theorem dX2_readBy_83 : decode cX2_readBy 83 = .ok (.goto (-29), 3) := by decide +kernel
theorem dX2_readBy_86 : decode cX2_readBy 86 = .ok (.return_, 1) := by decide +kernel
theorem dX2_obey_0 : decode cX2_obey 0 = .ok (.aload_n 1, 1) := by decide +kernel
theorem dX2_obey_1 : decode cX2_obey 1 = .ok (.getfield 123, 3) := by decide +kernel
theorem dX2_obey_4 : decode cX2_obey 4 = .ok (.iload_n 2, 1) := by decide +kernel
theorem dX2_obey_5 : decode cX2_obey 5 = .ok (.iaload, 1) := by decide +kernel
theorem dX2_obey_6 : decode cX2_obey 6 = .ok (.lookupswitch 67 #[(0, 26), (1, 49)], 26) := by decide +kernel
theorem dX2_obey_32 : decode cX2_obey 32 = .ok (.aload_n 0, 1) := by decide +kernel
theorem dX2_obey_33 : decode cX2_obey 33 = .ok (.aload_n 0, 1) := by decide +kernel
theorem dX2_obey_34 : decode cX2_obey 34 = .ok (.getfield 103, 3) := by decide +kernel
theorem dX2_obey_37 : decode cX2_obey 37 = .ok (.iconst (-1), 1) := by decide +kernel
theorem dX2_obey_38 : decode cX2_obey 38 = .ok (.if_icmp .ne 7, 3) := by decide +kernel
theorem dX2_obey_41 : decode cX2_obey 41 = .ok (.iload_n 2, 1) := by decide +kernel
theorem dX2_obey_42 : decode cX2_obey 42 = .ok (.goto 7, 3) := by decide +kernel
theorem dX2_obey_45 : decode cX2_obey 45 = .ok (.aload_n 0, 1) := by decide +kernel
theorem dX2_obey_46 : decode cX2_obey 46 = .ok (.getfield 103, 3) := by decide +kernel
theorem dX2_obey_49 : decode cX2_obey 49 = .ok (.putfield 103, 3) := by decide +kernel
theorem dX2_obey_52 : decode cX2_obey 52 = .ok (.goto 31, 3) := by decide +kernel
theorem dX2_obey_55 : decode cX2_obey 55 = .ok (.aload_n 0, 1) := by decide +kernel
theorem dX2_obey_56 : decode cX2_obey 56 = .ok (.dup, 1) := by decide +kernel
theorem dX2_obey_57 : decode cX2_obey 57 = .ok (.getfield 106, 3) := by decide +kernel
theorem dX2_obey_60 : decode cX2_obey 60 = .ok (.aload_n 1, 1) := by decide +kernel
theorem dX2_obey_61 : decode cX2_obey 61 = .ok (.getfield 126, 3) := by decide +kernel
theorem dX2_obey_64 : decode cX2_obey 64 = .ok (.iload_n 2, 1) := by decide +kernel
theorem dX2_obey_65 : decode cX2_obey 65 = .ok (.iaload, 1) := by decide +kernel
theorem dX2_obey_66 : decode cX2_obey 66 = .ok (.iadd, 1) := by decide +kernel
theorem dX2_obey_67 : decode cX2_obey 67 = .ok (.putfield 106, 3) := by decide +kernel
theorem dX2_obey_70 : decode cX2_obey 70 = .ok (.goto 13, 3) := by decide +kernel
theorem dX2_obey_73 : decode cX2_obey 73 = .ok (.aload_n 0, 1) := by decide +kernel
theorem dX2_obey_74 : decode cX2_obey 74 = .ok (.aload_n 1, 1) := by decide +kernel
theorem dX2_obey_75 : decode cX2_obey 75 = .ok (.getfield 126, 3) := by decide +kernel
theorem dX2_obey_78 : decode cX2_obey 78 = .ok (.iload_n 2, 1) := by decide +kernel
theorem dX2_obey_79 : decode cX2_obey 79 = .ok (.iaload, 1) := by decide +kernel
theorem dX2_obey_80 : decode cX2_obey 80 = .ok (.putfield 109, 3) := by decide +kernel
theorem dX2_obey_83 : decode cX2_obey 83 = .ok (.return_, 1) := by decide +kernel
theorem dX2_letsWed_0 : decode cX2_letsWed 0 = .ok (.aload_n 0, 1) := by decide +kernel
theorem dX2_letsWed_1 : decode cX2_letsWed 1 = .ok (.iload_n 1, 1) := by decide +kernel
theorem dX2_letsWed_2 : decode cX2_letsWed 2 = .ok (.iload_n 2, 1) := by decide +kernel
theorem dX2_letsWed_3 : decode cX2_letsWed 3 = .ok (.invokevirtual 129, 3) := by decide +kernel
theorem dX2_letsWed_6 : decode cX2_letsWed 6 = .ok (.aload_n 0, 1) := by decide +kernel
theorem dX2_letsWed_7 : decode cX2_letsWed 7 = .ok (.getfield 15, 3) := by decide +kernel
theorem dX2_letsWed_10 : decode cX2_letsWed 10 = .ok (.getfield 30, 3) := by decide +kernel
theorem dX2_letsWed_13 : decode cX2_letsWed 13 = .ok (.getfield 40, 3) := by decide +kernel
theorem dX2_letsWed_16 : decode cX2_letsWed 16 = .ok (.aload_n 0, 1) := by decide +kernel
theorem dX2_letsWed_17 : decode cX2_letsWed 17 = .ok (.getfield 23, 3) := by decide +kernel
theorem dX2_letsWed_20 : decode cX2_letsWed 20 = .ok (.iaload, 1) := by decide +kernel
theorem dX2_letsWed_21 : decode cX2_letsWed 21 = .ok (.istore_n 3, 1) := by decide +kernel
theorem dX2_letsWed_22 : decode cX2_letsWed 22 = .ok (.aload_n 0, 1) := by decide +kernel
theorem dX2_letsWed_23 : decode cX2_letsWed 23 = .ok (.getfield 15, 3) := by decide +kernel
theorem dX2_letsWed_26 : decode cX2_letsWed 26 = .ok (.getfield 30, 3) := by decide +kernel
theorem dX2_letsWed_29 : decode cX2_letsWed 29 = .ok (.getfield 40, 3) := by decide +kernel
theorem dX2_letsWed_32 : decode cX2_letsWed 32 = .ok (.aload_n 0, 1) := by decide +kernel
theorem dX2_letsWed_33 : decode cX2_letsWed 33 = .ok (.getfield 27, 3) := by decide +kernel
theorem dX2_letsWed_36 : decode cX2_letsWed 36 = .ok (.iaload, 1) := by decide +kernel
theorem dX2_letsWed_37 : decode cX2_letsWed 37 = .ok (.istore 4, 2) := by decide +kernel
theorem dX2_letsWed_39 : decode cX2_letsWed 39 = .ok (.aload_n 0, 1) := by decide +kernel
theorem dX2_letsWed_40 : decode cX2_letsWed 40 = .ok (.aload_n 0, 1) := by decide +kernel
theorem dX2_letsWed_41 : decode cX2_letsWed 41 = .ok (.getfield 15, 3) := by decide +kernel
theorem dX2_letsWed_44 : decode cX2_letsWed 44 = .ok (.iload_n 3, 1) := by decide +kernel
theorem dX2_letsWed_45 : decode cX2_letsWed 45 = .ok (.invokevirtual 133, 3) := by decide +kernel
theorem dX2_letsWed_48 : decode cX2_letsWed 48 = .ok (.aload_n 0, 1) := by decide +kernel
theorem dX2_letsWed_49 : decode cX2_letsWed 49 = .ok (.getfield 15, 3) := by decide +kernel
theorem dX2_letsWed_52 : decode cX2_letsWed 52 = .ok (.getfield 36, 3) := by decide +kernel
theorem dX2_letsWed_55 : decode cX2_letsWed 55 = .ok (.getfield 63, 3) := by decide +kernel
theorem dX2_letsWed_58 : decode cX2_letsWed 58 = .ok (.iload_n 3, 1) := by decide +kernel
theorem dX2_letsWed_59 : decode cX2_letsWed 59 = .ok (.iaload, 1) := by decide +kernel
theorem dX2_letsWed_60 : decode cX2_letsWed 60 = .ok (.invokevirtual 137, 3) := by decide +kernel
theorem dX2_letsWed_63 : decode cX2_letsWed 63 = .ok (.aload_n 0, 1) := by decide +kernel
theorem dX2_letsWed_64 : decode cX2_letsWed 64 = .ok (.getfield 103, 3) := by decide +kernel
theorem dX2_letsWed_67 : decode cX2_letsWed 67 = .ok (.iconst (-1), 1) := by decide +kernel
theorem dX2_letsWed_68 : decode cX2_letsWed 68 = .ok (.if_icmp .eq 7, 3) := by decide +kernel
theorem dX2_letsWed_71 : decode cX2_letsWed 71 = .ok (.iconst 1, 1) := by decide +kernel
theorem dX2_letsWed_72 : decode cX2_letsWed 72 = .ok (.goto 4, 3) := by decide +kernel
theorem dX2_letsWed_75 : decode cX2_letsWed 75 = .ok (.iconst 0, 1) := by decide +kernel
theorem dX2_letsWed_76 : decode cX2_letsWed 76 = .ok (.istore 5, 2) := by decide +kernel
theorem dX2_letsWed_78 : decode cX2_letsWed 78 = .ok (.aload_n 0, 1) := by decide +kernel
theorem dX2_letsWed_79 : decode cX2_letsWed 79 = .ok (.aload_n 0, 1) := by decide +kernel
theorem dX2_letsWed_80 : decode cX2_letsWed 80 = .ok (.getfield 106, 3) := by decide +kernel
theorem dX2_letsWed_83 : decode cX2_letsWed 83 = .ok (.putfield 140, 3) := by decide +kernel
theorem dX2_letsWed_86 : decode cX2_letsWed 86 = .ok (.aload_n 0, 1) := by decide +kernel
theorem dX2_letsWed_87 : decode cX2_letsWed 87 = .ok (.aload_n 0, 1) := by decide +kernel
theorem dX2_letsWed_88 : decode cX2_letsWed 88 = .ok (.getfield 109, 3) := by decide +kernel
theorem dX2_letsWed_91 : decode cX2_letsWed 91 = .ok (.putfield 143, 3) := by decide +kernel
theorem dX2_letsWed_94 : decode cX2_letsWed 94 = .ok (.aload_n 0, 1) := by decide +kernel
theorem dX2_letsWed_95 : decode cX2_letsWed 95 = .ok (.aload_n 0, 1) := by decide +kernel
theorem dX2_letsWed_96 : decode cX2_letsWed 96 = .ok (.getfield 15, 3) := by decide +kernel
theorem dX2_letsWed_99 : decode cX2_letsWed 99 = .ok (.iload 4, 2) := by decide +kernel
theorem dX2_letsWed_101 : decode cX2_letsWed 101 = .ok (.invokevirtual 133, 3) := by decide +kernel
theorem dX2_letsWed_104 : decode cX2_letsWed 104 = .ok (.aload_n 0, 1) := by decide +kernel
theorem dX2_letsWed_105 : decode cX2_letsWed 105 = .ok (.getfield 15, 3) := by decide +kernel
theorem dX2_letsWed_108 : decode cX2_letsWed 108 = .ok (.getfield 36, 3) := by decide +kernel
theorem dX2_letsWed_111 : decode cX2_letsWed 111 = .ok (.getfield 63, 3) := by decide +kernel
theorem dX2_letsWed_114 : decode cX2_letsWed 114 = .ok (.iload 4, 2) := by decide +kernel
theorem dX2_letsWed_116 : decode cX2_letsWed 116 = .ok (.iaload, 1) := by decide +kernel
theorem dX2_letsWed_117 : decode cX2_letsWed 117 = .ok (.invokevirtual 137, 3) := by decide +kernel
theorem dX2_letsWed_120 : decode cX2_letsWed 120 = .ok (.aload_n 0, 1) := by decide +kernel
theorem dX2_letsWed_121 : decode cX2_letsWed 121 = .ok (.aload_n 0, 1) := by decide +kernel
theorem dX2_letsWed_122 : decode cX2_letsWed 122 = .ok (.getfield 140, 3) := by decide +kernel
theorem dX2_letsWed_125 : decode cX2_letsWed 125 = .ok (.aload_n 0, 1) := by decide +kernel
theorem dX2_letsWed_126 : decode cX2_letsWed 126 = .ok (.getfield 106, 3) := by decide +kernel
theorem dX2_letsWed_129 : decode cX2_letsWed 129 = .ok (.invokestatic 146, 3) := by decide +kernel
theorem dX2_letsWed_132 : decode cX2_letsWed 132 = .ok (.putfield 140, 3) := by decide +kernel
theorem dX2_letsWed_135 : decode cX2_letsWed 135 = .ok (.iload_n 3, 1) := by decide +kernel
theorem dX2_letsWed_136 : decode cX2_letsWed 136 = .ok (.iload 4, 2) := by decide +kernel
theorem dX2_letsWed_138 : decode cX2_letsWed 138 = .ok (.if_icmp .eq 20, 3) := by decide +kernel
theorem dX2_letsWed_141 : decode cX2_letsWed 141 = .ok (.iload 5, 2) := by decide +kernel
theorem dX2_letsWed_143 : decode cX2_letsWed 143 = .ok (.ifCond .ne 15, 3) := by decide +kernel
theorem dX2_letsWed_146 : decode cX2_letsWed 146 = .ok (.aload_n 0, 1) := by decide +kernel
theorem dX2_letsWed_147 : decode cX2_letsWed 147 = .ok (.getfield 103, 3) := by decide +kernel
theorem dX2_letsWed_150 : decode cX2_letsWed 150 = .ok (.iconst (-1), 1) := by decide +kernel
theorem dX2_letsWed_151 : decode cX2_letsWed 151 = .ok (.if_icmp .ne 7, 3) := by decide +kernel
theorem dX2_letsWed_154 : decode cX2_letsWed 154 = .ok (.iconst 1, 1) := by decide +kernel
theorem dX2_letsWed_155 : decode cX2_letsWed 155 = .ok (.goto 4, 3) := by decide +kernel
theorem dX2_letsWed_158 : decode cX2_letsWed 158 = .ok (.iconst 0, 1) := by decide +kernel
theorem dX2_letsWed_159 : decode cX2_letsWed 159 = .ok (.ireturn, 1) := by decide +kernel
theorem dX2_likes_0 : decode cX2_likes 0 = .ok (.aload_n 0, 1) := by decide +kernel
theorem dX2_likes_1 : decode cX2_likes 1 = .ok (.getfield 15, 3) := by decide +kernel
theorem dX2_likes_4 : decode cX2_likes 4 = .ok (.getfield 30, 3) := by decide +kernel
theorem dX2_likes_7 : decode cX2_likes 7 = .ok (.astore_n 3, 1) := by decide +kernel
theorem dX2_likes_8 : decode cX2_likes 8 = .ok (.aload_n 3, 1) := by decide +kernel
theorem dX2_likes_9 : decode cX2_likes 9 = .ok (.getfield 149, 3) := by decide +kernel
theorem dX2_likes_12 : decode cX2_likes 12 = .ok (.iload_n 1, 1) := by decide +kernel
theorem dX2_likes_13 : decode cX2_likes 13 = .ok (.iaload, 1) := by decide +kernel
theorem dX2_likes_14 : decode cX2_likes 14 = .ok (.ifCond .ne 7, 3) := by decide +kernel
theorem dX2_likes_17 : decode cX2_likes 17 = .ok (.iconst 1, 1) := by decide +kernel
theorem dX2_likes_18 : decode cX2_likes 18 = .ok (.goto 4, 3) := by decide +kernel
theorem dX2_likes_21 : decode cX2_likes 21 = .ok (.iconst 0, 1) := by decide +kernel
theorem dX2_likes_22 : decode cX2_likes 22 = .ok (.istore 4, 2) := by decide +kernel
theorem dX2_likes_24 : decode cX2_likes 24 = .ok (.aload_n 0, 1) := by decide +kernel
theorem dX2_likes_25 : decode cX2_likes 25 = .ok (.getfield 15, 3) := by decide +kernel
theorem dX2_likes_28 : decode cX2_likes 28 = .ok (.getfield 152, 3) := by decide +kernel
theorem dX2_likes_31 : decode cX2_likes 31 = .ok (.iconst 5, 1) := by decide +kernel
theorem dX2_likes_32 : decode cX2_likes 32 = .ok (.aload_n 3, 1) := by decide +kernel
theorem dX2_likes_33 : decode cX2_likes 33 = .ok (.getfield 149, 3) := by decide +kernel
theorem dX2_likes_36 : decode cX2_likes 36 = .ok (.iload_n 1, 1) := by decide +kernel
theorem dX2_likes_37 : decode cX2_likes 37 = .ok (.iaload, 1) := by decide +kernel
theorem dX2_likes_38 : decode cX2_likes 38 = .ok (.iadd, 1) := by decide +kernel
theorem dX2_likes_39 : decode cX2_likes 39 = .ok (.aaload, 1) := by decide +kernel
theorem dX2_likes_40 : decode cX2_likes 40 = .ok (.astore 5, 2) := by decide +kernel
theorem dX2_likes_42 : decode cX2_likes 42 = .ok (.aload_n 0, 1) := by decide +kernel
theorem dX2_likes_43 : decode cX2_likes 43 = .ok (.iload 4, 2) := by decide +kernel
theorem dX2_likes_45 : decode cX2_likes 45 = .ok (.ifCond .eq 7, 3) := by decide +kernel
theorem dX2_likes_48 : decode cX2_likes 48 = .ok (.iload_n 1, 1) := by decide +kernel
theorem dX2_likes_49 : decode cX2_likes 49 = .ok (.goto 4, 3) := by decide +kernel
theorem dX2_likes_52 : decode cX2_likes 52 = .ok (.iload_n 2, 1) := by decide +kernel
theorem dX2_likes_53 : decode cX2_likes 53 = .ok (.iload 4, 2) := by decide +kernel
theorem dX2_likes_55 : decode cX2_likes 55 = .ok (.ifCond .eq 7, 3) := by decide +kernel
theorem dX2_likes_58 : decode cX2_likes 58 = .ok (.iload_n 2, 1) := by decide +kernel
theorem dX2_likes_59 : decode cX2_likes 59 = .ok (.goto 4, 3) := by decide +kernel
theorem dX2_likes_62 : decode cX2_likes 62 = .ok (.iload_n 1, 1) := by decide +kernel
theorem dX2_likes_63 : decode cX2_likes 63 = .ok (.invokevirtual 129, 3) := by decide +kernel
theorem dX2_likes_66 : decode cX2_likes 66 = .ok (.aload_n 0, 1) := by decide +kernel
theorem dX2_likes_67 : decode cX2_likes 67 = .ok (.getfield 9, 3) := by decide +kernel
theorem dX2_likes_70 : decode cX2_likes 70 = .ok (.bipush 10, 2) := by decide +kernel
theorem dX2_likes_72 : decode cX2_likes 72 = .ok (.aload_n 0, 1) := by decide +kernel
theorem dX2_likes_73 : decode cX2_likes 73 = .ok (.getfield 15, 3) := by decide +kernel
theorem dX2_likes_76 : decode cX2_likes 76 = .ok (.getfield 36, 3) := by decide +kernel
theorem dX2_likes_79 : decode cX2_likes 79 = .ok (.getfield 88, 3) := by decide +kernel
theorem dX2_likes_82 : decode cX2_likes 82 = .ok (.aload_n 3, 1) := by decide +kernel
theorem dX2_likes_83 : decode cX2_likes 83 = .ok (.getfield 40, 3) := by decide +kernel
theorem dX2_likes_86 : decode cX2_likes 86 = .ok (.iload_n 2, 1) := by decide +kernel
theorem dX2_likes_87 : decode cX2_likes 87 = .ok (.iaload, 1) := by decide +kernel
theorem dX2_likes_88 : decode cX2_likes 88 = .ok (.iaload, 1) := by decide +kernel
theorem dX2_likes_89 : decode cX2_likes 89 = .ok (.iastore, 1) := by decide +kernel
theorem dX2_likes_90 : decode cX2_likes 90 = .ok (.aload 5, 2) := by decide +kernel
theorem dX2_likes_92 : decode cX2_likes 92 = .ok (.invokevirtual 91, 3) := by decide +kernel
theorem dX2_likes_95 : decode cX2_likes 95 = .ok (.ifCond .eq 40, 3) := by decide +kernel
theorem dX2_likes_98 : decode cX2_likes 98 = .ok (.aload_n 0, 1) := by decide +kernel
theorem dX2_likes_99 : decode cX2_likes 99 = .ok (.getfield 9, 3) := by decide +kernel
theorem dX2_likes_102 : decode cX2_likes 102 = .ok (.bipush 6, 2) := by decide +kernel
theorem dX2_likes_104 : decode cX2_likes 104 = .ok (.aload_n 0, 1) := by decide +kernel
theorem dX2_likes_105 : decode cX2_likes 105 = .ok (.getfield 19, 3) := by decide +kernel
theorem dX2_likes_108 : decode cX2_likes 108 = .ok (.aload_n 0, 1) := by decide +kernel
theorem dX2_likes_109 : decode cX2_likes 109 = .ok (.getfield 23, 3) := by decide +kernel
theorem dX2_likes_112 : decode cX2_likes 112 = .ok (.aload_n 0, 1) := by decide +kernel
theorem dX2_likes_113 : decode cX2_likes 113 = .ok (.getfield 27, 3) := by decide +kernel
theorem dX2_likes_116 : decode cX2_likes 116 = .ok (.aload_n 0, 1) := by decide +kernel
theorem dX2_likes_117 : decode cX2_likes 117 = .ok (.getfield 15, 3) := by decide +kernel
theorem dX2_likes_120 : decode cX2_likes 120 = .ok (.iload_n 1, 1) := by decide +kernel
theorem dX2_likes_121 : decode cX2_likes 121 = .ok (.invokevirtual 156, 3) := by decide +kernel
theorem dX2_likes_124 : decode cX2_likes 124 = .ok (.aload_n 0, 1) := by decide +kernel
theorem dX2_likes_125 : decode cX2_likes 125 = .ok (.getfield 15, 3) := by decide +kernel
theorem dX2_likes_128 : decode cX2_likes 128 = .ok (.getfield 82, 3) := by decide +kernel
theorem dX2_likes_131 : decode cX2_likes 131 = .ok (.invokevirtual 97, 3) := by decide +kernel
theorem dX2_likes_134 : decode cX2_likes 134 = .ok (.iastore, 1) := by decide +kernel
theorem dX2_likes_135 : decode cX2_likes 135 = .ok (.iconst 0, 1) := by decide +kernel
theorem dX2_likes_136 : decode cX2_likes 136 = .ok (.istore 6, 2) := by decide +kernel
theorem dX2_likes_138 : decode cX2_likes 138 = .ok (.iconst 0, 1) := by decide +kernel
theorem dX2_likes_139 : decode cX2_likes 139 = .ok (.istore 7, 2) := by decide +kernel
theorem dX2_likes_141 : decode cX2_likes 141 = .ok (.iload 7, 2) := by decide +kernel
theorem dX2_likes_143 : decode cX2_likes 143 = .ok (.aload 5, 2) := by decide +kernel
theorem dX2_likes_145 : decode cX2_likes 145 = .ok (.getfield 112, 3) := by decide +kernel
theorem dX2_likes_148 : decode cX2_likes 148 = .ok (.if_icmp .ge 60, 3) := by decide +kernel
theorem dX2_likes_151 : decode cX2_likes 151 = .ok (.aload 5, 2) := by decide +kernel
theorem dX2_likes_153 : decode cX2_likes 153 = .ok (.iload 7, 2) := by decide +kernel
theorem dX2_likes_155 : decode cX2_likes 155 = .ok (.aload_n 0, 1) := by decide +kernel
theorem dX2_likes_156 : decode cX2_likes 156 = .ok (.getfield 9, 3) := by decide +kernel
theorem dX2_likes_159 : decode cX2_likes 159 = .ok (.invokevirtual 115, 3) := by decide +kernel
theorem dX2_likes_162 : decode cX2_likes 162 = .ok (.ifCond .eq 40, 3) := by decide +kernel
theorem dX2_likes_165 : decode cX2_likes 165 = .ok (.iload 6, 2) := by decide +kernel
theorem dX2_likes_167 : decode cX2_likes 167 = .ok (.aload 5, 2) := by decide +kernel
theorem dX2_likes_169 : decode cX2_likes 169 = .ok (.getfield 123, 3) := by decide +kernel
theorem dX2_likes_172 : decode cX2_likes 172 = .ok (.iload 7, 2) := by decide +kernel
theorem dX2_likes_174 : decode cX2_likes 174 = .ok (.iaload, 1) := by decide +kernel
theorem dX2_likes_175 : decode cX2_likes 175 = .ok (.iconst 4, 1) := by decide +kernel
theorem dX2_likes_176 : decode cX2_likes 176 = .ok (.if_icmp .ne 15, 3) := by decide +kernel
theorem dX2_likes_179 : decode cX2_likes 179 = .ok (.aload 5, 2) := by decide +kernel
theorem dX2_likes_181 : decode cX2_likes 181 = .ok (.getfield 126, 3) := by decide +kernel
theorem dX2_likes_184 : decode cX2_likes 184 = .ok (.iload 7, 2) := by decide +kernel
theorem dX2_likes_186 : decode cX2_likes 186 = .ok (.iaload, 1) := by decide +kernel
theorem dX2_likes_187 : decode cX2_likes 187 = .ok (.ineg, 1) := by decide +kernel
theorem dX2_likes_188 : decode cX2_likes 188 = .ok (.goto 11, 3) := by decide +kernel
theorem dX2_likes_191 : decode cX2_likes 191 = .ok (.aload 5, 2) := by decide +kernel
theorem dX2_likes_193 : decode cX2_likes 193 = .ok (.getfield 126, 3) := by decide +kernel
theorem dX2_likes_196 : decode cX2_likes 196 = .ok (.iload 7, 2) := by decide +kernel
theorem dX2_likes_198 : decode cX2_likes 198 = .ok (.iaload, 1) := by decide +kernel
theorem dX2_likes_199 : decode cX2_likes 199 = .ok (.iadd, 1) := by decide +kernel
theorem dX2_likes_200 : decode cX2_likes 200 = .ok (.istore 6, 2) := by decide +kernel
theorem dX2_likes_202 : decode cX2_likes 202 = .ok (.iinc 7 1, 3) := by decide +kernel
theorem dX2_likes_205 : decode cX2_likes 205 = .ok (.goto (-64), 3) := by decide +kernel
theorem dX2_likes_208 : decode cX2_likes 208 = .ok (.iload 6, 2) := by decide +kernel
theorem dX2_likes_210 : decode cX2_likes 210 = .ok (.ireturn, 1) := by decide +kernel
theorem dX2_isLate_0 : decode cX2_isLate 0 = .ok (.aload_n 0, 1) := by decide +kernel
theorem dX2_isLate_1 : decode cX2_isLate 1 = .ok (.getfield 15, 3) := by decide +kernel
theorem dX2_isLate_4 : decode cX2_isLate 4 = .ok (.getfield 159, 3) := by decide +kernel
theorem dX2_isLate_7 : decode cX2_isLate 7 = .ok (.astore_n 2, 1) := by decide +kernel
theorem dX2_isLate_8 : decode cX2_isLate 8 = .ok (.aload_n 2, 1) := by decide +kernel
theorem dX2_isLate_9 : decode cX2_isLate 9 = .ok (.iload_n 1, 1) := by decide +kernel
theorem dX2_isLate_10 : decode cX2_isLate 10 = .ok (.iconst 2, 1) := by decide +kernel
theorem dX2_isLate_11 : decode cX2_isLate 11 = .ok (.invokevirtual 163, 3) := by decide +kernel
theorem dX2_isLate_14 : decode cX2_isLate 14 = .ok (.ifCond .ne 5, 3) := by decide +kernel
theorem dX2_isLate_17 : decode cX2_isLate 17 = .ok (.iconst 0, 1) := by decide +kernel
theorem dX2_isLate_18 : decode cX2_isLate 18 = .ok (.ireturn, 1) := by decide +kernel
theorem dX2_isLate_19 : decode cX2_isLate 19 = .ok (.aload_n 2, 1) := by decide +kernel
theorem dX2_isLate_20 : decode cX2_isLate 20 = .ok (.getfield 168, 3) := by decide +kernel
theorem dX2_isLate_23 : decode cX2_isLate 23 = .ok (.iload_n 1, 1) := by decide +kernel
theorem dX2_isLate_24 : decode cX2_isLate 24 = .ok (.aaload, 1) := by decide +kernel
theorem dX2_isLate_25 : decode cX2_isLate 25 = .ok (.astore_n 3, 1) := by decide +kernel
theorem dX2_isLate_26 : decode cX2_isLate 26 = .ok (.aload_n 2, 1) := by decide +kernel
theorem dX2_isLate_27 : decode cX2_isLate 27 = .ok (.getfield 171, 3) := by decide +kernel
theorem dX2_isLate_30 : decode cX2_isLate 30 = .ok (.iload_n 1, 1) := by decide +kernel
theorem dX2_isLate_31 : decode cX2_isLate 31 = .ok (.aaload, 1) := by decide +kernel
theorem dX2_isLate_32 : decode cX2_isLate 32 = .ok (.astore 4, 2) := by decide +kernel
theorem dX2_isLate_34 : decode cX2_isLate 34 = .ok (.aload_n 3, 1) := by decide +kernel
theorem dX2_isLate_35 : decode cX2_isLate 35 = .ok (.ifnull 8, 3) := by decide +kernel
theorem dX2_isLate_38 : decode cX2_isLate 38 = .ok (.aload 4, 2) := by decide +kernel
theorem dX2_isLate_40 : decode cX2_isLate 40 = .ok (.ifnonnull 5, 3) := by decide +kernel
theorem dX2_isLate_43 : decode cX2_isLate 43 = .ok (.iconst 0, 1) := by decide +kernel
theorem dX2_isLate_44 : decode cX2_isLate 44 = .ok (.ireturn, 1) := by decide +kernel
theorem dX2_isLate_45 : decode cX2_isLate 45 = .ok (.aload_n 0, 1) := by decide +kernel
theorem dX2_isLate_46 : decode cX2_isLate 46 = .ok (.aload_n 2, 1) := by decide +kernel
theorem dX2_isLate_47 : decode cX2_isLate 47 = .ok (.getfield 174, 3) := by decide +kernel
theorem dX2_isLate_50 : decode cX2_isLate 50 = .ok (.iload_n 1, 1) := by decide +kernel
theorem dX2_isLate_51 : decode cX2_isLate 51 = .ok (.iaload, 1) := by decide +kernel
theorem dX2_isLate_52 : decode cX2_isLate 52 = .ok (.putfield 23, 3) := by decide +kernel
theorem dX2_isLate_55 : decode cX2_isLate 55 = .ok (.aload_n 0, 1) := by decide +kernel
theorem dX2_isLate_56 : decode cX2_isLate 56 = .ok (.aload_n 2, 1) := by decide +kernel
theorem dX2_isLate_57 : decode cX2_isLate 57 = .ok (.getfield 176, 3) := by decide +kernel
theorem dX2_isLate_60 : decode cX2_isLate 60 = .ok (.iload_n 1, 1) := by decide +kernel
theorem dX2_isLate_61 : decode cX2_isLate 61 = .ok (.iaload, 1) := by decide +kernel
theorem dX2_isLate_62 : decode cX2_isLate 62 = .ok (.putfield 27, 3) := by decide +kernel
theorem dX2_isLate_65 : decode cX2_isLate 65 = .ok (.aload_n 2, 1) := by decide +kernel
theorem dX2_isLate_66 : decode cX2_isLate 66 = .ok (.getfield 178, 3) := by decide +kernel
theorem dX2_isLate_69 : decode cX2_isLate 69 = .ok (.iload_n 1, 1) := by decide +kernel
theorem dX2_isLate_70 : decode cX2_isLate 70 = .ok (.bipush 11, 2) := by decide +kernel
theorem dX2_isLate_72 : decode cX2_isLate 72 = .ok (.imul, 1) := by decide +kernel
theorem dX2_isLate_73 : decode cX2_isLate 73 = .ok (.aload_n 0, 1) := by decide +kernel
theorem dX2_isLate_74 : decode cX2_isLate 74 = .ok (.getfield 9, 3) := by decide +kernel
theorem dX2_isLate_77 : decode cX2_isLate 77 = .ok (.iconst 0, 1) := by decide +kernel
theorem dX2_isLate_78 : decode cX2_isLate 78 = .ok (.bipush 11, 2) := by decide +kernel
theorem dX2_isLate_80 : decode cX2_isLate 80 = .ok (.invokestatic 179, 3) := by decide +kernel
theorem dX2_isLate_83 : decode cX2_isLate 83 = .ok (.aload_n 0, 1) := by decide +kernel
theorem dX2_isLate_84 : decode cX2_isLate 84 = .ok (.aload_n 3, 1) := by decide +kernel
theorem dX2_isLate_85 : decode cX2_isLate 85 = .ok (.aload_n 0, 1) := by decide +kernel
theorem dX2_isLate_86 : decode cX2_isLate 86 = .ok (.getfield 15, 3) := by decide +kernel
theorem dX2_isLate_89 : decode cX2_isLate 89 = .ok (.aload_n 0, 1) := by decide +kernel
theorem dX2_isLate_90 : decode cX2_isLate 90 = .ok (.getfield 23, 3) := by decide +kernel
theorem dX2_isLate_93 : decode cX2_isLate 93 = .ok (.invokevirtual 156, 3) := by decide +kernel
theorem dX2_isLate_96 : decode cX2_isLate 96 = .ok (.invokevirtual 137, 3) := by decide +kernel
theorem dX2_isLate_99 : decode cX2_isLate 99 = .ok (.aload_n 0, 1) := by decide +kernel
theorem dX2_isLate_100 : decode cX2_isLate 100 = .ok (.getfield 103, 3) := by decide +kernel
theorem dX2_isLate_103 : decode cX2_isLate 103 = .ok (.iconst (-1), 1) := by decide +kernel
theorem dX2_isLate_104 : decode cX2_isLate 104 = .ok (.if_icmp .ne 20, 3) := by decide +kernel
theorem dX2_isLate_107 : decode cX2_isLate 107 = .ok (.aload_n 0, 1) := by decide +kernel
theorem dX2_isLate_108 : decode cX2_isLate 108 = .ok (.aload 4, 2) := by decide +kernel
theorem dX2_isLate_110 : decode cX2_isLate 110 = .ok (.aload_n 0, 1) := by decide +kernel
theorem dX2_isLate_111 : decode cX2_isLate 111 = .ok (.getfield 15, 3) := by decide +kernel
theorem dX2_isLate_114 : decode cX2_isLate 114 = .ok (.aload_n 0, 1) := by decide +kernel
theorem dX2_isLate_115 : decode cX2_isLate 115 = .ok (.getfield 27, 3) := by decide +kernel
theorem dX2_isLate_118 : decode cX2_isLate 118 = .ok (.invokevirtual 156, 3) := by decide +kernel
theorem dX2_isLate_121 : decode cX2_isLate 121 = .ok (.invokevirtual 137, 3) := by decide +kernel
theorem dX2_isLate_124 : decode cX2_isLate 124 = .ok (.aload_n 0, 1) := by decide +kernel
theorem dX2_isLate_125 : decode cX2_isLate 125 = .ok (.getfield 103, 3) := by decide +kernel
theorem dX2_isLate_128 : decode cX2_isLate 128 = .ok (.iconst (-1), 1) := by decide +kernel
theorem dX2_isLate_129 : decode cX2_isLate 129 = .ok (.if_icmp .eq 7, 3) := by decide +kernel
theorem dX2_isLate_132 : decode cX2_isLate 132 = .ok (.iconst 1, 1) := by decide +kernel
theorem dX2_isLate_133 : decode cX2_isLate 133 = .ok (.goto 4, 3) := by decide +kernel
theorem dX2_isLate_136 : decode cX2_isLate 136 = .ok (.iconst 0, 1) := by decide +kernel
theorem dX2_isLate_137 : decode cX2_isLate 137 = .ok (.ireturn, 1) := by decide +kernel
theorem dX2_allLate_0 : decode cX2_allLate 0 = .ok (.iconst 0, 1) := by decide +kernel
theorem dX2_allLate_1 : decode cX2_allLate 1 = .ok (.istore_n 1, 1) := by decide +kernel
theorem dX2_allLate_2 : decode cX2_allLate 2 = .ok (.iconst 0, 1) := by decide +kernel
theorem dX2_allLate_3 : decode cX2_allLate 3 = .ok (.istore_n 2, 1) := by decide +kernel
theorem dX2_allLate_4 : decode cX2_allLate 4 = .ok (.iload_n 2, 1) := by decide +kernel
theorem dX2_allLate_5 : decode cX2_allLate 5 = .ok (.aload_n 0, 1) := by decide +kernel
theorem dX2_allLate_6 : decode cX2_allLate 6 = .ok (.getfield 15, 3) := by decide +kernel
theorem dX2_allLate_9 : decode cX2_allLate 9 = .ok (.getfield 159, 3) := by decide +kernel
theorem dX2_allLate_12 : decode cX2_allLate 12 = .ok (.getfield 185, 3) := by decide +kernel
theorem dX2_allLate_15 : decode cX2_allLate 15 = .ok (.if_icmp .ge 20, 3) := by decide +kernel
theorem dX2_allLate_18 : decode cX2_allLate 18 = .ok (.aload_n 0, 1) := by decide +kernel
theorem dX2_allLate_19 : decode cX2_allLate 19 = .ok (.iload_n 2, 1) := by decide +kernel
theorem dX2_allLate_20 : decode cX2_allLate 20 = .ok (.invokevirtual 188, 3) := by decide +kernel
theorem dX2_allLate_23 : decode cX2_allLate 23 = .ok (.ifCond .eq 6, 3) := by decide +kernel
theorem dX2_allLate_26 : decode cX2_allLate 26 = .ok (.iinc 1 1, 3) := by decide +kernel
theorem dX2_allLate_29 : decode cX2_allLate 29 = .ok (.iinc 2 1, 3) := by decide +kernel
theorem dX2_allLate_32 : decode cX2_allLate 32 = .ok (.goto (-28), 3) := by decide +kernel
theorem dX2_allLate_35 : decode cX2_allLate 35 = .ok (.iload_n 1, 1) := by decide +kernel
theorem dX2_allLate_36 : decode cX2_allLate 36 = .ok (.ireturn, 1) := by decide +kernel
theorem dX2_wouldPart_0 : decode cX2_wouldPart 0 = .ok (.aload_n 0, 1) := by decide +kernel
theorem dX2_wouldPart_1 : decode cX2_wouldPart 1 = .ok (.getfield 15, 3) := by decide +kernel
theorem dX2_wouldPart_4 : decode cX2_wouldPart 4 = .ok (.getfield 159, 3) := by decide +kernel
theorem dX2_wouldPart_7 : decode cX2_wouldPart 7 = .ok (.astore_n 3, 1) := by decide +kernel
theorem dX2_wouldPart_8 : decode cX2_wouldPart 8 = .ok (.aload_n 0, 1) := by decide +kernel
theorem dX2_wouldPart_9 : decode cX2_wouldPart 9 = .ok (.getfield 15, 3) := by decide +kernel
theorem dX2_wouldPart_12 : decode cX2_wouldPart 12 = .ok (.getfield 30, 3) := by decide +kernel
theorem dX2_wouldPart_15 : decode cX2_wouldPart 15 = .ok (.getfield 191, 3) := by decide +kernel
theorem dX2_wouldPart_18 : decode cX2_wouldPart 18 = .ok (.iload_n 1, 1) := by decide +kernel
theorem dX2_wouldPart_19 : decode cX2_wouldPart 19 = .ok (.iaload, 1) := by decide +kernel
theorem dX2_wouldPart_20 : decode cX2_wouldPart 20 = .ok (.istore 4, 2) := by decide +kernel
theorem dX2_wouldPart_22 : decode cX2_wouldPart 22 = .ok (.aload_n 0, 1) := by decide +kernel
theorem dX2_wouldPart_23 : decode cX2_wouldPart 23 = .ok (.getfield 15, 3) := by decide +kernel
theorem dX2_wouldPart_26 : decode cX2_wouldPart 26 = .ok (.getfield 30, 3) := by decide +kernel
theorem dX2_wouldPart_29 : decode cX2_wouldPart 29 = .ok (.getfield 191, 3) := by decide +kernel
theorem dX2_wouldPart_32 : decode cX2_wouldPart 32 = .ok (.iload_n 2, 1) := by decide +kernel
theorem dX2_wouldPart_33 : decode cX2_wouldPart 33 = .ok (.iaload, 1) := by decide +kernel
theorem dX2_wouldPart_34 : decode cX2_wouldPart 34 = .ok (.istore 5, 2) := by decide +kernel
theorem dX2_wouldPart_36 : decode cX2_wouldPart 36 = .ok (.iload 4, 2) := by decide +kernel
theorem dX2_wouldPart_38 : decode cX2_wouldPart 38 = .ok (.iload 5, 2) := by decide +kernel
theorem dX2_wouldPart_40 : decode cX2_wouldPart 40 = .ok (.if_icmp .eq 21, 3) := by decide +kernel
theorem dX2_wouldPart_43 : decode cX2_wouldPart 43 = .ok (.aload_n 3, 1) := by decide +kernel
theorem dX2_wouldPart_44 : decode cX2_wouldPart 44 = .ok (.iload 4, 2) := by decide +kernel
theorem dX2_wouldPart_46 : decode cX2_wouldPart 46 = .ok (.invokevirtual 194, 3) := by decide +kernel
theorem dX2_wouldPart_49 : decode cX2_wouldPart 49 = .ok (.ifCond .eq 12, 3) := by decide +kernel
theorem dX2_wouldPart_52 : decode cX2_wouldPart 52 = .ok (.aload_n 3, 1) := by decide +kernel
theorem dX2_wouldPart_53 : decode cX2_wouldPart 53 = .ok (.iload 5, 2) := by decide +kernel
theorem dX2_wouldPart_55 : decode cX2_wouldPart 55 = .ok (.invokevirtual 194, 3) := by decide +kernel
theorem dX2_wouldPart_58 : decode cX2_wouldPart 58 = .ok (.ifCond .ne 5, 3) := by decide +kernel
theorem dX2_wouldPart_61 : decode cX2_wouldPart 61 = .ok (.iconst 0, 1) := by decide +kernel
theorem dX2_wouldPart_62 : decode cX2_wouldPart 62 = .ok (.ireturn, 1) := by decide +kernel
theorem dX2_wouldPart_63 : decode cX2_wouldPart 63 = .ok (.aload_n 0, 1) := by decide +kernel
theorem dX2_wouldPart_64 : decode cX2_wouldPart 64 = .ok (.iload_n 1, 1) := by decide +kernel
theorem dX2_wouldPart_65 : decode cX2_wouldPart 65 = .ok (.iload_n 2, 1) := by decide +kernel
theorem dX2_wouldPart_66 : decode cX2_wouldPart 66 = .ok (.invokevirtual 197, 3) := by decide +kernel
theorem dX2_wouldPart_69 : decode cX2_wouldPart 69 = .ok (.ifCond .eq 49, 3) := by decide +kernel
theorem dX2_wouldPart_72 : decode cX2_wouldPart 72 = .ok (.aload_n 0, 1) := by decide +kernel
theorem dX2_wouldPart_73 : decode cX2_wouldPart 73 = .ok (.iload_n 1, 1) := by decide +kernel
theorem dX2_wouldPart_74 : decode cX2_wouldPart 74 = .ok (.iload_n 2, 1) := by decide +kernel
theorem dX2_wouldPart_75 : decode cX2_wouldPart 75 = .ok (.invokevirtual 200, 3) := by decide +kernel
theorem dX2_wouldPart_78 : decode cX2_wouldPart 78 = .ok (.aload_n 0, 1) := by decide +kernel
theorem dX2_wouldPart_79 : decode cX2_wouldPart 79 = .ok (.iload_n 1, 1) := by decide +kernel
theorem dX2_wouldPart_80 : decode cX2_wouldPart 80 = .ok (.aload_n 3, 1) := by decide +kernel
theorem dX2_wouldPart_81 : decode cX2_wouldPart 81 = .ok (.getfield 176, 3) := by decide +kernel
theorem dX2_wouldPart_84 : decode cX2_wouldPart 84 = .ok (.iload 4, 2) := by decide +kernel
theorem dX2_wouldPart_86 : decode cX2_wouldPart 86 = .ok (.iaload, 1) := by decide +kernel
theorem dX2_wouldPart_87 : decode cX2_wouldPart 87 = .ok (.invokevirtual 200, 3) := by decide +kernel
theorem dX2_wouldPart_90 : decode cX2_wouldPart 90 = .ok (.if_icmp .le 28, 3) := by decide +kernel
theorem dX2_wouldPart_93 : decode cX2_wouldPart 93 = .ok (.aload_n 0, 1) := by decide +kernel
theorem dX2_wouldPart_94 : decode cX2_wouldPart 94 = .ok (.iload_n 2, 1) := by decide +kernel
theorem dX2_wouldPart_95 : decode cX2_wouldPart 95 = .ok (.iload_n 1, 1) := by decide +kernel
theorem dX2_wouldPart_96 : decode cX2_wouldPart 96 = .ok (.invokevirtual 200, 3) := by decide +kernel
theorem dX2_wouldPart_99 : decode cX2_wouldPart 99 = .ok (.aload_n 0, 1) := by decide +kernel
theorem dX2_wouldPart_100 : decode cX2_wouldPart 100 = .ok (.iload_n 2, 1) := by decide +kernel
theorem dX2_wouldPart_101 : decode cX2_wouldPart 101 = .ok (.aload_n 3, 1) := by decide +kernel
theorem dX2_wouldPart_102 : decode cX2_wouldPart 102 = .ok (.getfield 174, 3) := by decide +kernel
theorem dX2_wouldPart_105 : decode cX2_wouldPart 105 = .ok (.iload 5, 2) := by decide +kernel
theorem dX2_wouldPart_107 : decode cX2_wouldPart 107 = .ok (.iaload, 1) := by decide +kernel
theorem dX2_wouldPart_108 : decode cX2_wouldPart 108 = .ok (.invokevirtual 200, 3) := by decide +kernel
theorem dX2_wouldPart_111 : decode cX2_wouldPart 111 = .ok (.if_icmp .le 7, 3) := by decide +kernel
theorem dX2_wouldPart_114 : decode cX2_wouldPart 114 = .ok (.iconst 1, 1) := by decide +kernel
theorem dX2_wouldPart_115 : decode cX2_wouldPart 115 = .ok (.goto 4, 3) := by decide +kernel
theorem dX2_wouldPart_118 : decode cX2_wouldPart 118 = .ok (.iconst 0, 1) := by decide +kernel
theorem dX2_wouldPart_119 : decode cX2_wouldPart 119 = .ok (.ireturn, 1) := by decide +kernel
theorem dX3_init_0 : decode cX3_init 0 = .ok (.aload_n 0, 1) := by decide +kernel
theorem dX3_init_1 : decode cX3_init 1 = .ok (.invokespecial 5, 3) := by decide +kernel
theorem dX3_init_4 : decode cX3_init 4 = .ok (.aload_n 0, 1) := by decide +kernel
theorem dX3_init_5 : decode cX3_init 5 = .ok (.iconst 5, 1) := by decide +kernel
theorem dX3_init_6 : decode cX3_init 6 = .ok (.newarray .int, 2) := by decide +kernel
theorem dX3_init_8 : decode cX3_init 8 = .ok (.putfield 11, 3) := by decide +kernel
theorem dX3_init_11 : decode cX3_init 11 = .ok (.aload_n 0, 1) := by decide +kernel
theorem dX3_init_12 : decode cX3_init 12 = .ok (.sipush 200, 3) := by decide +kernel
theorem dX3_init_15 : decode cX3_init 15 = .ok (.newarray .int, 2) := by decide +kernel
theorem dX3_init_17 : decode cX3_init 17 = .ok (.putfield 15, 3) := by decide +kernel
theorem dX3_init_20 : decode cX3_init 20 = .ok (.aload_n 0, 1) := by decide +kernel
theorem dX3_init_21 : decode cX3_init 21 = .ok (.bipush 20, 2) := by decide +kernel
theorem dX3_init_23 : decode cX3_init 23 = .ok (.newarray .int, 2) := by decide +kernel
theorem dX3_init_25 : decode cX3_init 25 = .ok (.putfield 18, 3) := by decide +kernel
theorem dX3_init_28 : decode cX3_init 28 = .ok (.aload_n 0, 1) := by decide +kernel
theorem dX3_init_29 : decode cX3_init 29 = .ok (.bipush 20, 2) := by decide +kernel
theorem dX3_init_31 : decode cX3_init 31 = .ok (.newarray .int, 2) := by decide +kernel
theorem dX3_init_33 : decode cX3_init 33 = .ok (.putfield 21, 3) := by decide +kernel
theorem dX3_init_36 : decode cX3_init 36 = .ok (.aload_n 0, 1) := by decide +kernel
theorem dX3_init_37 : decode cX3_init 37 = .ok (.bipush 20, 2) := by decide +kernel
theorem dX3_init_39 : decode cX3_init 39 = .ok (.newarray .int, 2) := by decide +kernel
theorem dX3_init_41 : decode cX3_init 41 = .ok (.putfield 24, 3) := by decide +kernel
theorem dX3_init_44 : decode cX3_init 44 = .ok (.aload_n 0, 1) := by decide +kernel
theorem dX3_init_45 : decode cX3_init 45 = .ok (.bipush 20, 2) := by decide +kernel
theorem dX3_init_47 : decode cX3_init 47 = .ok (.newarray .int, 2) := by decide +kernel
theorem dX3_init_49 : decode cX3_init 49 = .ok (.putfield 27, 3) := by decide +kernel
theorem dX3_init_52 : decode cX3_init 52 = .ok (.aload_n 0, 1) := by decide +kernel
theorem dX3_init_53 : decode cX3_init 53 = .ok (.aload_n 1, 1) := by decide +kernel
theorem dX3_init_54 : decode cX3_init 54 = .ok (.putfield 30, 3) := by decide +kernel
theorem dX3_init_57 : decode cX3_init 57 = .ok (.aload_n 0, 1) := by decide +kernel
theorem dX3_init_58 : decode cX3_init 58 = .ok (.getfield 11, 3) := by decide +kernel
theorem dX3_init_61 : decode cX3_init 61 = .ok (.iconst (-1), 1) := by decide +kernel
theorem dX3_init_62 : decode cX3_init 62 = .ok (.invokestatic 34, 3) := by decide +kernel
theorem dX3_init_65 : decode cX3_init 65 = .ok (.return_, 1) := by decide +kernel
theorem dX3_forget_0 : decode cX3_forget 0 = .ok (.aload_n 0, 1) := by decide +kernel
theorem dX3_forget_1 : decode cX3_forget 1 = .ok (.getfield 11, 3) := by decide +kernel
theorem dX3_forget_4 : decode cX3_forget 4 = .ok (.iconst (-1), 1) := by decide +kernel
theorem dX3_forget_5 : decode cX3_forget 5 = .ok (.invokestatic 34, 3) := by decide +kernel
theorem dX3_forget_8 : decode cX3_forget 8 = .ok (.return_, 1) := by decide +kernel
theorem dX3_steps_0 : decode cX3_steps 0 = .ok (.aload_n 0, 1) := by decide +kernel
theorem dX3_steps_1 : decode cX3_steps 1 = .ok (.iload_n 1, 1) := by decide +kernel
theorem dX3_steps_2 : decode cX3_steps 2 = .ok (.iload_n 2, 1) := by decide +kernel
theorem dX3_steps_3 : decode cX3_steps 3 = .ok (.iload_n 3, 1) := by decide +kernel
theorem dX3_steps_4 : decode cX3_steps 4 = .ok (.iload 4, 2) := by decide +kernel
theorem dX3_steps_6 : decode cX3_steps 6 = .ok (.invokevirtual 40, 3) := by decide +kernel
theorem dX3_steps_9 : decode cX3_steps 9 = .ok (.istore 5, 2) := by decide +kernel
theorem dX3_steps_11 : decode cX3_steps 11 = .ok (.iload 5, 2) := by decide +kernel
theorem dX3_steps_13 : decode cX3_steps 13 = .ok (.iconst (-1), 1) := by decide +kernel
theorem dX3_steps_14 : decode cX3_steps 14 = .ok (.if_icmp .ne 8, 3) := by decide +kernel
theorem dX3_steps_17 : decode cX3_steps 17 = .ok (.bipush 99, 2) := by decide +kernel
theorem dX3_steps_19 : decode cX3_steps 19 = .ok (.goto 18, 3) := by decide +kernel
theorem dX3_steps_22 : decode cX3_steps 22 = .ok (.aload_n 0, 1) := by decide +kernel
theorem dX3_steps_23 : decode cX3_steps 23 = .ok (.getfield 18, 3) := by decide +kernel
theorem dX3_steps_26 : decode cX3_steps 26 = .ok (.iload 5, 2) := by decide +kernel
theorem dX3_steps_28 : decode cX3_steps 28 = .ok (.iaload, 1) := by decide +kernel
theorem dX3_steps_29 : decode cX3_steps 29 = .ok (.aload_n 0, 1) := by decide +kernel
theorem dX3_steps_30 : decode cX3_steps 30 = .ok (.getfield 21, 3) := by decide +kernel
theorem dX3_steps_33 : decode cX3_steps 33 = .ok (.iload 5, 2) := by decide +kernel
theorem dX3_steps_35 : decode cX3_steps 35 = .ok (.iaload, 1) := by decide +kernel
theorem dX3_steps_36 : decode cX3_steps 36 = .ok (.iadd, 1) := by decide +kernel
theorem dX3_steps_37 : decode cX3_steps 37 = .ok (.ireturn, 1) := by decide +kernel
theorem dX3_link_0 : decode cX3_link 0 = .ok (.aload_n 0, 1) := by decide +kernel
theorem dX3_link_1 : decode cX3_link 1 = .ok (.iload_n 1, 1) := by decide +kernel
theorem dX3_link_2 : decode cX3_link 2 = .ok (.iload_n 2, 1) := by decide +kernel
theorem dX3_link_3 : decode cX3_link 3 = .ok (.iload_n 3, 1) := by decide +kernel
theorem dX3_link_4 : decode cX3_link 4 = .ok (.iload 4, 2) := by decide +kernel
theorem dX3_link_6 : decode cX3_link 6 = .ok (.invokevirtual 40, 3) := by decide +kernel
theorem dX3_link_9 : decode cX3_link 9 = .ok (.istore 6, 2) := by decide +kernel
theorem dX3_link_11 : decode cX3_link 11 = .ok (.iload 6, 2) := by decide +kernel
theorem dX3_link_13 : decode cX3_link 13 = .ok (.iconst (-1), 1) := by decide +kernel
theorem dX3_link_14 : decode cX3_link 14 = .ok (.if_icmp .eq 28, 3) := by decide +kernel
theorem dX3_link_17 : decode cX3_link 17 = .ok (.iload 5, 2) := by decide +kernel
theorem dX3_link_19 : decode cX3_link 19 = .ok (.ifCond .lt 23, 3) := by decide +kernel
theorem dX3_link_22 : decode cX3_link 22 = .ok (.iload 5, 2) := by decide +kernel
theorem dX3_link_24 : decode cX3_link 24 = .ok (.aload_n 0, 1) := by decide +kernel
theorem dX3_link_25 : decode cX3_link 25 = .ok (.getfield 18, 3) := by decide +kernel
theorem dX3_link_28 : decode cX3_link 28 = .ok (.iload 6, 2) := by decide +kernel
theorem dX3_link_30 : decode cX3_link 30 = .ok (.iaload, 1) := by decide +kernel
theorem dX3_link_31 : decode cX3_link 31 = .ok (.aload_n 0, 1) := by decide +kernel
theorem dX3_link_32 : decode cX3_link 32 = .ok (.getfield 21, 3) := by decide +kernel
theorem dX3_link_35 : decode cX3_link 35 = .ok (.iload 6, 2) := by decide +kernel
theorem dX3_link_37 : decode cX3_link 37 = .ok (.iaload, 1) := by decide +kernel
theorem dX3_link_38 : decode cX3_link 38 = .ok (.iadd, 1) := by decide +kernel
theorem dX3_link_39 : decode cX3_link 39 = .ok (.if_icmp .le 5, 3) := by decide +kernel
theorem dX3_link_42 : decode cX3_link 42 = .ok (.iconst (-1), 1) := by decide +kernel
theorem dX3_link_43 : decode cX3_link 43 = .ok (.ireturn, 1) := by decide +kernel
theorem dX3_link_44 : decode cX3_link 44 = .ok (.iload 5, 2) := by decide +kernel
theorem dX3_link_46 : decode cX3_link 46 = .ok (.aload_n 0, 1) := by decide +kernel
theorem dX3_link_47 : decode cX3_link 47 = .ok (.getfield 18, 3) := by decide +kernel
theorem dX3_link_50 : decode cX3_link 50 = .ok (.iload 6, 2) := by decide +kernel
theorem dX3_link_52 : decode cX3_link 52 = .ok (.iaload, 1) := by decide +kernel
theorem dX3_link_53 : decode cX3_link 53 = .ok (.if_icmp .gt 15, 3) := by decide +kernel
theorem dX3_link_56 : decode cX3_link 56 = .ok (.aload_n 0, 1) := by decide +kernel
theorem dX3_link_57 : decode cX3_link 57 = .ok (.iload_n 1, 1) := by decide +kernel
theorem dX3_link_58 : decode cX3_link 58 = .ok (.iload 6, 2) := by decide +kernel
theorem dX3_link_60 : decode cX3_link 60 = .ok (.iload 5, 2) := by decide +kernel
theorem dX3_link_62 : decode cX3_link 62 = .ok (.invokevirtual 44, 3) := by decide +kernel
theorem dX3_link_65 : decode cX3_link 65 = .ok (.goto 19, 3) := by decide +kernel
theorem dX3_link_68 : decode cX3_link 68 = .ok (.aload_n 0, 1) := by decide +kernel
theorem dX3_link_69 : decode cX3_link 69 = .ok (.iload 6, 2) := by decide +kernel
theorem dX3_link_71 : decode cX3_link 71 = .ok (.iload 5, 2) := by decide +kernel
theorem dX3_link_73 : decode cX3_link 73 = .ok (.aload_n 0, 1) := by decide +kernel
theorem dX3_link_74 : decode cX3_link 74 = .ok (.getfield 18, 3) := by decide +kernel
theorem dX3_link_77 : decode cX3_link 77 = .ok (.iload 6, 2) := by decide +kernel
theorem dX3_link_79 : decode cX3_link 79 = .ok (.iaload, 1) := by decide +kernel
theorem dX3_link_80 : decode cX3_link 80 = .ok (.isub, 1) := by decide +kernel
theorem dX3_link_81 : decode cX3_link 81 = .ok (.invokevirtual 48, 3) := by decide +kernel
theorem dX3_link_84 : decode cX3_link 84 = .ok (.ireturn, 1) := by decide +kernel
theorem dX3_nearest_0 : decode cX3_nearest 0 = .ok (.aload_n 0, 1) := by decide +kernel
theorem dX3_nearest_1 : decode cX3_nearest 1 = .ok (.iload_n 3, 1) := by decide +kernel
theorem dX3_nearest_2 : decode cX3_nearest 2 = .ok (.bipush 40, 2) := by decide +kernel
theorem dX3_nearest_4 : decode cX3_nearest 4 = .ok (.imul, 1) := by decide +kernel
theorem dX3_nearest_5 : decode cX3_nearest 5 = .ok (.putfield 52, 3) := by decide +kernel
theorem dX3_nearest_8 : decode cX3_nearest 8 = .ok (.aload_n 0, 1) := by decide +kernel
theorem dX3_nearest_9 : decode cX3_nearest 9 = .ok (.getfield 11, 3) := by decide +kernel
theorem dX3_nearest_12 : decode cX3_nearest 12 = .ok (.iload_n 3, 1) := by decide +kernel
theorem dX3_nearest_13 : decode cX3_nearest 13 = .ok (.iaload, 1) := by decide +kernel
theorem dX3_nearest_14 : decode cX3_nearest 14 = .ok (.iload 4, 2) := by decide +kernel
theorem dX3_nearest_16 : decode cX3_nearest 16 = .ok (.if_icmp .eq 10, 3) := by decide +kernel
theorem dX3_nearest_19 : decode cX3_nearest 19 = .ok (.aload_n 0, 1) := by decide +kernel
theorem dX3_nearest_20 : decode cX3_nearest 20 = .ok (.iload_n 3, 1) := by decide +kernel
theorem dX3_nearest_21 : decode cX3_nearest 21 = .ok (.iload 4, 2) := by decide +kernel
theorem dX3_nearest_23 : decode cX3_nearest 23 = .ok (.invokevirtual 56, 3) := by decide +kernel
theorem dX3_nearest_26 : decode cX3_nearest 26 = .ok (.aload_n 0, 1) := by decide +kernel
theorem dX3_nearest_27 : decode cX3_nearest 27 = .ok (.iload_n 1, 1) := by decide +kernel
theorem dX3_nearest_28 : decode cX3_nearest 28 = .ok (.aload_n 0, 1) := by decide +kernel
theorem dX3_nearest_29 : decode cX3_nearest 29 = .ok (.getfield 18, 3) := by decide +kernel
theorem dX3_nearest_32 : decode cX3_nearest 32 = .ok (.invokevirtual 59, 3) := by decide +kernel
theorem dX3_nearest_35 : decode cX3_nearest 35 = .ok (.aload_n 0, 1) := by decide +kernel
theorem dX3_nearest_36 : decode cX3_nearest 36 = .ok (.iload_n 2, 1) := by decide +kernel
theorem dX3_nearest_37 : decode cX3_nearest 37 = .ok (.aload_n 0, 1) := by decide +kernel
theorem dX3_nearest_38 : decode cX3_nearest 38 = .ok (.getfield 21, 3) := by decide +kernel
theorem dX3_nearest_41 : decode cX3_nearest 41 = .ok (.invokevirtual 59, 3) := by decide +kernel
theorem dX3_nearest_44 : decode cX3_nearest 44 = .ok (.iconst (-1), 1) := by decide +kernel
theorem dX3_nearest_45 : decode cX3_nearest 45 = .ok (.istore 5, 2) := by decide +kernel
theorem dX3_nearest_47 : decode cX3_nearest 47 = .ok (.iconst 0, 1) := by decide +kernel
theorem dX3_nearest_48 : decode cX3_nearest 48 = .ok (.istore 6, 2) := by decide +kernel
theorem dX3_nearest_50 : decode cX3_nearest 50 = .ok (.iload 6, 2) := by decide +kernel
theorem dX3_nearest_52 : decode cX3_nearest 52 = .ok (.aload_n 0, 1) := by decide +kernel
theorem dX3_nearest_53 : decode cX3_nearest 53 = .ok (.getfield 30, 3) := by decide +kernel
theorem dX3_nearest_56 : decode cX3_nearest 56 = .ok (.getfield 63, 3) := by decide +kernel
theorem dX3_nearest_59 : decode cX3_nearest 59 = .ok (.getfield 69, 3) := by decide +kernel
theorem dX3_nearest_62 : decode cX3_nearest 62 = .ok (.if_icmp .ge 52, 3) := by decide +kernel
theorem dX3_nearest_65 : decode cX3_nearest 65 = .ok (.aload_n 0, 1) := by decide +kernel
theorem dX3_nearest_66 : decode cX3_nearest 66 = .ok (.getfield 18, 3) := by decide +kernel
theorem dX3_nearest_69 : decode cX3_nearest 69 = .ok (.iload 6, 2) := by decide +kernel
theorem dX3_nearest_71 : decode cX3_nearest 71 = .ok (.iaload, 1) := by decide +kernel
theorem dX3_nearest_72 : decode cX3_nearest 72 = .ok (.iconst (-1), 1) := by decide +kernel
theorem dX3_nearest_73 : decode cX3_nearest 73 = .ok (.if_icmp .eq 35, 3) := by decide +kernel
theorem dX3_nearest_76 : decode cX3_nearest 76 = .ok (.aload_n 0, 1) := by decide +kernel
theorem dX3_nearest_77 : decode cX3_nearest 77 = .ok (.getfield 21, 3) := by decide +kernel
theorem dX3_nearest_80 : decode cX3_nearest 80 = .ok (.iload 6, 2) := by decide +kernel
theorem dX3_nearest_82 : decode cX3_nearest 82 = .ok (.iaload, 1) := by decide +kernel
theorem dX3_nearest_83 : decode cX3_nearest 83 = .ok (.iconst (-1), 1) := by decide +kernel
theorem dX3_nearest_84 : decode cX3_nearest 84 = .ok (.if_icmp .eq 24, 3) := by decide +kernel
theorem dX3_nearest_87 : decode cX3_nearest 87 = .ok (.iload 5, 2) := by decide +kernel
theorem dX3_nearest_89 : decode cX3_nearest 89 = .ok (.iconst (-1), 1) := by decide +kernel
theorem dX3_nearest_90 : decode cX3_nearest 90 = .ok (.if_icmp .eq 14, 3) := by decide +kernel
theorem dX3_nearest_93 : decode cX3_nearest 93 = .ok (.aload_n 0, 1) := by decide +kernel
theorem dX3_nearest_94 : decode cX3_nearest 94 = .ok (.iload 6, 2) := by decide +kernel
theorem dX3_nearest_96 : decode cX3_nearest 96 = .ok (.iload 5, 2) := by decide +kernel
theorem dX3_nearest_98 : decode cX3_nearest 98 = .ok (.invokevirtual 74, 3) := by decide +kernel
theorem dX3_nearest_101 : decode cX3_nearest 101 = .ok (.ifCond .eq 7, 3) := by decide +kernel
theorem dX3_nearest_104 : decode cX3_nearest 104 = .ok (.iload 6, 2) := by decide +kernel
theorem dX3_nearest_106 : decode cX3_nearest 106 = .ok (.istore 5, 2) := by decide +kernel
theorem dX3_nearest_108 : decode cX3_nearest 108 = .ok (.iinc 6 1, 3) := by decide +kernel
theorem dX3_nearest_111 : decode cX3_nearest 111 = .ok (.goto (-61), 3) := by decide +kernel
theorem dX3_nearest_114 : decode cX3_nearest 114 = .ok (.iload 5, 2) := by decide +kernel
theorem dX3_nearest_116 : decode cX3_nearest 116 = .ok (.ireturn, 1) := by decide +kernel
theorem dX3_isNearer_0 : decode cX3_isNearer 0 = .ok (.aload_n 0, 1) := by decide +kernel
theorem dX3_isNearer_1 : decode cX3_isNearer 1 = .ok (.getfield 18, 3) := by decide +kernel
theorem dX3_isNearer_4 : decode cX3_isNearer 4 = .ok (.iload_n 1, 1) := by decide +kernel
theorem dX3_isNearer_5 : decode cX3_isNearer 5 = .ok (.iaload, 1) := by decide +kernel
theorem dX3_isNearer_6 : decode cX3_isNearer 6 = .ok (.aload_n 0, 1) := by decide +kernel
theorem dX3_isNearer_7 : decode cX3_isNearer 7 = .ok (.getfield 21, 3) := by decide +kernel
theorem dX3_isNearer_10 : decode cX3_isNearer 10 = .ok (.iload_n 1, 1) := by decide +kernel
theorem dX3_isNearer_11 : decode cX3_isNearer 11 = .ok (.iaload, 1) := by decide +kernel
theorem dX3_isNearer_12 : decode cX3_isNearer 12 = .ok (.iadd, 1) := by decide +kernel
theorem dX3_isNearer_13 : decode cX3_isNearer 13 = .ok (.istore_n 3, 1) := by decide +kernel
theorem dX3_isNearer_14 : decode cX3_isNearer 14 = .ok (.aload_n 0, 1) := by decide +kernel
theorem dX3_isNearer_15 : decode cX3_isNearer 15 = .ok (.getfield 18, 3) := by decide +kernel
theorem dX3_isNearer_18 : decode cX3_isNearer 18 = .ok (.iload_n 2, 1) := by decide +kernel
theorem dX3_isNearer_19 : decode cX3_isNearer 19 = .ok (.iaload, 1) := by decide +kernel
theorem dX3_isNearer_20 : decode cX3_isNearer 20 = .ok (.aload_n 0, 1) := by decide +kernel
theorem dX3_isNearer_21 : decode cX3_isNearer 21 = .ok (.getfield 21, 3) := by decide +kernel
theorem dX3_isNearer_24 : decode cX3_isNearer 24 = .ok (.iload_n 2, 1) := by decide +kernel
theorem dX3_isNearer_25 : decode cX3_isNearer 25 = .ok (.iaload, 1) := by decide +kernel
theorem dX3_isNearer_26 : decode cX3_isNearer 26 = .ok (.iadd, 1) := by decide +kernel
theorem dX3_isNearer_27 : decode cX3_isNearer 27 = .ok (.istore 4, 2) := by decide +kernel
theorem dX3_isNearer_29 : decode cX3_isNearer 29 = .ok (.iload_n 3, 1) := by decide +kernel
theorem dX3_isNearer_30 : decode cX3_isNearer 30 = .ok (.iload 4, 2) := by decide +kernel
theorem dX3_isNearer_32 : decode cX3_isNearer 32 = .ok (.if_icmp .lt 24, 3) := by decide +kernel
theorem dX3_isNearer_35 : decode cX3_isNearer 35 = .ok (.iload_n 3, 1) := by decide +kernel
theorem dX3_isNearer_36 : decode cX3_isNearer 36 = .ok (.iload 4, 2) := by decide +kernel
theorem dX3_isNearer_38 : decode cX3_isNearer 38 = .ok (.if_icmp .ne 22, 3) := by decide +kernel
theorem dX3_isNearer_41 : decode cX3_isNearer 41 = .ok (.aload_n 0, 1) := by decide +kernel
theorem dX3_isNearer_42 : decode cX3_isNearer 42 = .ok (.getfield 18, 3) := by decide +kernel
theorem dX3_isNearer_45 : decode cX3_isNearer 45 = .ok (.iload_n 1, 1) := by decide +kernel
theorem dX3_isNearer_46 : decode cX3_isNearer 46 = .ok (.iaload, 1) := by decide +kernel
theorem dX3_isNearer_47 : decode cX3_isNearer 47 = .ok (.aload_n 0, 1) := by decide +kernel
theorem dX3_isNearer_48 : decode cX3_isNearer 48 = .ok (.getfield 18, 3) := by decide +kernel
theorem dX3_isNearer_51 : decode cX3_isNearer 51 = .ok (.iload_n 2, 1) := by decide +kernel
theorem dX3_isNearer_52 : decode cX3_isNearer 52 = .ok (.iaload, 1) := by decide +kernel
theorem dX3_isNearer_53 : decode cX3_isNearer 53 = .ok (.if_icmp .ge 7, 3) := by decide +kernel
theorem dX3_isNearer_56 : decode cX3_isNearer 56 = .ok (.iconst 1, 1) := by decide +kernel
theorem dX3_isNearer_57 : decode cX3_isNearer 57 = .ok (.goto 4, 3) := by decide +kernel
theorem dX3_isNearer_60 : decode cX3_isNearer 60 = .ok (.iconst 0, 1) := by decide +kernel
theorem dX3_isNearer_61 : decode cX3_isNearer 61 = .ok (.ireturn, 1) := by decide +kernel
theorem dX3_fill_0 : decode cX3_fill 0 = .ok (.aload_n 0, 1) := by decide +kernel
theorem dX3_fill_1 : decode cX3_fill 1 = .ok (.getfield 11, 3) := by decide +kernel
theorem dX3_fill_4 : decode cX3_fill 4 = .ok (.iload_n 1, 1) := by decide +kernel
theorem dX3_fill_5 : decode cX3_fill 5 = .ok (.iload_n 2, 1) := by decide +kernel
theorem dX3_fill_6 : decode cX3_fill 6 = .ok (.iastore, 1) := by decide +kernel
theorem dX3_fill_7 : decode cX3_fill 7 = .ok (.aload_n 0, 1) := by decide +kernel
theorem dX3_fill_8 : decode cX3_fill 8 = .ok (.getfield 15, 3) := by decide +kernel
theorem dX3_fill_11 : decode cX3_fill 11 = .ok (.aload_n 0, 1) := by decide +kernel
theorem dX3_fill_12 : decode cX3_fill 12 = .ok (.getfield 52, 3) := by decide +kernel
theorem dX3_fill_15 : decode cX3_fill 15 = .ok (.bipush 40, 2) := by decide +kernel
theorem dX3_fill_17 : decode cX3_fill 17 = .ok (.invokestatic 78, 3) := by decide +kernel
theorem dX3_fill_20 : decode cX3_fill 20 = .ok (.aload_n 0, 1) := by decide +kernel
theorem dX3_fill_21 : decode cX3_fill 21 = .ok (.getfield 30, 3) := by decide +kernel
theorem dX3_fill_24 : decode cX3_fill 24 = .ok (.getfield 82, 3) := by decide +kernel
theorem dX3_fill_27 : decode cX3_fill 27 = .ok (.astore_n 3, 1) := by decide +kernel
theorem dX3_fill_28 : decode cX3_fill 28 = .ok (.iconst 0, 1) := by decide +kernel
theorem dX3_fill_29 : decode cX3_fill 29 = .ok (.istore 4, 2) := by decide +kernel
theorem dX3_fill_31 : decode cX3_fill 31 = .ok (.iload 4, 2) := by decide +kernel
theorem dX3_fill_33 : decode cX3_fill 33 = .ok (.aload_n 3, 1) := by decide +kernel
theorem dX3_fill_34 : decode cX3_fill 34 = .ok (.getfield 86, 3) := by decide +kernel
theorem dX3_fill_37 : decode cX3_fill 37 = .ok (.if_icmp .ge 74, 3) := by decide +kernel
theorem dX3_fill_40 : decode cX3_fill 40 = .ok (.aload_n 3, 1) := by decide +kernel
theorem dX3_fill_41 : decode cX3_fill 41 = .ok (.iload 4, 2) := by decide +kernel
theorem dX3_fill_43 : decode cX3_fill 43 = .ok (.iload_n 1, 1) := by decide +kernel
theorem dX3_fill_44 : decode cX3_fill 44 = .ok (.invokevirtual 89, 3) := by decide +kernel
theorem dX3_fill_47 : decode cX3_fill 47 = .ok (.istore 5, 2) := by decide +kernel
theorem dX3_fill_49 : decode cX3_fill 49 = .ok (.iload 5, 2) := by decide +kernel
theorem dX3_fill_51 : decode cX3_fill 51 = .ok (.iconst (-1), 1) := by decide +kernel
theorem dX3_fill_52 : decode cX3_fill 52 = .ok (.if_icmp .eq 53, 3) := by decide +kernel
theorem dX3_fill_55 : decode cX3_fill 55 = .ok (.iload 5, 2) := by decide +kernel
theorem dX3_fill_57 : decode cX3_fill 57 = .ok (.iload_n 2, 1) := by decide +kernel
theorem dX3_fill_58 : decode cX3_fill 58 = .ok (.if_icmp .gt 47, 3) := by decide +kernel
theorem dX3_fill_61 : decode cX3_fill 61 = .ok (.aload_n 3, 1) := by decide +kernel
theorem dX3_fill_62 : decode cX3_fill 62 = .ok (.getfield 92, 3) := by decide +kernel
theorem dX3_fill_65 : decode cX3_fill 65 = .ok (.iload 4, 2) := by decide +kernel
theorem dX3_fill_67 : decode cX3_fill 67 = .ok (.iaload, 1) := by decide +kernel
theorem dX3_fill_68 : decode cX3_fill 68 = .ok (.istore 6, 2) := by decide +kernel
theorem dX3_fill_70 : decode cX3_fill 70 = .ok (.aload_n 0, 1) := by decide +kernel
theorem dX3_fill_71 : decode cX3_fill 71 = .ok (.getfield 15, 3) := by decide +kernel
theorem dX3_fill_74 : decode cX3_fill 74 = .ok (.aload_n 0, 1) := by decide +kernel
theorem dX3_fill_75 : decode cX3_fill 75 = .ok (.getfield 52, 3) := by decide +kernel
theorem dX3_fill_78 : decode cX3_fill 78 = .ok (.aload_n 3, 1) := by decide +kernel
theorem dX3_fill_79 : decode cX3_fill 79 = .ok (.getfield 95, 3) := by decide +kernel
theorem dX3_fill_82 : decode cX3_fill 82 = .ok (.iload 4, 2) := by decide +kernel
theorem dX3_fill_84 : decode cX3_fill 84 = .ok (.iaload, 1) := by decide +kernel
theorem dX3_fill_85 : decode cX3_fill 85 = .ok (.iconst 2, 1) := by decide +kernel
theorem dX3_fill_86 : decode cX3_fill 86 = .ok (.imul, 1) := by decide +kernel
theorem dX3_fill_87 : decode cX3_fill 87 = .ok (.iadd, 1) := by decide +kernel
theorem dX3_fill_88 : decode cX3_fill 88 = .ok (.aload_n 0, 1) := by decide +kernel
theorem dX3_fill_89 : decode cX3_fill 89 = .ok (.getfield 30, 3) := by decide +kernel
theorem dX3_fill_92 : decode cX3_fill 92 = .ok (.getfield 63, 3) := by decide +kernel
theorem dX3_fill_95 : decode cX3_fill 95 = .ok (.getfield 98, 3) := by decide +kernel
theorem dX3_fill_98 : decode cX3_fill 98 = .ok (.iload 6, 2) := by decide +kernel
theorem dX3_fill_100 : decode cX3_fill 100 = .ok (.iaload, 1) := by decide +kernel
theorem dX3_fill_101 : decode cX3_fill 101 = .ok (.iadd, 1) := by decide +kernel
theorem dX3_fill_102 : decode cX3_fill 102 = .ok (.iload 6, 2) := by decide +kernel
theorem dX3_fill_104 : decode cX3_fill 104 = .ok (.iastore, 1) := by decide +kernel
theorem dX3_fill_105 : decode cX3_fill 105 = .ok (.iinc 4 1, 3) := by decide +kernel
theorem dX3_fill_108 : decode cX3_fill 108 = .ok (.goto (-77), 3) := by decide +kernel
theorem dX3_fill_111 : decode cX3_fill 111 = .ok (.return_, 1) := by decide +kernel
theorem dX3_climb_0 : decode cX3_climb 0 = .ok (.aload_n 2, 1) := by decide +kernel
theorem dX3_climb_1 : decode cX3_climb 1 = .ok (.iconst (-1), 1) := by decide +kernel
theorem dX3_climb_2 : decode cX3_climb 2 = .ok (.invokestatic 34, 3) := by decide +kernel
theorem dX3_climb_5 : decode cX3_climb 5 = .ok (.aload_n 2, 1) := by decide +kernel
theorem dX3_climb_6 : decode cX3_climb 6 = .ok (.iload_n 1, 1) := by decide +kernel
theorem dX3_climb_7 : decode cX3_climb 7 = .ok (.iconst 0, 1) := by decide +kernel
theorem dX3_climb_8 : decode cX3_climb 8 = .ok (.iastore, 1) := by decide +kernel
theorem dX3_climb_9 : decode cX3_climb 9 = .ok (.aload_n 0, 1) := by decide +kernel
theorem dX3_climb_10 : decode cX3_climb 10 = .ok (.getfield 27, 3) := by decide +kernel
theorem dX3_climb_13 : decode cX3_climb 13 = .ok (.iconst 0, 1) := by decide +kernel
theorem dX3_climb_14 : decode cX3_climb 14 = .ok (.iload_n 1, 1) := by decide +kernel
theorem dX3_climb_15 : decode cX3_climb 15 = .ok (.iastore, 1) := by decide +kernel
theorem dX3_climb_16 : decode cX3_climb 16 = .ok (.iconst 1, 1) := by decide +kernel
theorem dX3_climb_17 : decode cX3_climb 17 = .ok (.istore_n 3, 1) := by decide +kernel
theorem dX3_climb_18 : decode cX3_climb 18 = .ok (.iconst 0, 1) := by decide +kernel
theorem dX3_climb_19 : decode cX3_climb 19 = .ok (.istore 4, 2) := by decide +kernel
theorem dX3_climb_21 : decode cX3_climb 21 = .ok (.iload 4, 2) := by decide +kernel
theorem dX3_climb_23 : decode cX3_climb 23 = .ok (.iload_n 3, 1) := by decide +kernel
theorem dX3_climb_24 : decode cX3_climb 24 = .ok (.if_icmp .ge 106, 3) := by decide +kernel
theorem dX3_climb_27 : decode cX3_climb 27 = .ok (.iload 4, 2) := by decide +kernel
theorem dX3_climb_29 : decode cX3_climb 29 = .ok (.bipush 20, 2) := by decide +kernel
theorem dX3_climb_31 : decode cX3_climb 31 = .ok (.if_icmp .ge 99, 3) := by decide +kernel
theorem dX3_climb_34 : decode cX3_climb 34 = .ok (.aload_n 0, 1) := by decide +kernel
theorem dX3_climb_35 : decode cX3_climb 35 = .ok (.getfield 52, 3) := by decide +kernel
theorem dX3_climb_38 : decode cX3_climb 38 = .ok (.aload_n 0, 1) := by decide +kernel
theorem dX3_climb_39 : decode cX3_climb 39 = .ok (.getfield 27, 3) := by decide +kernel
theorem dX3_climb_42 : decode cX3_climb 42 = .ok (.iload 4, 2) := by decide +kernel
theorem dX3_climb_44 : decode cX3_climb 44 = .ok (.iaload, 1) := by decide +kernel
theorem dX3_climb_45 : decode cX3_climb 45 = .ok (.iconst 2, 1) := by decide +kernel
theorem dX3_climb_46 : decode cX3_climb 46 = .ok (.imul, 1) := by decide +kernel
theorem dX3_climb_47 : decode cX3_climb 47 = .ok (.iadd, 1) := by decide +kernel
theorem dX3_climb_48 : decode cX3_climb 48 = .ok (.istore 5, 2) := by decide +kernel
theorem dX3_climb_50 : decode cX3_climb 50 = .ok (.iload 5, 2) := by decide +kernel
theorem dX3_climb_52 : decode cX3_climb 52 = .ok (.istore 6, 2) := by decide +kernel
theorem dX3_climb_54 : decode cX3_climb 54 = .ok (.iload 6, 2) := by decide +kernel
theorem dX3_climb_56 : decode cX3_climb 56 = .ok (.iload 5, 2) := by decide +kernel
theorem dX3_climb_58 : decode cX3_climb 58 = .ok (.iconst 2, 1) := by decide +kernel
theorem dX3_climb_59 : decode cX3_climb 59 = .ok (.iadd, 1) := by decide +kernel
theorem dX3_climb_60 : decode cX3_climb 60 = .ok (.if_icmp .ge 64, 3) := by decide +kernel
theorem dX3_climb_63 : decode cX3_climb 63 = .ok (.aload_n 0, 1) := by decide +kernel
theorem dX3_climb_64 : decode cX3_climb 64 = .ok (.getfield 15, 3) := by decide +kernel
theorem dX3_climb_67 : decode cX3_climb 67 = .ok (.iload 6, 2) := by decide +kernel
theorem dX3_climb_69 : decode cX3_climb 69 = .ok (.iaload, 1) := by decide +kernel
theorem dX3_climb_70 : decode cX3_climb 70 = .ok (.istore 7, 2) := by decide +kernel
theorem dX3_climb_72 : decode cX3_climb 72 = .ok (.iload 7, 2) := by decide +kernel
theorem dX3_climb_74 : decode cX3_climb 74 = .ok (.iconst (-1), 1) := by decide +kernel
theorem dX3_climb_75 : decode cX3_climb 75 = .ok (.if_icmp .eq 43, 3) := by decide +kernel
theorem dX3_climb_78 : decode cX3_climb 78 = .ok (.aload_n 2, 1) := by decide +kernel
theorem dX3_climb_79 : decode cX3_climb 79 = .ok (.iload 7, 2) := by decide +kernel
theorem dX3_climb_81 : decode cX3_climb 81 = .ok (.iaload, 1) := by decide +kernel
theorem dX3_climb_82 : decode cX3_climb 82 = .ok (.iconst (-1), 1) := by decide +kernel
theorem dX3_climb_83 : decode cX3_climb 83 = .ok (.if_icmp .ne 35, 3) := by decide +kernel
theorem dX3_climb_86 : decode cX3_climb 86 = .ok (.iload_n 3, 1) := by decide +kernel
theorem dX3_climb_87 : decode cX3_climb 87 = .ok (.bipush 20, 2) := by decide +kernel
theorem dX3_climb_89 : decode cX3_climb 89 = .ok (.if_icmp .ge 29, 3) := by decide +kernel
theorem dX3_climb_92 : decode cX3_climb 92 = .ok (.aload_n 2, 1) := by decide +kernel
theorem dX3_climb_93 : decode cX3_climb 93 = .ok (.iload 7, 2) := by decide +kernel
theorem dX3_climb_95 : decode cX3_climb 95 = .ok (.aload_n 2, 1) := by decide +kernel
theorem dX3_climb_96 : decode cX3_climb 96 = .ok (.aload_n 0, 1) := by decide +kernel
theorem dX3_climb_97 : decode cX3_climb 97 = .ok (.getfield 27, 3) := by decide +kernel
theorem dX3_climb_100 : decode cX3_climb 100 = .ok (.iload 4, 2) := by decide +kernel
theorem dX3_climb_102 : decode cX3_climb 102 = .ok (.iaload, 1) := by decide +kernel
theorem dX3_climb_103 : decode cX3_climb 103 = .ok (.iaload, 1) := by decide +kernel
theorem dX3_climb_104 : decode cX3_climb 104 = .ok (.iconst 1, 1) := by decide +kernel
theorem dX3_climb_105 : decode cX3_climb 105 = .ok (.iadd, 1) := by decide +kernel
theorem dX3_climb_106 : decode cX3_climb 106 = .ok (.iastore, 1) := by decide +kernel
theorem dX3_climb_107 : decode cX3_climb 107 = .ok (.aload_n 0, 1) := by decide +kernel
theorem dX3_climb_108 : decode cX3_climb 108 = .ok (.getfield 27, 3) := by decide +kernel
theorem dX3_climb_111 : decode cX3_climb 111 = .ok (.iload_n 3, 1) := by decide +kernel
theorem dX3_climb_112 : decode cX3_climb 112 = .ok (.iload 7, 2) := by decide +kernel
theorem dX3_climb_114 : decode cX3_climb 114 = .ok (.iastore, 1) := by decide +kernel
theorem dX3_climb_115 : decode cX3_climb 115 = .ok (.iinc 3 1, 3) := by decide +kernel
theorem dX3_climb_118 : decode cX3_climb 118 = .ok (.iinc 6 1, 3) := by decide +kernel
theorem dX3_climb_121 : decode cX3_climb 121 = .ok (.goto (-67), 3) := by decide +kernel
theorem dX3_climb_124 : decode cX3_climb 124 = .ok (.iinc 4 1, 3) := by decide +kernel
theorem dX3_climb_127 : decode cX3_climb 127 = .ok (.goto (-106), 3) := by decide +kernel
theorem dX3_climb_130 : decode cX3_climb 130 = .ok (.return_, 1) := by decide +kernel
theorem dX3_descend_0 : decode cX3_descend 0 = .ok (.aload_n 0, 1) := by decide +kernel
theorem dX3_descend_1 : decode cX3_descend 1 = .ok (.getfield 24, 3) := by decide +kernel
theorem dX3_descend_4 : decode cX3_descend 4 = .ok (.iconst (-1), 1) := by decide +kernel
theorem dX3_descend_5 : decode cX3_descend 5 = .ok (.invokestatic 34, 3) := by decide +kernel
theorem dX3_descend_8 : decode cX3_descend 8 = .ok (.aload_n 0, 1) := by decide +kernel
theorem dX3_descend_9 : decode cX3_descend 9 = .ok (.getfield 24, 3) := by decide +kernel
theorem dX3_descend_12 : decode cX3_descend 12 = .ok (.iload_n 1, 1) := by decide +kernel
theorem dX3_descend_13 : decode cX3_descend 13 = .ok (.iconst 0, 1) := by decide +kernel
theorem dX3_descend_14 : decode cX3_descend 14 = .ok (.iastore, 1) := by decide +kernel
theorem dX3_descend_15 : decode cX3_descend 15 = .ok (.aload_n 0, 1) := by decide +kernel
theorem dX3_descend_16 : decode cX3_descend 16 = .ok (.getfield 27, 3) := by decide +kernel
theorem dX3_descend_19 : decode cX3_descend 19 = .ok (.iconst 0, 1) := by decide +kernel
theorem dX3_descend_20 : decode cX3_descend 20 = .ok (.iload_n 1, 1) := by decide +kernel
theorem dX3_descend_21 : decode cX3_descend 21 = .ok (.iastore, 1) := by decide +kernel
theorem dX3_descend_22 : decode cX3_descend 22 = .ok (.iconst 1, 1) := by decide +kernel
theorem dX3_descend_23 : decode cX3_descend 23 = .ok (.istore_n 2, 1) := by decide +kernel
theorem dX3_descend_24 : decode cX3_descend 24 = .ok (.iconst 0, 1) := by decide +kernel
theorem dX3_descend_25 : decode cX3_descend 25 = .ok (.istore_n 3, 1) := by decide +kernel
theorem dX3_descend_26 : decode cX3_descend 26 = .ok (.iload_n 3, 1) := by decide +kernel
theorem dX3_descend_27 : decode cX3_descend 27 = .ok (.iload_n 2, 1) := by decide +kernel
theorem dX3_descend_28 : decode cX3_descend 28 = .ok (.if_icmp .ge 102, 3) := by decide +kernel
theorem dX3_descend_31 : decode cX3_descend 31 = .ok (.iload_n 3, 1) := by decide +kernel
theorem dX3_descend_32 : decode cX3_descend 32 = .ok (.bipush 20, 2) := by decide +kernel
theorem dX3_descend_34 : decode cX3_descend 34 = .ok (.if_icmp .ge 96, 3) := by decide +kernel
theorem dX3_descend_37 : decode cX3_descend 37 = .ok (.iconst 0, 1) := by decide +kernel
theorem dX3_descend_38 : decode cX3_descend 38 = .ok (.istore 4, 2) := by decide +kernel
theorem dX3_descend_40 : decode cX3_descend 40 = .ok (.iload 4, 2) := by decide +kernel
theorem dX3_descend_42 : decode cX3_descend 42 = .ok (.aload_n 0, 1) := by decide +kernel
theorem dX3_descend_43 : decode cX3_descend 43 = .ok (.getfield 30, 3) := by decide +kernel
theorem dX3_descend_46 : decode cX3_descend 46 = .ok (.getfield 63, 3) := by decide +kernel
theorem dX3_descend_49 : decode cX3_descend 49 = .ok (.getfield 69, 3) := by decide +kernel
theorem dX3_descend_52 : decode cX3_descend 52 = .ok (.if_icmp .ge 72, 3) := by decide +kernel
theorem dX3_descend_55 : decode cX3_descend 55 = .ok (.aload_n 0, 1) := by decide +kernel
theorem dX3_descend_56 : decode cX3_descend 56 = .ok (.iload 4, 2) := by decide +kernel
theorem dX3_descend_58 : decode cX3_descend 58 = .ok (.aload_n 0, 1) := by decide +kernel
theorem dX3_descend_59 : decode cX3_descend 59 = .ok (.getfield 27, 3) := by decide +kernel
theorem dX3_descend_62 : decode cX3_descend 62 = .ok (.iload_n 3, 1) := by decide +kernel
theorem dX3_descend_63 : decode cX3_descend 63 = .ok (.iaload, 1) := by decide +kernel
theorem dX3_descend_64 : decode cX3_descend 64 = .ok (.invokevirtual 101, 3) := by decide +kernel
theorem dX3_descend_67 : decode cX3_descend 67 = .ok (.ifCond .eq 51, 3) := by decide +kernel
theorem dX3_descend_70 : decode cX3_descend 70 = .ok (.aload_n 0, 1) := by decide +kernel
theorem dX3_descend_71 : decode cX3_descend 71 = .ok (.getfield 24, 3) := by decide +kernel
theorem dX3_descend_74 : decode cX3_descend 74 = .ok (.iload 4, 2) := by decide +kernel
theorem dX3_descend_76 : decode cX3_descend 76 = .ok (.iaload, 1) := by decide +kernel
theorem dX3_descend_77 : decode cX3_descend 77 = .ok (.iconst (-1), 1) := by decide +kernel
theorem dX3_descend_78 : decode cX3_descend 78 = .ok (.if_icmp .ne 40, 3) := by decide +kernel
theorem dX3_descend_81 : decode cX3_descend 81 = .ok (.iload_n 2, 1) := by decide +kernel
theorem dX3_descend_82 : decode cX3_descend 82 = .ok (.bipush 20, 2) := by decide +kernel
theorem dX3_descend_84 : decode cX3_descend 84 = .ok (.if_icmp .ge 34, 3) := by decide +kernel
theorem dX3_descend_87 : decode cX3_descend 87 = .ok (.aload_n 0, 1) := by decide +kernel
theorem dX3_descend_88 : decode cX3_descend 88 = .ok (.getfield 24, 3) := by decide +kernel
theorem dX3_descend_91 : decode cX3_descend 91 = .ok (.iload 4, 2) := by decide +kernel
theorem dX3_descend_93 : decode cX3_descend 93 = .ok (.aload_n 0, 1) := by decide +kernel
theorem dX3_descend_94 : decode cX3_descend 94 = .ok (.getfield 24, 3) := by decide +kernel
theorem dX3_descend_97 : decode cX3_descend 97 = .ok (.aload_n 0, 1) := by decide +kernel
theorem dX3_descend_98 : decode cX3_descend 98 = .ok (.getfield 27, 3) := by decide +kernel
theorem dX3_descend_101 : decode cX3_descend 101 = .ok (.iload_n 3, 1) := by decide +kernel
theorem dX3_descend_102 : decode cX3_descend 102 = .ok (.iaload, 1) := by decide +kernel
theorem dX3_descend_103 : decode cX3_descend 103 = .ok (.iaload, 1) := by decide +kernel
theorem dX3_descend_104 : decode cX3_descend 104 = .ok (.iconst 1, 1) := by decide +kernel
theorem dX3_descend_105 : decode cX3_descend 105 = .ok (.iadd, 1) := by decide +kernel
theorem dX3_descend_106 : decode cX3_descend 106 = .ok (.iastore, 1) := by decide +kernel
theorem dX3_descend_107 : decode cX3_descend 107 = .ok (.aload_n 0, 1) := by decide +kernel
theorem dX3_descend_108 : decode cX3_descend 108 = .ok (.getfield 27, 3) := by decide +kernel
theorem dX3_descend_111 : decode cX3_descend 111 = .ok (.iload_n 2, 1) := by decide +kernel
theorem dX3_descend_112 : decode cX3_descend 112 = .ok (.iload 4, 2) := by decide +kernel
theorem dX3_descend_114 : decode cX3_descend 114 = .ok (.iastore, 1) := by decide +kernel
theorem dX3_descend_115 : decode cX3_descend 115 = .ok (.iinc 2 1, 3) := by decide +kernel
theorem dX3_descend_118 : decode cX3_descend 118 = .ok (.iinc 4 1, 3) := by decide +kernel
theorem dX3_descend_121 : decode cX3_descend 121 = .ok (.goto (-81), 3) := by decide +kernel
theorem dX3_descend_124 : decode cX3_descend 124 = .ok (.iinc 3 1, 3) := by decide +kernel
theorem dX3_descend_127 : decode cX3_descend 127 = .ok (.goto (-101), 3) := by decide +kernel
theorem dX3_descend_130 : decode cX3_descend 130 = .ok (.return_, 1) := by decide +kernel
theorem dX3_isChildOf_0 : decode cX3_isChildOf 0 = .ok (.aload_n 0, 1) := by decide +kernel
theorem dX3_isChildOf_1 : decode cX3_isChildOf 1 = .ok (.getfield 52, 3) := by decide +kernel
theorem dX3_isChildOf_4 : decode cX3_isChildOf 4 = .ok (.iload_n 1, 1) := by decide +kernel
theorem dX3_isChildOf_5 : decode cX3_isChildOf 5 = .ok (.iconst 2, 1) := by decide +kernel
theorem dX3_isChildOf_6 : decode cX3_isChildOf 6 = .ok (.imul, 1) := by decide +kernel
theorem dX3_isChildOf_7 : decode cX3_isChildOf 7 = .ok (.iadd, 1) := by decide +kernel
theorem dX3_isChildOf_8 : decode cX3_isChildOf 8 = .ok (.istore_n 3, 1) := by decide +kernel
theorem dX3_isChildOf_9 : decode cX3_isChildOf 9 = .ok (.aload_n 0, 1) := by decide +kernel
theorem dX3_isChildOf_10 : decode cX3_isChildOf 10 = .ok (.getfield 15, 3) := by decide +kernel
theorem dX3_isChildOf_13 : decode cX3_isChildOf 13 = .ok (.iload_n 3, 1) := by decide +kernel
theorem dX3_isChildOf_14 : decode cX3_isChildOf 14 = .ok (.iaload, 1) := by decide +kernel
theorem dX3_isChildOf_15 : decode cX3_isChildOf 15 = .ok (.iload_n 2, 1) := by decide +kernel
theorem dX3_isChildOf_16 : decode cX3_isChildOf 16 = .ok (.if_icmp .eq 15, 3) := by decide +kernel
theorem dX3_isChildOf_19 : decode cX3_isChildOf 19 = .ok (.aload_n 0, 1) := by decide +kernel
theorem dX3_isChildOf_20 : decode cX3_isChildOf 20 = .ok (.getfield 15, 3) := by decide +kernel
theorem dX3_isChildOf_23 : decode cX3_isChildOf 23 = .ok (.iload_n 3, 1) := by decide +kernel
theorem dX3_isChildOf_24 : decode cX3_isChildOf 24 = .ok (.iconst 1, 1) := by decide +kernel
theorem dX3_isChildOf_25 : decode cX3_isChildOf 25 = .ok (.iadd, 1) := by decide +kernel
theorem dX3_isChildOf_26 : decode cX3_isChildOf 26 = .ok (.iaload, 1) := by decide +kernel
theorem dX3_isChildOf_27 : decode cX3_isChildOf 27 = .ok (.iload_n 2, 1) := by decide +kernel
theorem dX3_isChildOf_28 : decode cX3_isChildOf 28 = .ok (.if_icmp .ne 7, 3) := by decide +kernel
theorem dX3_isChildOf_31 : decode cX3_isChildOf 31 = .ok (.iconst 1, 1) := by decide +kernel
theorem dX3_isChildOf_32 : decode cX3_isChildOf 32 = .ok (.goto 4, 3) := by decide +kernel
theorem dX3_isChildOf_35 : decode cX3_isChildOf 35 = .ok (.iconst 0, 1) := by decide +kernel
theorem dX3_isChildOf_36 : decode cX3_isChildOf 36 = .ok (.ireturn, 1) := by decide +kernel
theorem dX3_rise_0 : decode cX3_rise 0 = .ok (.aload_n 0, 1) := by decide +kernel
theorem dX3_rise_1 : decode cX3_rise 1 = .ok (.iload_n 2, 1) := by decide +kernel
theorem dX3_rise_2 : decode cX3_rise 2 = .ok (.invokevirtual 104, 3) := by decide +kernel
theorem dX3_rise_5 : decode cX3_rise 5 = .ok (.iload_n 1, 1) := by decide +kernel
theorem dX3_rise_6 : decode cX3_rise 6 = .ok (.istore 4, 2) := by decide +kernel
theorem dX3_rise_8 : decode cX3_rise 8 = .ok (.iconst 1, 1) := by decide +kernel
theorem dX3_rise_9 : decode cX3_rise 9 = .ok (.istore 5, 2) := by decide +kernel
theorem dX3_rise_11 : decode cX3_rise 11 = .ok (.iload 5, 2) := by decide +kernel
theorem dX3_rise_13 : decode cX3_rise 13 = .ok (.iload_n 3, 1) := by decide +kernel
theorem dX3_rise_14 : decode cX3_rise 14 = .ok (.if_icmp .gt 32, 3) := by decide +kernel
theorem dX3_rise_17 : decode cX3_rise 17 = .ok (.iload 4, 2) := by decide +kernel
theorem dX3_rise_19 : decode cX3_rise 19 = .ok (.iconst (-1), 1) := by decide +kernel
theorem dX3_rise_20 : decode cX3_rise 20 = .ok (.if_icmp .eq 26, 3) := by decide +kernel
theorem dX3_rise_23 : decode cX3_rise 23 = .ok (.aload_n 0, 1) := by decide +kernel
theorem dX3_rise_24 : decode cX3_rise 24 = .ok (.iload 4, 2) := by decide +kernel
theorem dX3_rise_26 : decode cX3_rise 26 = .ok (.aload_n 0, 1) := by decide +kernel
theorem dX3_rise_27 : decode cX3_rise 27 = .ok (.getfield 18, 3) := by decide +kernel
theorem dX3_rise_30 : decode cX3_rise 30 = .ok (.iload_n 2, 1) := by decide +kernel
theorem dX3_rise_31 : decode cX3_rise 31 = .ok (.iaload, 1) := by decide +kernel
theorem dX3_rise_32 : decode cX3_rise 32 = .ok (.iload 5, 2) := by decide +kernel
theorem dX3_rise_34 : decode cX3_rise 34 = .ok (.isub, 1) := by decide +kernel
theorem dX3_rise_35 : decode cX3_rise 35 = .ok (.invokevirtual 108, 3) := by decide +kernel
theorem dX3_rise_38 : decode cX3_rise 38 = .ok (.istore 4, 2) := by decide +kernel
theorem dX3_rise_40 : decode cX3_rise 40 = .ok (.iinc 5 1, 3) := by decide +kernel
theorem dX3_rise_43 : decode cX3_rise 43 = .ok (.goto (-32), 3) := by decide +kernel
theorem dX3_rise_46 : decode cX3_rise 46 = .ok (.iload 4, 2) := by decide +kernel
theorem dX3_rise_48 : decode cX3_rise 48 = .ok (.ireturn, 1) := by decide +kernel
theorem dX3_leastParent_0 : decode cX3_leastParent 0 = .ok (.iconst 0, 1) := by decide +kernel
theorem dX3_leastParent_1 : decode cX3_leastParent 1 = .ok (.istore_n 3, 1) := by decide +kernel
theorem dX3_leastParent_2 : decode cX3_leastParent 2 = .ok (.iload_n 3, 1) := by decide +kernel
theorem dX3_leastParent_3 : decode cX3_leastParent 3 = .ok (.aload_n 0, 1) := by decide +kernel
theorem dX3_leastParent_4 : decode cX3_leastParent 4 = .ok (.getfield 30, 3) := by decide +kernel
theorem dX3_leastParent_7 : decode cX3_leastParent 7 = .ok (.getfield 63, 3) := by decide +kernel
theorem dX3_leastParent_10 : decode cX3_leastParent 10 = .ok (.getfield 69, 3) := by decide +kernel
theorem dX3_leastParent_13 : decode cX3_leastParent 13 = .ok (.if_icmp .ge 30, 3) := by decide +kernel
theorem dX3_leastParent_16 : decode cX3_leastParent 16 = .ok (.aload_n 0, 1) := by decide +kernel
theorem dX3_leastParent_17 : decode cX3_leastParent 17 = .ok (.iload_n 1, 1) := by decide +kernel
theorem dX3_leastParent_18 : decode cX3_leastParent 18 = .ok (.iload_n 3, 1) := by decide +kernel
theorem dX3_leastParent_19 : decode cX3_leastParent 19 = .ok (.invokevirtual 101, 3) := by decide +kernel
theorem dX3_leastParent_22 : decode cX3_leastParent 22 = .ok (.ifCond .eq 15, 3) := by decide +kernel
theorem dX3_leastParent_25 : decode cX3_leastParent 25 = .ok (.aload_n 0, 1) := by decide +kernel
theorem dX3_leastParent_26 : decode cX3_leastParent 26 = .ok (.getfield 24, 3) := by decide +kernel
theorem dX3_leastParent_29 : decode cX3_leastParent 29 = .ok (.iload_n 3, 1) := by decide +kernel
theorem dX3_leastParent_30 : decode cX3_leastParent 30 = .ok (.iaload, 1) := by decide +kernel
theorem dX3_leastParent_31 : decode cX3_leastParent 31 = .ok (.iload_n 2, 1) := by decide +kernel
theorem dX3_leastParent_32 : decode cX3_leastParent 32 = .ok (.if_icmp .ne 5, 3) := by decide +kernel
theorem dX3_leastParent_35 : decode cX3_leastParent 35 = .ok (.iload_n 3, 1) := by decide +kernel
theorem dX3_leastParent_36 : decode cX3_leastParent 36 = .ok (.ireturn, 1) := by decide +kernel
theorem dX3_leastParent_37 : decode cX3_leastParent 37 = .ok (.iinc 3 1, 3) := by decide +kernel
theorem dX3_leastParent_40 : decode cX3_leastParent 40 = .ok (.goto (-38), 3) := by decide +kernel
theorem dX3_leastParent_43 : decode cX3_leastParent 43 = .ok (.iconst (-1), 1) := by decide +kernel
theorem dX3_leastParent_44 : decode cX3_leastParent 44 = .ok (.ireturn, 1) := by decide +kernel
theorem dX3_sink_0 : decode cX3_sink 0 = .ok (.iload_n 1, 1) := by decide +kernel
theorem dX3_sink_1 : decode cX3_sink 1 = .ok (.istore_n 3, 1) := by decide +kernel
theorem dX3_sink_2 : decode cX3_sink 2 = .ok (.iconst 1, 1) := by decide +kernel
theorem dX3_sink_3 : decode cX3_sink 3 = .ok (.istore 4, 2) := by decide +kernel
theorem dX3_sink_5 : decode cX3_sink 5 = .ok (.iload 4, 2) := by decide +kernel
theorem dX3_sink_7 : decode cX3_sink 7 = .ok (.iload_n 2, 1) := by decide +kernel
theorem dX3_sink_8 : decode cX3_sink 8 = .ok (.if_icmp .gt 29, 3) := by decide +kernel
theorem dX3_sink_11 : decode cX3_sink 11 = .ok (.iload_n 3, 1) := by decide +kernel
theorem dX3_sink_12 : decode cX3_sink 12 = .ok (.iconst (-1), 1) := by decide +kernel
theorem dX3_sink_13 : decode cX3_sink 13 = .ok (.if_icmp .eq 24, 3) := by decide +kernel
theorem dX3_sink_16 : decode cX3_sink 16 = .ok (.aload_n 0, 1) := by decide +kernel
theorem dX3_sink_17 : decode cX3_sink 17 = .ok (.iload_n 3, 1) := by decide +kernel
theorem dX3_sink_18 : decode cX3_sink 18 = .ok (.aload_n 0, 1) := by decide +kernel
theorem dX3_sink_19 : decode cX3_sink 19 = .ok (.getfield 21, 3) := by decide +kernel
theorem dX3_sink_22 : decode cX3_sink 22 = .ok (.iload_n 1, 1) := by decide +kernel
theorem dX3_sink_23 : decode cX3_sink 23 = .ok (.iaload, 1) := by decide +kernel
theorem dX3_sink_24 : decode cX3_sink 24 = .ok (.iload 4, 2) := by decide +kernel
theorem dX3_sink_26 : decode cX3_sink 26 = .ok (.isub, 1) := by decide +kernel
theorem dX3_sink_27 : decode cX3_sink 27 = .ok (.invokevirtual 111, 3) := by decide +kernel
theorem dX3_sink_30 : decode cX3_sink 30 = .ok (.istore_n 3, 1) := by decide +kernel
theorem dX3_sink_31 : decode cX3_sink 31 = .ok (.iinc 4 1, 3) := by decide +kernel
theorem dX3_sink_34 : decode cX3_sink 34 = .ok (.goto (-29), 3) := by decide +kernel
theorem dX3_sink_37 : decode cX3_sink 37 = .ok (.iload_n 3, 1) := by decide +kernel
theorem dX3_sink_38 : decode cX3_sink 38 = .ok (.ireturn, 1) := by decide +kernel
theorem dX3_leastChild_0 : decode cX3_leastChild 0 = .ok (.iconst 0, 1) := by decide +kernel
theorem dX3_leastChild_1 : decode cX3_leastChild 1 = .ok (.istore_n 3, 1) := by decide +kernel
theorem dX3_leastChild_2 : decode cX3_leastChild 2 = .ok (.iload_n 3, 1) := by decide +kernel
theorem dX3_leastChild_3 : decode cX3_leastChild 3 = .ok (.aload_n 0, 1) := by decide +kernel
theorem dX3_leastChild_4 : decode cX3_leastChild 4 = .ok (.getfield 30, 3) := by decide +kernel
theorem dX3_leastChild_7 : decode cX3_leastChild 7 = .ok (.getfield 63, 3) := by decide +kernel
theorem dX3_leastChild_10 : decode cX3_leastChild 10 = .ok (.getfield 69, 3) := by decide +kernel
theorem dX3_leastChild_13 : decode cX3_leastChild 13 = .ok (.if_icmp .ge 30, 3) := by decide +kernel
theorem dX3_leastChild_16 : decode cX3_leastChild 16 = .ok (.aload_n 0, 1) := by decide +kernel
