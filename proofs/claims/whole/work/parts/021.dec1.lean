theorem dX3_leastChild_17 : decode cX3_leastChild 17 = .ok (.iload_n 3, 1) := by decide +kernel
theorem dX3_leastChild_18 : decode cX3_leastChild 18 = .ok (.iload_n 1, 1) := by decide +kernel
theorem dX3_leastChild_19 : decode cX3_leastChild 19 = .ok (.invokevirtual 101, 3) := by decide +kernel
theorem dX3_leastChild_22 : decode cX3_leastChild 22 = .ok (.ifCond .eq 15, 3) := by decide +kernel
theorem dX3_leastChild_25 : decode cX3_leastChild 25 = .ok (.aload_n 0, 1) := by decide +kernel
theorem dX3_leastChild_26 : decode cX3_leastChild 26 = .ok (.getfield 21, 3) := by decide +kernel
theorem dX3_leastChild_29 : decode cX3_leastChild 29 = .ok (.iload_n 3, 1) := by decide +kernel
theorem dX3_leastChild_30 : decode cX3_leastChild 30 = .ok (.iaload, 1) := by decide +kernel
theorem dX3_leastChild_31 : decode cX3_leastChild 31 = .ok (.iload_n 2, 1) := by decide +kernel
theorem dX3_leastChild_32 : decode cX3_leastChild 32 = .ok (.if_icmp .ne 5, 3) := by decide +kernel
theorem dX3_leastChild_35 : decode cX3_leastChild 35 = .ok (.iload_n 3, 1) := by decide +kernel
theorem dX3_leastChild_36 : decode cX3_leastChild 36 = .ok (.ireturn, 1) := by decide +kernel
theorem dX3_leastChild_37 : decode cX3_leastChild 37 = .ok (.iinc 3 1, 3) := by decide +kernel
theorem dX3_leastChild_40 : decode cX3_leastChild 40 = .ok (.goto (-38), 3) := by decide +kernel
theorem dX3_leastChild_43 : decode cX3_leastChild 43 = .ok (.iconst (-1), 1) := by decide +kernel
theorem dX3_leastChild_44 : decode cX3_leastChild 44 = .ok (.ireturn, 1) := by decide +kernel
theorem dX4_init_0 : decode cX4_init 0 = .ok (.aload_n 0, 1) := by decide +kernel
theorem dX4_init_1 : decode cX4_init 1 = .ok (.invokespecial 3, 3) := by decide +kernel
theorem dX4_init_4 : decode cX4_init 4 = .ok (.aload_n 0, 1) := by decide +kernel
theorem dX4_init_5 : decode cX4_init 5 = .ok (.bipush 30, 2) := by decide +kernel
theorem dX4_init_7 : decode cX4_init 7 = .ok (.newarray .int, 2) := by decide +kernel
theorem dX4_init_9 : decode cX4_init 9 = .ok (.putfield 9, 3) := by decide +kernel
theorem dX4_init_12 : decode cX4_init 12 = .ok (.aload_n 0, 1) := by decide +kernel
theorem dX4_init_13 : decode cX4_init 13 = .ok (.bipush 30, 2) := by decide +kernel
theorem dX4_init_15 : decode cX4_init 15 = .ok (.newarray .int, 2) := by decide +kernel
theorem dX4_init_17 : decode cX4_init 17 = .ok (.putfield 15, 3) := by decide +kernel
theorem dX4_init_20 : decode cX4_init 20 = .ok (.aload_n 0, 1) := by decide +kernel
theorem dX4_init_21 : decode cX4_init 21 = .ok (.bipush 30, 2) := by decide +kernel
theorem dX4_init_23 : decode cX4_init 23 = .ok (.newarray .int, 2) := by decide +kernel
theorem dX4_init_25 : decode cX4_init 25 = .ok (.putfield 18, 3) := by decide +kernel
theorem dX4_init_28 : decode cX4_init 28 = .ok (.aload_n 0, 1) := by decide +kernel
theorem dX4_init_29 : decode cX4_init 29 = .ok (.bipush 30, 2) := by decide +kernel
theorem dX4_init_31 : decode cX4_init 31 = .ok (.newarray .int, 2) := by decide +kernel
theorem dX4_init_33 : decode cX4_init 33 = .ok (.putfield 21, 3) := by decide +kernel
theorem dX4_init_36 : decode cX4_init 36 = .ok (.aload_n 0, 1) := by decide +kernel
theorem dX4_init_37 : decode cX4_init 37 = .ok (.bipush 30, 2) := by decide +kernel
theorem dX4_init_39 : decode cX4_init 39 = .ok (.newarray .int, 2) := by decide +kernel
theorem dX4_init_41 : decode cX4_init 41 = .ok (.putfield 24, 3) := by decide +kernel
theorem dX4_init_44 : decode cX4_init 44 = .ok (.aload_n 0, 1) := by decide +kernel
theorem dX4_init_45 : decode cX4_init 45 = .ok (.bipush 30, 2) := by decide +kernel
theorem dX4_init_47 : decode cX4_init 47 = .ok (.newarray .int, 2) := by decide +kernel
theorem dX4_init_49 : decode cX4_init 49 = .ok (.putfield 27, 3) := by decide +kernel
theorem dX4_init_52 : decode cX4_init 52 = .ok (.aload_n 0, 1) := by decide +kernel
theorem dX4_init_53 : decode cX4_init 53 = .ok (.bipush 30, 2) := by decide +kernel
theorem dX4_init_55 : decode cX4_init 55 = .ok (.newarray .int, 2) := by decide +kernel
theorem dX4_init_57 : decode cX4_init 57 = .ok (.putfield 30, 3) := by decide +kernel
theorem dX4_init_60 : decode cX4_init 60 = .ok (.aload_n 0, 1) := by decide +kernel
theorem dX4_init_61 : decode cX4_init 61 = .ok (.bipush 30, 2) := by decide +kernel
theorem dX4_init_63 : decode cX4_init 63 = .ok (.newarray .int, 2) := by decide +kernel
theorem dX4_init_65 : decode cX4_init 65 = .ok (.putfield 33, 3) := by decide +kernel
theorem dX4_init_68 : decode cX4_init 68 = .ok (.aload_n 0, 1) := by decide +kernel
theorem dX4_init_69 : decode cX4_init 69 = .ok (.sipush 330, 3) := by decide +kernel
theorem dX4_init_72 : decode cX4_init 72 = .ok (.newarray .int, 2) := by decide +kernel
theorem dX4_init_74 : decode cX4_init 74 = .ok (.putfield 36, 3) := by decide +kernel
theorem dX4_init_77 : decode cX4_init 77 = .ok (.aload_n 0, 1) := by decide +kernel
theorem dX4_init_78 : decode cX4_init 78 = .ok (.bipush 30, 2) := by decide +kernel
theorem dX4_init_80 : decode cX4_init 80 = .ok (.anewarray 39, 3) := by decide +kernel
theorem dX4_init_83 : decode cX4_init 83 = .ok (.putfield 41, 3) := by decide +kernel
theorem dX4_init_86 : decode cX4_init 86 = .ok (.aload_n 0, 1) := by decide +kernel
theorem dX4_init_87 : decode cX4_init 87 = .ok (.bipush 30, 2) := by decide +kernel
theorem dX4_init_89 : decode cX4_init 89 = .ok (.anewarray 39, 3) := by decide +kernel
theorem dX4_init_92 : decode cX4_init 92 = .ok (.putfield 45, 3) := by decide +kernel
theorem dX4_init_95 : decode cX4_init 95 = .ok (.return_, 1) := by decide +kernel
theorem dX4_has_0 : decode cX4_has 0 = .ok (.iload_n 1, 1) := by decide +kernel
theorem dX4_has_1 : decode cX4_has 1 = .ok (.ifCond .lt 15, 3) := by decide +kernel
theorem dX4_has_4 : decode cX4_has 4 = .ok (.iload_n 1, 1) := by decide +kernel
theorem dX4_has_5 : decode cX4_has 5 = .ok (.aload_n 0, 1) := by decide +kernel
theorem dX4_has_6 : decode cX4_has 6 = .ok (.getfield 48, 3) := by decide +kernel
theorem dX4_has_9 : decode cX4_has 9 = .ok (.if_icmp .ge 7, 3) := by decide +kernel
theorem dX4_has_12 : decode cX4_has 12 = .ok (.iconst 1, 1) := by decide +kernel
theorem dX4_has_13 : decode cX4_has 13 = .ok (.goto 4, 3) := by decide +kernel
theorem dX4_has_16 : decode cX4_has 16 = .ok (.iconst 0, 1) := by decide +kernel
theorem dX4_has_17 : decode cX4_has 17 = .ok (.ireturn, 1) := by decide +kernel
theorem dX4_isFull_0 : decode cX4_isFull 0 = .ok (.aload_n 0, 1) := by decide +kernel
theorem dX4_isFull_1 : decode cX4_isFull 1 = .ok (.getfield 48, 3) := by decide +kernel
theorem dX4_isFull_4 : decode cX4_isFull 4 = .ok (.bipush 30, 2) := by decide +kernel
theorem dX4_isFull_6 : decode cX4_isFull 6 = .ok (.if_icmp .lt 7, 3) := by decide +kernel
theorem dX4_isFull_9 : decode cX4_isFull 9 = .ok (.iconst 1, 1) := by decide +kernel
theorem dX4_isFull_10 : decode cX4_isFull 10 = .ok (.goto 4, 3) := by decide +kernel
theorem dX4_isFull_13 : decode cX4_isFull 13 = .ok (.iconst 0, 1) := by decide +kernel
theorem dX4_isFull_14 : decode cX4_isFull 14 = .ok (.ireturn, 1) := by decide +kernel
theorem dX4_standsAs_0 : decode cX4_standsAs 0 = .ok (.aload_n 0, 1) := by decide +kernel
theorem dX4_standsAs_1 : decode cX4_standsAs 1 = .ok (.iload_n 1, 1) := by decide +kernel
theorem dX4_standsAs_2 : decode cX4_standsAs 2 = .ok (.invokevirtual 52, 3) := by decide +kernel
theorem dX4_standsAs_5 : decode cX4_standsAs 5 = .ok (.ifCond .eq 17, 3) := by decide +kernel
theorem dX4_standsAs_8 : decode cX4_standsAs 8 = .ok (.aload_n 0, 1) := by decide +kernel
theorem dX4_standsAs_9 : decode cX4_standsAs 9 = .ok (.getfield 18, 3) := by decide +kernel
theorem dX4_standsAs_12 : decode cX4_standsAs 12 = .ok (.iload_n 1, 1) := by decide +kernel
theorem dX4_standsAs_13 : decode cX4_standsAs 13 = .ok (.iaload, 1) := by decide +kernel
theorem dX4_standsAs_14 : decode cX4_standsAs 14 = .ok (.iload_n 2, 1) := by decide +kernel
theorem dX4_standsAs_15 : decode cX4_standsAs 15 = .ok (.if_icmp .ne 7, 3) := by decide +kernel
theorem dX4_standsAs_18 : decode cX4_standsAs 18 = .ok (.iconst 1, 1) := by decide +kernel
theorem dX4_standsAs_19 : decode cX4_standsAs 19 = .ok (.goto 4, 3) := by decide +kernel
theorem dX4_standsAs_22 : decode cX4_standsAs 22 = .ok (.iconst 0, 1) := by decide +kernel
theorem dX4_standsAs_23 : decode cX4_standsAs 23 = .ok (.ireturn, 1) := by decide +kernel
theorem dX4_isOpen_0 : decode cX4_isOpen 0 = .ok (.aload_n 0, 1) := by decide +kernel
theorem dX4_isOpen_1 : decode cX4_isOpen 1 = .ok (.iload_n 1, 1) := by decide +kernel
theorem dX4_isOpen_2 : decode cX4_isOpen 2 = .ok (.iconst 0, 1) := by decide +kernel
theorem dX4_isOpen_3 : decode cX4_isOpen 3 = .ok (.invokevirtual 56, 3) := by decide +kernel
theorem dX4_isOpen_6 : decode cX4_isOpen 6 = .ok (.ifCond .ne 12, 3) := by decide +kernel
theorem dX4_isOpen_9 : decode cX4_isOpen 9 = .ok (.aload_n 0, 1) := by decide +kernel
theorem dX4_isOpen_10 : decode cX4_isOpen 10 = .ok (.iload_n 1, 1) := by decide +kernel
theorem dX4_isOpen_11 : decode cX4_isOpen 11 = .ok (.iconst 1, 1) := by decide +kernel
theorem dX4_isOpen_12 : decode cX4_isOpen 12 = .ok (.invokevirtual 56, 3) := by decide +kernel
theorem dX4_isOpen_15 : decode cX4_isOpen 15 = .ok (.ifCond .eq 7, 3) := by decide +kernel
theorem dX4_isOpen_18 : decode cX4_isOpen 18 = .ok (.iconst 1, 1) := by decide +kernel
theorem dX4_isOpen_19 : decode cX4_isOpen 19 = .ok (.goto 4, 3) := by decide +kernel
theorem dX4_isOpen_22 : decode cX4_isOpen 22 = .ok (.iconst 0, 1) := by decide +kernel
theorem dX4_isOpen_23 : decode cX4_isOpen 23 = .ok (.ireturn, 1) := by decide +kernel
theorem dX4_add_0 : decode cX4_add 0 = .ok (.aload_n 0, 1) := by decide +kernel
theorem dX4_add_1 : decode cX4_add 1 = .ok (.getfield 9, 3) := by decide +kernel
theorem dX4_add_4 : decode cX4_add 4 = .ok (.aload_n 0, 1) := by decide +kernel
theorem dX4_add_5 : decode cX4_add 5 = .ok (.getfield 48, 3) := by decide +kernel
theorem dX4_add_8 : decode cX4_add 8 = .ok (.iload_n 1, 1) := by decide +kernel
theorem dX4_add_9 : decode cX4_add 9 = .ok (.iastore, 1) := by decide +kernel
theorem dX4_add_10 : decode cX4_add 10 = .ok (.aload_n 0, 1) := by decide +kernel
theorem dX4_add_11 : decode cX4_add 11 = .ok (.getfield 15, 3) := by decide +kernel
theorem dX4_add_14 : decode cX4_add 14 = .ok (.aload_n 0, 1) := by decide +kernel
theorem dX4_add_15 : decode cX4_add 15 = .ok (.getfield 48, 3) := by decide +kernel
theorem dX4_add_18 : decode cX4_add 18 = .ok (.iload_n 2, 1) := by decide +kernel
theorem dX4_add_19 : decode cX4_add 19 = .ok (.iastore, 1) := by decide +kernel
theorem dX4_add_20 : decode cX4_add 20 = .ok (.aload_n 0, 1) := by decide +kernel
theorem dX4_add_21 : decode cX4_add 21 = .ok (.getfield 27, 3) := by decide +kernel
theorem dX4_add_24 : decode cX4_add 24 = .ok (.aload_n 0, 1) := by decide +kernel
theorem dX4_add_25 : decode cX4_add 25 = .ok (.getfield 48, 3) := by decide +kernel
theorem dX4_add_28 : decode cX4_add 28 = .ok (.iconst 0, 1) := by decide +kernel
theorem dX4_add_29 : decode cX4_add 29 = .ok (.iastore, 1) := by decide +kernel
theorem dX4_add_30 : decode cX4_add 30 = .ok (.aload_n 0, 1) := by decide +kernel
theorem dX4_add_31 : decode cX4_add 31 = .ok (.getfield 30, 3) := by decide +kernel
theorem dX4_add_34 : decode cX4_add 34 = .ok (.aload_n 0, 1) := by decide +kernel
theorem dX4_add_35 : decode cX4_add 35 = .ok (.getfield 48, 3) := by decide +kernel
theorem dX4_add_38 : decode cX4_add 38 = .ok (.iload_n 3, 1) := by decide +kernel
theorem dX4_add_39 : decode cX4_add 39 = .ok (.iastore, 1) := by decide +kernel
theorem dX4_add_40 : decode cX4_add 40 = .ok (.aload_n 0, 1) := by decide +kernel
theorem dX4_add_41 : decode cX4_add 41 = .ok (.aload_n 0, 1) := by decide +kernel
theorem dX4_add_42 : decode cX4_add 42 = .ok (.getfield 48, 3) := by decide +kernel
theorem dX4_add_45 : decode cX4_add 45 = .ok (.iconst 0, 1) := by decide +kernel
theorem dX4_add_46 : decode cX4_add 46 = .ok (.iload_n 3, 1) := by decide +kernel
theorem dX4_add_47 : decode cX4_add 47 = .ok (.invokevirtual 60, 3) := by decide +kernel
theorem dX4_add_50 : decode cX4_add 50 = .ok (.aload_n 0, 1) := by decide +kernel
theorem dX4_add_51 : decode cX4_add 51 = .ok (.dup, 1) := by decide +kernel
theorem dX4_add_52 : decode cX4_add 52 = .ok (.getfield 48, 3) := by decide +kernel
theorem dX4_add_55 : decode cX4_add 55 = .ok (.iconst 1, 1) := by decide +kernel
theorem dX4_add_56 : decode cX4_add 56 = .ok (.iadd, 1) := by decide +kernel
theorem dX4_add_57 : decode cX4_add 57 = .ok (.putfield 48, 3) := by decide +kernel
theorem dX4_add_60 : decode cX4_add 60 = .ok (.aload_n 0, 1) := by decide +kernel
theorem dX4_add_61 : decode cX4_add 61 = .ok (.getfield 48, 3) := by decide +kernel
theorem dX4_add_64 : decode cX4_add 64 = .ok (.iconst 1, 1) := by decide +kernel
theorem dX4_add_65 : decode cX4_add 65 = .ok (.isub, 1) := by decide +kernel
theorem dX4_add_66 : decode cX4_add 66 = .ok (.ireturn, 1) := by decide +kernel
theorem dX4_stand_0 : decode cX4_stand 0 = .ok (.aload_n 0, 1) := by decide +kernel
theorem dX4_stand_1 : decode cX4_stand 1 = .ok (.getfield 18, 3) := by decide +kernel
theorem dX4_stand_4 : decode cX4_stand 4 = .ok (.iload_n 1, 1) := by decide +kernel
theorem dX4_stand_5 : decode cX4_stand 5 = .ok (.iload_n 2, 1) := by decide +kernel
theorem dX4_stand_6 : decode cX4_stand 6 = .ok (.iastore, 1) := by decide +kernel
theorem dX4_stand_7 : decode cX4_stand 7 = .ok (.aload_n 0, 1) := by decide +kernel
theorem dX4_stand_8 : decode cX4_stand 8 = .ok (.getfield 33, 3) := by decide +kernel
theorem dX4_stand_11 : decode cX4_stand 11 = .ok (.iload_n 1, 1) := by decide +kernel
theorem dX4_stand_12 : decode cX4_stand 12 = .ok (.iload_n 3, 1) := by decide +kernel
theorem dX4_stand_13 : decode cX4_stand 13 = .ok (.iastore, 1) := by decide +kernel
theorem dX4_stand_14 : decode cX4_stand 14 = .ok (.return_, 1) := by decide +kernel
theorem dX4_keepDay_0 : decode cX4_keepDay 0 = .ok (.aload_n 2, 1) := by decide +kernel
theorem dX4_keepDay_1 : decode cX4_keepDay 1 = .ok (.iconst 0, 1) := by decide +kernel
theorem dX4_keepDay_2 : decode cX4_keepDay 2 = .ok (.aload_n 0, 1) := by decide +kernel
theorem dX4_keepDay_3 : decode cX4_keepDay 3 = .ok (.getfield 36, 3) := by decide +kernel
theorem dX4_keepDay_6 : decode cX4_keepDay 6 = .ok (.iload_n 1, 1) := by decide +kernel
theorem dX4_keepDay_7 : decode cX4_keepDay 7 = .ok (.bipush 11, 2) := by decide +kernel
theorem dX4_keepDay_9 : decode cX4_keepDay 9 = .ok (.imul, 1) := by decide +kernel
theorem dX4_keepDay_10 : decode cX4_keepDay 10 = .ok (.bipush 11, 2) := by decide +kernel
theorem dX4_keepDay_12 : decode cX4_keepDay 12 = .ok (.invokestatic 64, 3) := by decide +kernel
theorem dX4_keepDay_15 : decode cX4_keepDay 15 = .ok (.aload_n 0, 1) := by decide +kernel
theorem dX4_keepDay_16 : decode cX4_keepDay 16 = .ok (.getfield 41, 3) := by decide +kernel
theorem dX4_keepDay_19 : decode cX4_keepDay 19 = .ok (.iload_n 1, 1) := by decide +kernel
theorem dX4_keepDay_20 : decode cX4_keepDay 20 = .ok (.aload_n 3, 1) := by decide +kernel
theorem dX4_keepDay_21 : decode cX4_keepDay 21 = .ok (.aastore, 1) := by decide +kernel
theorem dX4_keepDay_22 : decode cX4_keepDay 22 = .ok (.aload_n 0, 1) := by decide +kernel
theorem dX4_keepDay_23 : decode cX4_keepDay 23 = .ok (.getfield 45, 3) := by decide +kernel
theorem dX4_keepDay_26 : decode cX4_keepDay 26 = .ok (.iload_n 1, 1) := by decide +kernel
theorem dX4_keepDay_27 : decode cX4_keepDay 27 = .ok (.aload 4, 2) := by decide +kernel
theorem dX4_keepDay_29 : decode cX4_keepDay 29 = .ok (.aastore, 1) := by decide +kernel
theorem dX4_keepDay_30 : decode cX4_keepDay 30 = .ok (.return_, 1) := by decide +kernel
theorem dX4_howMany_0 : decode cX4_howMany 0 = .ok (.iconst 0, 1) := by decide +kernel
theorem dX4_howMany_1 : decode cX4_howMany 1 = .ok (.istore_n 2, 1) := by decide +kernel
theorem dX4_howMany_2 : decode cX4_howMany 2 = .ok (.iconst 0, 1) := by decide +kernel
theorem dX4_howMany_3 : decode cX4_howMany 3 = .ok (.istore_n 3, 1) := by decide +kernel
theorem dX4_howMany_4 : decode cX4_howMany 4 = .ok (.iload_n 3, 1) := by decide +kernel
theorem dX4_howMany_5 : decode cX4_howMany 5 = .ok (.aload_n 0, 1) := by decide +kernel
theorem dX4_howMany_6 : decode cX4_howMany 6 = .ok (.getfield 48, 3) := by decide +kernel
theorem dX4_howMany_9 : decode cX4_howMany 9 = .ok (.if_icmp .ge 22, 3) := by decide +kernel
theorem dX4_howMany_12 : decode cX4_howMany 12 = .ok (.aload_n 0, 1) := by decide +kernel
theorem dX4_howMany_13 : decode cX4_howMany 13 = .ok (.getfield 18, 3) := by decide +kernel
theorem dX4_howMany_16 : decode cX4_howMany 16 = .ok (.iload_n 3, 1) := by decide +kernel
theorem dX4_howMany_17 : decode cX4_howMany 17 = .ok (.iaload, 1) := by decide +kernel
theorem dX4_howMany_18 : decode cX4_howMany 18 = .ok (.iload_n 1, 1) := by decide +kernel
theorem dX4_howMany_19 : decode cX4_howMany 19 = .ok (.if_icmp .ne 6, 3) := by decide +kernel
theorem dX4_howMany_22 : decode cX4_howMany 22 = .ok (.iinc 2 1, 3) := by decide +kernel
theorem dX4_howMany_25 : decode cX4_howMany 25 = .ok (.iinc 3 1, 3) := by decide +kernel
theorem dX4_howMany_28 : decode cX4_howMany 28 = .ok (.goto (-24), 3) := by decide +kernel
theorem dX4_howMany_31 : decode cX4_howMany 31 = .ok (.iload_n 2, 1) := by decide +kernel
theorem dX4_howMany_32 : decode cX4_howMany 32 = .ok (.ireturn, 1) := by decide +kernel
theorem dX4_takeFrom_0 : decode cX4_takeFrom 0 = .ok (.aload_n 0, 1) := by decide +kernel
theorem dX4_takeFrom_1 : decode cX4_takeFrom 1 = .ok (.aload_n 1, 1) := by decide +kernel
theorem dX4_takeFrom_2 : decode cX4_takeFrom 2 = .ok (.getfield 48, 3) := by decide +kernel
theorem dX4_takeFrom_5 : decode cX4_takeFrom 5 = .ok (.putfield 48, 3) := by decide +kernel
theorem dX4_takeFrom_8 : decode cX4_takeFrom 8 = .ok (.aload_n 1, 1) := by decide +kernel
theorem dX4_takeFrom_9 : decode cX4_takeFrom 9 = .ok (.getfield 9, 3) := by decide +kernel
theorem dX4_takeFrom_12 : decode cX4_takeFrom 12 = .ok (.aload_n 0, 1) := by decide +kernel
theorem dX4_takeFrom_13 : decode cX4_takeFrom 13 = .ok (.getfield 9, 3) := by decide +kernel
theorem dX4_takeFrom_16 : decode cX4_takeFrom 16 = .ok (.invokestatic 70, 3) := by decide +kernel
theorem dX4_takeFrom_19 : decode cX4_takeFrom 19 = .ok (.aload_n 1, 1) := by decide +kernel
theorem dX4_takeFrom_20 : decode cX4_takeFrom 20 = .ok (.getfield 15, 3) := by decide +kernel
theorem dX4_takeFrom_23 : decode cX4_takeFrom 23 = .ok (.aload_n 0, 1) := by decide +kernel
theorem dX4_takeFrom_24 : decode cX4_takeFrom 24 = .ok (.getfield 15, 3) := by decide +kernel
theorem dX4_takeFrom_27 : decode cX4_takeFrom 27 = .ok (.invokestatic 70, 3) := by decide +kernel
theorem dX4_takeFrom_30 : decode cX4_takeFrom 30 = .ok (.aload_n 1, 1) := by decide +kernel
theorem dX4_takeFrom_31 : decode cX4_takeFrom 31 = .ok (.getfield 18, 3) := by decide +kernel
theorem dX4_takeFrom_34 : decode cX4_takeFrom 34 = .ok (.aload_n 0, 1) := by decide +kernel
theorem dX4_takeFrom_35 : decode cX4_takeFrom 35 = .ok (.getfield 18, 3) := by decide +kernel
theorem dX4_takeFrom_38 : decode cX4_takeFrom 38 = .ok (.invokestatic 70, 3) := by decide +kernel
theorem dX4_takeFrom_41 : decode cX4_takeFrom 41 = .ok (.aload_n 1, 1) := by decide +kernel
theorem dX4_takeFrom_42 : decode cX4_takeFrom 42 = .ok (.getfield 21, 3) := by decide +kernel
theorem dX4_takeFrom_45 : decode cX4_takeFrom 45 = .ok (.aload_n 0, 1) := by decide +kernel
theorem dX4_takeFrom_46 : decode cX4_takeFrom 46 = .ok (.getfield 21, 3) := by decide +kernel
theorem dX4_takeFrom_49 : decode cX4_takeFrom 49 = .ok (.invokestatic 70, 3) := by decide +kernel
theorem dX4_takeFrom_52 : decode cX4_takeFrom 52 = .ok (.aload_n 1, 1) := by decide +kernel
theorem dX4_takeFrom_53 : decode cX4_takeFrom 53 = .ok (.getfield 24, 3) := by decide +kernel
theorem dX4_takeFrom_56 : decode cX4_takeFrom 56 = .ok (.aload_n 0, 1) := by decide +kernel
theorem dX4_takeFrom_57 : decode cX4_takeFrom 57 = .ok (.getfield 24, 3) := by decide +kernel
theorem dX4_takeFrom_60 : decode cX4_takeFrom 60 = .ok (.invokestatic 70, 3) := by decide +kernel
theorem dX4_takeFrom_63 : decode cX4_takeFrom 63 = .ok (.aload_n 1, 1) := by decide +kernel
theorem dX4_takeFrom_64 : decode cX4_takeFrom 64 = .ok (.getfield 27, 3) := by decide +kernel
theorem dX4_takeFrom_67 : decode cX4_takeFrom 67 = .ok (.aload_n 0, 1) := by decide +kernel
theorem dX4_takeFrom_68 : decode cX4_takeFrom 68 = .ok (.getfield 27, 3) := by decide +kernel
theorem dX4_takeFrom_71 : decode cX4_takeFrom 71 = .ok (.invokestatic 70, 3) := by decide +kernel
theorem dX4_takeFrom_74 : decode cX4_takeFrom 74 = .ok (.aload_n 1, 1) := by decide +kernel
theorem dX4_takeFrom_75 : decode cX4_takeFrom 75 = .ok (.getfield 30, 3) := by decide +kernel
theorem dX4_takeFrom_78 : decode cX4_takeFrom 78 = .ok (.aload_n 0, 1) := by decide +kernel
theorem dX4_takeFrom_79 : decode cX4_takeFrom 79 = .ok (.getfield 30, 3) := by decide +kernel
theorem dX4_takeFrom_82 : decode cX4_takeFrom 82 = .ok (.invokestatic 70, 3) := by decide +kernel
theorem dX4_takeFrom_85 : decode cX4_takeFrom 85 = .ok (.aload_n 1, 1) := by decide +kernel
theorem dX4_takeFrom_86 : decode cX4_takeFrom 86 = .ok (.getfield 33, 3) := by decide +kernel
theorem dX4_takeFrom_89 : decode cX4_takeFrom 89 = .ok (.aload_n 0, 1) := by decide +kernel
theorem dX4_takeFrom_90 : decode cX4_takeFrom 90 = .ok (.getfield 33, 3) := by decide +kernel
theorem dX4_takeFrom_93 : decode cX4_takeFrom 93 = .ok (.invokestatic 70, 3) := by decide +kernel
theorem dX4_takeFrom_96 : decode cX4_takeFrom 96 = .ok (.aload_n 1, 1) := by decide +kernel
theorem dX4_takeFrom_97 : decode cX4_takeFrom 97 = .ok (.getfield 36, 3) := by decide +kernel
theorem dX4_takeFrom_100 : decode cX4_takeFrom 100 = .ok (.aload_n 0, 1) := by decide +kernel
theorem dX4_takeFrom_101 : decode cX4_takeFrom 101 = .ok (.getfield 36, 3) := by decide +kernel
theorem dX4_takeFrom_104 : decode cX4_takeFrom 104 = .ok (.invokestatic 70, 3) := by decide +kernel
theorem dX4_takeFrom_107 : decode cX4_takeFrom 107 = .ok (.aload_n 1, 1) := by decide +kernel
theorem dX4_takeFrom_108 : decode cX4_takeFrom 108 = .ok (.getfield 41, 3) := by decide +kernel
theorem dX4_takeFrom_111 : decode cX4_takeFrom 111 = .ok (.aload_n 0, 1) := by decide +kernel
theorem dX4_takeFrom_112 : decode cX4_takeFrom 112 = .ok (.getfield 41, 3) := by decide +kernel
theorem dX4_takeFrom_115 : decode cX4_takeFrom 115 = .ok (.invokestatic 74, 3) := by decide +kernel
theorem dX4_takeFrom_118 : decode cX4_takeFrom 118 = .ok (.aload_n 1, 1) := by decide +kernel
theorem dX4_takeFrom_119 : decode cX4_takeFrom 119 = .ok (.getfield 45, 3) := by decide +kernel
theorem dX4_takeFrom_122 : decode cX4_takeFrom 122 = .ok (.aload_n 0, 1) := by decide +kernel
theorem dX4_takeFrom_123 : decode cX4_takeFrom 123 = .ok (.getfield 45, 3) := by decide +kernel
theorem dX4_takeFrom_126 : decode cX4_takeFrom 126 = .ok (.invokestatic 74, 3) := by decide +kernel
theorem dX4_takeFrom_129 : decode cX4_takeFrom 129 = .ok (.return_, 1) := by decide +kernel
theorem dX5_init_0 : decode cX5_init 0 = .ok (.aload_n 0, 1) := by decide +kernel
theorem dX5_init_1 : decode cX5_init 1 = .ok (.invokespecial 3, 3) := by decide +kernel
theorem dX5_init_4 : decode cX5_init 4 = .ok (.aload_n 0, 1) := by decide +kernel
theorem dX5_init_5 : decode cX5_init 5 = .ok (.bipush 60, 2) := by decide +kernel
theorem dX5_init_7 : decode cX5_init 7 = .ok (.newarray .int, 2) := by decide +kernel
theorem dX5_init_9 : decode cX5_init 9 = .ok (.putfield 9, 3) := by decide +kernel
theorem dX5_init_12 : decode cX5_init 12 = .ok (.aload_n 0, 1) := by decide +kernel
theorem dX5_init_13 : decode cX5_init 13 = .ok (.bipush 60, 2) := by decide +kernel
theorem dX5_init_15 : decode cX5_init 15 = .ok (.newarray .int, 2) := by decide +kernel
theorem dX5_init_17 : decode cX5_init 17 = .ok (.putfield 15, 3) := by decide +kernel
theorem dX5_init_20 : decode cX5_init 20 = .ok (.aload_n 0, 1) := by decide +kernel
theorem dX5_init_21 : decode cX5_init 21 = .ok (.bipush 60, 2) := by decide +kernel
theorem dX5_init_23 : decode cX5_init 23 = .ok (.newarray .int, 2) := by decide +kernel
theorem dX5_init_25 : decode cX5_init 25 = .ok (.putfield 18, 3) := by decide +kernel
theorem dX5_init_28 : decode cX5_init 28 = .ok (.aload_n 0, 1) := by decide +kernel
theorem dX5_init_29 : decode cX5_init 29 = .ok (.bipush 60, 2) := by decide +kernel
theorem dX5_init_31 : decode cX5_init 31 = .ok (.newarray .int, 2) := by decide +kernel
theorem dX5_init_33 : decode cX5_init 33 = .ok (.putfield 21, 3) := by decide +kernel
theorem dX5_init_36 : decode cX5_init 36 = .ok (.aload_n 0, 1) := by decide +kernel
theorem dX5_init_37 : decode cX5_init 37 = .ok (.bipush 25, 2) := by decide +kernel
theorem dX5_init_39 : decode cX5_init 39 = .ok (.newarray .int, 2) := by decide +kernel
theorem dX5_init_41 : decode cX5_init 41 = .ok (.putfield 24, 3) := by decide +kernel
theorem dX5_init_44 : decode cX5_init 44 = .ok (.aload_n 0, 1) := by decide +kernel
theorem dX5_init_45 : decode cX5_init 45 = .ok (.bipush 25, 2) := by decide +kernel
theorem dX5_init_47 : decode cX5_init 47 = .ok (.newarray .int, 2) := by decide +kernel
theorem dX5_init_49 : decode cX5_init 49 = .ok (.putfield 27, 3) := by decide +kernel
theorem dX5_init_52 : decode cX5_init 52 = .ok (.aload_n 0, 1) := by decide +kernel
theorem dX5_init_53 : decode cX5_init 53 = .ok (.getfield 24, 3) := by decide +kernel
theorem dX5_init_56 : decode cX5_init 56 = .ok (.iconst (-1), 1) := by decide +kernel
theorem dX5_init_57 : decode cX5_init 57 = .ok (.invokestatic 30, 3) := by decide +kernel
theorem dX5_init_60 : decode cX5_init 60 = .ok (.iconst 0, 1) := by decide +kernel
theorem dX5_init_61 : decode cX5_init 61 = .ok (.istore_n 1, 1) := by decide +kernel
theorem dX5_init_62 : decode cX5_init 62 = .ok (.iload_n 1, 1) := by decide +kernel
theorem dX5_init_63 : decode cX5_init 63 = .ok (.iconst 5, 1) := by decide +kernel
theorem dX5_init_64 : decode cX5_init 64 = .ok (.if_icmp .ge 20, 3) := by decide +kernel
theorem dX5_init_67 : decode cX5_init 67 = .ok (.aload_n 0, 1) := by decide +kernel
theorem dX5_init_68 : decode cX5_init 68 = .ok (.getfield 24, 3) := by decide +kernel
theorem dX5_init_71 : decode cX5_init 71 = .ok (.iload_n 1, 1) := by decide +kernel
theorem dX5_init_72 : decode cX5_init 72 = .ok (.iconst 5, 1) := by decide +kernel
theorem dX5_init_73 : decode cX5_init 73 = .ok (.imul, 1) := by decide +kernel
theorem dX5_init_74 : decode cX5_init 74 = .ok (.iload_n 1, 1) := by decide +kernel
theorem dX5_init_75 : decode cX5_init 75 = .ok (.iadd, 1) := by decide +kernel
theorem dX5_init_76 : decode cX5_init 76 = .ok (.iconst 0, 1) := by decide +kernel
theorem dX5_init_77 : decode cX5_init 77 = .ok (.iastore, 1) := by decide +kernel
theorem dX5_init_78 : decode cX5_init 78 = .ok (.iinc 1 1, 3) := by decide +kernel
theorem dX5_init_81 : decode cX5_init 81 = .ok (.goto (-19), 3) := by decide +kernel
theorem dX5_init_84 : decode cX5_init 84 = .ok (.aload_n 0, 1) := by decide +kernel
theorem dX5_init_85 : decode cX5_init 85 = .ok (.getfield 24, 3) := by decide +kernel
theorem dX5_init_88 : decode cX5_init 88 = .ok (.aload_n 0, 1) := by decide +kernel
theorem dX5_init_89 : decode cX5_init 89 = .ok (.getfield 27, 3) := by decide +kernel
theorem dX5_init_92 : decode cX5_init 92 = .ok (.invokestatic 36, 3) := by decide +kernel
theorem dX5_init_95 : decode cX5_init 95 = .ok (.return_, 1) := by decide +kernel
theorem dX5_setRoad_0 : decode cX5_setRoad 0 = .ok (.aload_n 0, 1) := by decide +kernel
theorem dX5_setRoad_1 : decode cX5_setRoad 1 = .ok (.getfield 24, 3) := by decide +kernel
theorem dX5_setRoad_4 : decode cX5_setRoad 4 = .ok (.iload_n 1, 1) := by decide +kernel
theorem dX5_setRoad_5 : decode cX5_setRoad 5 = .ok (.iconst 5, 1) := by decide +kernel
theorem dX5_setRoad_6 : decode cX5_setRoad 6 = .ok (.imul, 1) := by decide +kernel
theorem dX5_setRoad_7 : decode cX5_setRoad 7 = .ok (.iload_n 2, 1) := by decide +kernel
theorem dX5_setRoad_8 : decode cX5_setRoad 8 = .ok (.iadd, 1) := by decide +kernel
theorem dX5_setRoad_9 : decode cX5_setRoad 9 = .ok (.iload_n 3, 1) := by decide +kernel
theorem dX5_setRoad_10 : decode cX5_setRoad 10 = .ok (.iastore, 1) := by decide +kernel
theorem dX5_setRoad_11 : decode cX5_setRoad 11 = .ok (.aload_n 0, 1) := by decide +kernel
theorem dX5_setRoad_12 : decode cX5_setRoad 12 = .ok (.getfield 24, 3) := by decide +kernel
theorem dX5_setRoad_15 : decode cX5_setRoad 15 = .ok (.iload_n 2, 1) := by decide +kernel
theorem dX5_setRoad_16 : decode cX5_setRoad 16 = .ok (.iconst 5, 1) := by decide +kernel
theorem dX5_setRoad_17 : decode cX5_setRoad 17 = .ok (.imul, 1) := by decide +kernel
theorem dX5_setRoad_18 : decode cX5_setRoad 18 = .ok (.iload_n 1, 1) := by decide +kernel
theorem dX5_setRoad_19 : decode cX5_setRoad 19 = .ok (.iadd, 1) := by decide +kernel
theorem dX5_setRoad_20 : decode cX5_setRoad 20 = .ok (.iload_n 3, 1) := by decide +kernel
theorem dX5_setRoad_21 : decode cX5_setRoad 21 = .ok (.iastore, 1) := by decide +kernel
theorem dX5_setRoad_22 : decode cX5_setRoad 22 = .ok (.aload_n 0, 1) := by decide +kernel
theorem dX5_setRoad_23 : decode cX5_setRoad 23 = .ok (.getfield 24, 3) := by decide +kernel
theorem dX5_setRoad_26 : decode cX5_setRoad 26 = .ok (.aload_n 0, 1) := by decide +kernel
theorem dX5_setRoad_27 : decode cX5_setRoad 27 = .ok (.getfield 27, 3) := by decide +kernel
theorem dX5_setRoad_30 : decode cX5_setRoad 30 = .ok (.invokestatic 36, 3) := by decide +kernel
theorem dX5_setRoad_33 : decode cX5_setRoad 33 = .ok (.iconst 0, 1) := by decide +kernel
theorem dX5_setRoad_34 : decode cX5_setRoad 34 = .ok (.istore 4, 2) := by decide +kernel
theorem dX5_setRoad_36 : decode cX5_setRoad 36 = .ok (.iload 4, 2) := by decide +kernel
theorem dX5_setRoad_38 : decode cX5_setRoad 38 = .ok (.iconst 5, 1) := by decide +kernel
theorem dX5_setRoad_39 : decode cX5_setRoad 39 = .ok (.if_icmp .ge 15, 3) := by decide +kernel
theorem dX5_setRoad_42 : decode cX5_setRoad 42 = .ok (.aload_n 0, 1) := by decide +kernel
theorem dX5_setRoad_43 : decode cX5_setRoad 43 = .ok (.iload 4, 2) := by decide +kernel
theorem dX5_setRoad_45 : decode cX5_setRoad 45 = .ok (.invokevirtual 40, 3) := by decide +kernel
theorem dX5_setRoad_48 : decode cX5_setRoad 48 = .ok (.iinc 4 1, 3) := by decide +kernel
theorem dX5_setRoad_51 : decode cX5_setRoad 51 = .ok (.goto (-15), 3) := by decide +kernel
theorem dX5_setRoad_54 : decode cX5_setRoad 54 = .ok (.return_, 1) := by decide +kernel
theorem dX5_shortenWays_0 : decode cX5_shortenWays 0 = .ok (.iconst 0, 1) := by decide +kernel
theorem dX5_shortenWays_1 : decode cX5_shortenWays 1 = .ok (.istore_n 2, 1) := by decide +kernel
theorem dX5_shortenWays_2 : decode cX5_shortenWays 2 = .ok (.iload_n 2, 1) := by decide +kernel
theorem dX5_shortenWays_3 : decode cX5_shortenWays 3 = .ok (.iconst 5, 1) := by decide +kernel
theorem dX5_shortenWays_4 : decode cX5_shortenWays 4 = .ok (.if_icmp .ge 73, 3) := by decide +kernel
theorem dX5_shortenWays_7 : decode cX5_shortenWays 7 = .ok (.aload_n 0, 1) := by decide +kernel
theorem dX5_shortenWays_8 : decode cX5_shortenWays 8 = .ok (.getfield 27, 3) := by decide +kernel
theorem dX5_shortenWays_11 : decode cX5_shortenWays 11 = .ok (.iload_n 2, 1) := by decide +kernel
theorem dX5_shortenWays_12 : decode cX5_shortenWays 12 = .ok (.iconst 5, 1) := by decide +kernel
theorem dX5_shortenWays_13 : decode cX5_shortenWays 13 = .ok (.imul, 1) := by decide +kernel
theorem dX5_shortenWays_14 : decode cX5_shortenWays 14 = .ok (.iload_n 1, 1) := by decide +kernel
theorem dX5_shortenWays_15 : decode cX5_shortenWays 15 = .ok (.iadd, 1) := by decide +kernel
theorem dX5_shortenWays_16 : decode cX5_shortenWays 16 = .ok (.iaload, 1) := by decide +kernel
theorem dX5_shortenWays_17 : decode cX5_shortenWays 17 = .ok (.istore_n 3, 1) := by decide +kernel
theorem dX5_shortenWays_18 : decode cX5_shortenWays 18 = .ok (.iconst 0, 1) := by decide +kernel
theorem dX5_shortenWays_19 : decode cX5_shortenWays 19 = .ok (.istore 4, 2) := by decide +kernel
theorem dX5_shortenWays_21 : decode cX5_shortenWays 21 = .ok (.iload 4, 2) := by decide +kernel
theorem dX5_shortenWays_23 : decode cX5_shortenWays 23 = .ok (.iconst 5, 1) := by decide +kernel
theorem dX5_shortenWays_24 : decode cX5_shortenWays 24 = .ok (.if_icmp .ge 47, 3) := by decide +kernel
theorem dX5_shortenWays_27 : decode cX5_shortenWays 27 = .ok (.iload_n 3, 1) := by decide +kernel
theorem dX5_shortenWays_28 : decode cX5_shortenWays 28 = .ok (.iconst (-1), 1) := by decide +kernel
theorem dX5_shortenWays_29 : decode cX5_shortenWays 29 = .ok (.if_icmp .eq 42, 3) := by decide +kernel
theorem dX5_shortenWays_32 : decode cX5_shortenWays 32 = .ok (.aload_n 0, 1) := by decide +kernel
theorem dX5_shortenWays_33 : decode cX5_shortenWays 33 = .ok (.getfield 27, 3) := by decide +kernel
theorem dX5_shortenWays_36 : decode cX5_shortenWays 36 = .ok (.iload_n 1, 1) := by decide +kernel
theorem dX5_shortenWays_37 : decode cX5_shortenWays 37 = .ok (.iconst 5, 1) := by decide +kernel
theorem dX5_shortenWays_38 : decode cX5_shortenWays 38 = .ok (.imul, 1) := by decide +kernel
theorem dX5_shortenWays_39 : decode cX5_shortenWays 39 = .ok (.iload 4, 2) := by decide +kernel
theorem dX5_shortenWays_41 : decode cX5_shortenWays 41 = .ok (.iadd, 1) := by decide +kernel
theorem dX5_shortenWays_42 : decode cX5_shortenWays 42 = .ok (.iaload, 1) := by decide +kernel
theorem dX5_shortenWays_43 : decode cX5_shortenWays 43 = .ok (.istore 5, 2) := by decide +kernel
theorem dX5_shortenWays_45 : decode cX5_shortenWays 45 = .ok (.iload 5, 2) := by decide +kernel
theorem dX5_shortenWays_47 : decode cX5_shortenWays 47 = .ok (.iconst (-1), 1) := by decide +kernel
theorem dX5_shortenWays_48 : decode cX5_shortenWays 48 = .ok (.if_icmp .eq 17, 3) := by decide +kernel
theorem dX5_shortenWays_51 : decode cX5_shortenWays 51 = .ok (.aload_n 0, 1) := by decide +kernel
theorem dX5_shortenWays_52 : decode cX5_shortenWays 52 = .ok (.iload_n 2, 1) := by decide +kernel
theorem dX5_shortenWays_53 : decode cX5_shortenWays 53 = .ok (.iconst 5, 1) := by decide +kernel
theorem dX5_shortenWays_54 : decode cX5_shortenWays 54 = .ok (.imul, 1) := by decide +kernel
theorem dX5_shortenWays_55 : decode cX5_shortenWays 55 = .ok (.iload 4, 2) := by decide +kernel
theorem dX5_shortenWays_57 : decode cX5_shortenWays 57 = .ok (.iadd, 1) := by decide +kernel
theorem dX5_shortenWays_58 : decode cX5_shortenWays 58 = .ok (.iload_n 3, 1) := by decide +kernel
theorem dX5_shortenWays_59 : decode cX5_shortenWays 59 = .ok (.iload 5, 2) := by decide +kernel
theorem dX5_shortenWays_61 : decode cX5_shortenWays 61 = .ok (.iadd, 1) := by decide +kernel
theorem dX5_shortenWays_62 : decode cX5_shortenWays 62 = .ok (.invokevirtual 44, 3) := by decide +kernel
theorem dX5_shortenWays_65 : decode cX5_shortenWays 65 = .ok (.iinc 4 1, 3) := by decide +kernel
theorem dX5_shortenWays_68 : decode cX5_shortenWays 68 = .ok (.goto (-47), 3) := by decide +kernel
theorem dX5_shortenWays_71 : decode cX5_shortenWays 71 = .ok (.iinc 2 1, 3) := by decide +kernel
theorem dX5_shortenWays_74 : decode cX5_shortenWays 74 = .ok (.goto (-72), 3) := by decide +kernel
theorem dX5_shortenWays_77 : decode cX5_shortenWays 77 = .ok (.return_, 1) := by decide +kernel
theorem dX5_shorten_0 : decode cX5_shorten 0 = .ok (.aload_n 0, 1) := by decide +kernel
theorem dX5_shorten_1 : decode cX5_shorten 1 = .ok (.getfield 27, 3) := by decide +kernel
theorem dX5_shorten_4 : decode cX5_shorten 4 = .ok (.iload_n 1, 1) := by decide +kernel
theorem dX5_shorten_5 : decode cX5_shorten 5 = .ok (.iaload, 1) := by decide +kernel
theorem dX5_shorten_6 : decode cX5_shorten 6 = .ok (.iconst (-1), 1) := by decide +kernel
theorem dX5_shorten_7 : decode cX5_shorten 7 = .ok (.if_icmp .eq 13, 3) := by decide +kernel
theorem dX5_shorten_10 : decode cX5_shorten 10 = .ok (.aload_n 0, 1) := by decide +kernel
theorem dX5_shorten_11 : decode cX5_shorten 11 = .ok (.getfield 27, 3) := by decide +kernel
theorem dX5_shorten_14 : decode cX5_shorten 14 = .ok (.iload_n 1, 1) := by decide +kernel
theorem dX5_shorten_15 : decode cX5_shorten 15 = .ok (.iaload, 1) := by decide +kernel
theorem dX5_shorten_16 : decode cX5_shorten 16 = .ok (.iload_n 2, 1) := by decide +kernel
theorem dX5_shorten_17 : decode cX5_shorten 17 = .ok (.if_icmp .le 10, 3) := by decide +kernel
theorem dX5_shorten_20 : decode cX5_shorten 20 = .ok (.aload_n 0, 1) := by decide +kernel
theorem dX5_shorten_21 : decode cX5_shorten 21 = .ok (.getfield 27, 3) := by decide +kernel
theorem dX5_shorten_24 : decode cX5_shorten 24 = .ok (.iload_n 1, 1) := by decide +kernel
theorem dX5_shorten_25 : decode cX5_shorten 25 = .ok (.iload_n 2, 1) := by decide +kernel
theorem dX5_shorten_26 : decode cX5_shorten 26 = .ok (.iastore, 1) := by decide +kernel
theorem dX5_shorten_27 : decode cX5_shorten 27 = .ok (.return_, 1) := by decide +kernel
theorem dX5_has_0 : decode cX5_has 0 = .ok (.iload_n 1, 1) := by decide +kernel
theorem dX5_has_1 : decode cX5_has 1 = .ok (.ifCond .lt 15, 3) := by decide +kernel
theorem dX5_has_4 : decode cX5_has 4 = .ok (.iload_n 1, 1) := by decide +kernel
theorem dX5_has_5 : decode cX5_has 5 = .ok (.aload_n 0, 1) := by decide +kernel
theorem dX5_has_6 : decode cX5_has 6 = .ok (.getfield 48, 3) := by decide +kernel
theorem dX5_has_9 : decode cX5_has 9 = .ok (.if_icmp .ge 7, 3) := by decide +kernel
theorem dX5_has_12 : decode cX5_has 12 = .ok (.iconst 1, 1) := by decide +kernel
theorem dX5_has_13 : decode cX5_has 13 = .ok (.goto 4, 3) := by decide +kernel
theorem dX5_has_16 : decode cX5_has 16 = .ok (.iconst 0, 1) := by decide +kernel
theorem dX5_has_17 : decode cX5_has 17 = .ok (.ireturn, 1) := by decide +kernel
theorem dX5_yearIn_0 : decode cX5_yearIn 0 = .ok (.aload_n 0, 1) := by decide +kernel
theorem dX5_yearIn_1 : decode cX5_yearIn 1 = .ok (.getfield 27, 3) := by decide +kernel
theorem dX5_yearIn_4 : decode cX5_yearIn 4 = .ok (.aload_n 0, 1) := by decide +kernel
theorem dX5_yearIn_5 : decode cX5_yearIn 5 = .ok (.getfield 18, 3) := by decide +kernel
theorem dX5_yearIn_8 : decode cX5_yearIn 8 = .ok (.iload_n 1, 1) := by decide +kernel
theorem dX5_yearIn_9 : decode cX5_yearIn 9 = .ok (.iaload, 1) := by decide +kernel
theorem dX5_yearIn_10 : decode cX5_yearIn 10 = .ok (.iconst 5, 1) := by decide +kernel
theorem dX5_yearIn_11 : decode cX5_yearIn 11 = .ok (.imul, 1) := by decide +kernel
theorem dX5_yearIn_12 : decode cX5_yearIn 12 = .ok (.iload_n 2, 1) := by decide +kernel
theorem dX5_yearIn_13 : decode cX5_yearIn 13 = .ok (.iadd, 1) := by decide +kernel
theorem dX5_yearIn_14 : decode cX5_yearIn 14 = .ok (.iaload, 1) := by decide +kernel
theorem dX5_yearIn_15 : decode cX5_yearIn 15 = .ok (.istore_n 3, 1) := by decide +kernel
theorem dX5_yearIn_16 : decode cX5_yearIn 16 = .ok (.iload_n 3, 1) := by decide +kernel
theorem dX5_yearIn_17 : decode cX5_yearIn 17 = .ok (.iconst (-1), 1) := by decide +kernel
theorem dX5_yearIn_18 : decode cX5_yearIn 18 = .ok (.if_icmp .ne 7, 3) := by decide +kernel
theorem dX5_yearIn_21 : decode cX5_yearIn 21 = .ok (.iconst (-1), 1) := by decide +kernel
theorem dX5_yearIn_22 : decode cX5_yearIn 22 = .ok (.goto 11, 3) := by decide +kernel
theorem dX5_yearIn_25 : decode cX5_yearIn 25 = .ok (.aload_n 0, 1) := by decide +kernel
theorem dX5_yearIn_26 : decode cX5_yearIn 26 = .ok (.getfield 21, 3) := by decide +kernel
theorem dX5_yearIn_29 : decode cX5_yearIn 29 = .ok (.iload_n 1, 1) := by decide +kernel
theorem dX5_yearIn_30 : decode cX5_yearIn 30 = .ok (.iaload, 1) := by decide +kernel
theorem dX5_yearIn_31 : decode cX5_yearIn 31 = .ok (.iload_n 3, 1) := by decide +kernel
theorem dX5_yearIn_32 : decode cX5_yearIn 32 = .ok (.iadd, 1) := by decide +kernel
theorem dX5_yearIn_33 : decode cX5_yearIn 33 = .ok (.ireturn, 1) := by decide +kernel
theorem dX5_add_0 : decode cX5_add 0 = .ok (.aload_n 0, 1) := by decide +kernel
theorem dX5_add_1 : decode cX5_add 1 = .ok (.getfield 48, 3) := by decide +kernel
theorem dX5_add_4 : decode cX5_add 4 = .ok (.bipush 60, 2) := by decide +kernel
theorem dX5_add_6 : decode cX5_add 6 = .ok (.if_icmp .lt 5, 3) := by decide +kernel
theorem dX5_add_9 : decode cX5_add 9 = .ok (.iconst (-1), 1) := by decide +kernel
theorem dX5_add_10 : decode cX5_add 10 = .ok (.ireturn, 1) := by decide +kernel
theorem dX5_add_11 : decode cX5_add 11 = .ok (.aload_n 0, 1) := by decide +kernel
theorem dX5_add_12 : decode cX5_add 12 = .ok (.getfield 9, 3) := by decide +kernel
theorem dX5_add_15 : decode cX5_add 15 = .ok (.aload_n 0, 1) := by decide +kernel
theorem dX5_add_16 : decode cX5_add 16 = .ok (.getfield 48, 3) := by decide +kernel
theorem dX5_add_19 : decode cX5_add 19 = .ok (.iload_n 1, 1) := by decide +kernel
theorem dX5_add_20 : decode cX5_add 20 = .ok (.iastore, 1) := by decide +kernel
theorem dX5_add_21 : decode cX5_add 21 = .ok (.aload_n 0, 1) := by decide +kernel
theorem dX5_add_22 : decode cX5_add 22 = .ok (.getfield 15, 3) := by decide +kernel
theorem dX5_add_25 : decode cX5_add 25 = .ok (.aload_n 0, 1) := by decide +kernel
theorem dX5_add_26 : decode cX5_add 26 = .ok (.getfield 48, 3) := by decide +kernel
theorem dX5_add_29 : decode cX5_add 29 = .ok (.iload_n 2, 1) := by decide +kernel
theorem dX5_add_30 : decode cX5_add 30 = .ok (.iastore, 1) := by decide +kernel
theorem dX5_add_31 : decode cX5_add 31 = .ok (.aload_n 0, 1) := by decide +kernel
theorem dX5_add_32 : decode cX5_add 32 = .ok (.getfield 18, 3) := by decide +kernel
theorem dX5_add_35 : decode cX5_add 35 = .ok (.aload_n 0, 1) := by decide +kernel
theorem dX5_add_36 : decode cX5_add 36 = .ok (.getfield 48, 3) := by decide +kernel
theorem dX5_add_39 : decode cX5_add 39 = .ok (.iload_n 3, 1) := by decide +kernel
theorem dX5_add_40 : decode cX5_add 40 = .ok (.iastore, 1) := by decide +kernel
theorem dX5_add_41 : decode cX5_add 41 = .ok (.aload_n 0, 1) := by decide +kernel
theorem dX5_add_42 : decode cX5_add 42 = .ok (.getfield 21, 3) := by decide +kernel
theorem dX5_add_45 : decode cX5_add 45 = .ok (.aload_n 0, 1) := by decide +kernel
theorem dX5_add_46 : decode cX5_add 46 = .ok (.getfield 48, 3) := by decide +kernel
theorem dX5_add_49 : decode cX5_add 49 = .ok (.iload 4, 2) := by decide +kernel
theorem dX5_add_51 : decode cX5_add 51 = .ok (.iastore, 1) := by decide +kernel
theorem dX5_add_52 : decode cX5_add 52 = .ok (.aload_n 0, 1) := by decide +kernel
theorem dX5_add_53 : decode cX5_add 53 = .ok (.dup, 1) := by decide +kernel
theorem dX5_add_54 : decode cX5_add 54 = .ok (.getfield 48, 3) := by decide +kernel
theorem dX5_add_57 : decode cX5_add 57 = .ok (.iconst 1, 1) := by decide +kernel
theorem dX5_add_58 : decode cX5_add 58 = .ok (.iadd, 1) := by decide +kernel
theorem dX5_add_59 : decode cX5_add 59 = .ok (.putfield 48, 3) := by decide +kernel
theorem dX5_add_62 : decode cX5_add 62 = .ok (.aload_n 0, 1) := by decide +kernel
theorem dX5_add_63 : decode cX5_add 63 = .ok (.getfield 48, 3) := by decide +kernel
theorem dX5_add_66 : decode cX5_add 66 = .ok (.iconst 1, 1) := by decide +kernel
theorem dX5_add_67 : decode cX5_add 67 = .ok (.isub, 1) := by decide +kernel
theorem dX5_add_68 : decode cX5_add 68 = .ok (.ireturn, 1) := by decide +kernel
theorem dX5_takeFrom_0 : decode cX5_takeFrom 0 = .ok (.aload_n 0, 1) := by decide +kernel
theorem dX5_takeFrom_1 : decode cX5_takeFrom 1 = .ok (.aload_n 1, 1) := by decide +kernel
theorem dX5_takeFrom_2 : decode cX5_takeFrom 2 = .ok (.getfield 48, 3) := by decide +kernel
theorem dX5_takeFrom_5 : decode cX5_takeFrom 5 = .ok (.putfield 48, 3) := by decide +kernel
theorem dX5_takeFrom_8 : decode cX5_takeFrom 8 = .ok (.aload_n 1, 1) := by decide +kernel
theorem dX5_takeFrom_9 : decode cX5_takeFrom 9 = .ok (.getfield 9, 3) := by decide +kernel
theorem dX5_takeFrom_12 : decode cX5_takeFrom 12 = .ok (.aload_n 0, 1) := by decide +kernel
theorem dX5_takeFrom_13 : decode cX5_takeFrom 13 = .ok (.getfield 9, 3) := by decide +kernel
theorem dX5_takeFrom_16 : decode cX5_takeFrom 16 = .ok (.invokestatic 36, 3) := by decide +kernel
theorem dX5_takeFrom_19 : decode cX5_takeFrom 19 = .ok (.aload_n 1, 1) := by decide +kernel
theorem dX5_takeFrom_20 : decode cX5_takeFrom 20 = .ok (.getfield 15, 3) := by decide +kernel
theorem dX5_takeFrom_23 : decode cX5_takeFrom 23 = .ok (.aload_n 0, 1) := by decide +kernel
theorem dX5_takeFrom_24 : decode cX5_takeFrom 24 = .ok (.getfield 15, 3) := by decide +kernel
theorem dX5_takeFrom_27 : decode cX5_takeFrom 27 = .ok (.invokestatic 36, 3) := by decide +kernel
theorem dX5_takeFrom_30 : decode cX5_takeFrom 30 = .ok (.aload_n 1, 1) := by decide +kernel
theorem dX5_takeFrom_31 : decode cX5_takeFrom 31 = .ok (.getfield 18, 3) := by decide +kernel
theorem dX5_takeFrom_34 : decode cX5_takeFrom 34 = .ok (.aload_n 0, 1) := by decide +kernel
theorem dX5_takeFrom_35 : decode cX5_takeFrom 35 = .ok (.getfield 18, 3) := by decide +kernel
theorem dX5_takeFrom_38 : decode cX5_takeFrom 38 = .ok (.invokestatic 36, 3) := by decide +kernel
theorem dX5_takeFrom_41 : decode cX5_takeFrom 41 = .ok (.aload_n 1, 1) := by decide +kernel
theorem dX5_takeFrom_42 : decode cX5_takeFrom 42 = .ok (.getfield 21, 3) := by decide +kernel
theorem dX5_takeFrom_45 : decode cX5_takeFrom 45 = .ok (.aload_n 0, 1) := by decide +kernel
theorem dX5_takeFrom_46 : decode cX5_takeFrom 46 = .ok (.getfield 21, 3) := by decide +kernel
theorem dX5_takeFrom_49 : decode cX5_takeFrom 49 = .ok (.invokestatic 36, 3) := by decide +kernel
theorem dX5_takeFrom_52 : decode cX5_takeFrom 52 = .ok (.aload_n 1, 1) := by decide +kernel
theorem dX5_takeFrom_53 : decode cX5_takeFrom 53 = .ok (.getfield 24, 3) := by decide +kernel
theorem dX5_takeFrom_56 : decode cX5_takeFrom 56 = .ok (.aload_n 0, 1) := by decide +kernel
theorem dX5_takeFrom_57 : decode cX5_takeFrom 57 = .ok (.getfield 24, 3) := by decide +kernel
theorem dX5_takeFrom_60 : decode cX5_takeFrom 60 = .ok (.invokestatic 36, 3) := by decide +kernel
theorem dX5_takeFrom_63 : decode cX5_takeFrom 63 = .ok (.aload_n 1, 1) := by decide +kernel
theorem dX5_takeFrom_64 : decode cX5_takeFrom 64 = .ok (.getfield 27, 3) := by decide +kernel
theorem dX5_takeFrom_67 : decode cX5_takeFrom 67 = .ok (.aload_n 0, 1) := by decide +kernel
theorem dX5_takeFrom_68 : decode cX5_takeFrom 68 = .ok (.getfield 27, 3) := by decide +kernel
theorem dX5_takeFrom_71 : decode cX5_takeFrom 71 = .ok (.invokestatic 36, 3) := by decide +kernel
theorem dX5_takeFrom_74 : decode cX5_takeFrom 74 = .ok (.return_, 1) := by decide +kernel
theorem dX6_init_0 : decode cX6_init 0 = .ok (.aload_n 0, 1) := by decide +kernel
theorem dX6_init_1 : decode cX6_init 1 = .ok (.invokespecial 3, 3) := by decide +kernel
theorem dX6_init_4 : decode cX6_init 4 = .ok (.aload_n 0, 1) := by decide +kernel
theorem dX6_init_5 : decode cX6_init 5 = .ok (.bipush 8, 2) := by decide +kernel
theorem dX6_init_7 : decode cX6_init 7 = .ok (.newarray .int, 2) := by decide +kernel
theorem dX6_init_9 : decode cX6_init 9 = .ok (.putfield 9, 3) := by decide +kernel
theorem dX6_init_12 : decode cX6_init 12 = .ok (.aload_n 0, 1) := by decide +kernel
theorem dX6_init_13 : decode cX6_init 13 = .ok (.bipush 8, 2) := by decide +kernel
theorem dX6_init_15 : decode cX6_init 15 = .ok (.newarray .int, 2) := by decide +kernel
theorem dX6_init_17 : decode cX6_init 17 = .ok (.putfield 15, 3) := by decide +kernel
theorem dX6_init_20 : decode cX6_init 20 = .ok (.aload_n 0, 1) := by decide +kernel
theorem dX6_init_21 : decode cX6_init 21 = .ok (.bipush 64, 2) := by decide +kernel
theorem dX6_init_23 : decode cX6_init 23 = .ok (.newarray .boolean, 2) := by decide +kernel
theorem dX6_init_25 : decode cX6_init 25 = .ok (.putfield 18, 3) := by decide +kernel
theorem dX6_init_28 : decode cX6_init 28 = .ok (.aload_n 0, 1) := by decide +kernel
theorem dX6_init_29 : decode cX6_init 29 = .ok (.bipush 64, 2) := by decide +kernel
theorem dX6_init_31 : decode cX6_init 31 = .ok (.newarray .int, 2) := by decide +kernel
theorem dX6_init_33 : decode cX6_init 33 = .ok (.putfield 22, 3) := by decide +kernel
theorem dX6_init_36 : decode cX6_init 36 = .ok (.aload_n 0, 1) := by decide +kernel
theorem dX6_init_37 : decode cX6_init 37 = .ok (.bipush 64, 2) := by decide +kernel
theorem dX6_init_39 : decode cX6_init 39 = .ok (.newarray .boolean, 2) := by decide +kernel
theorem dX6_init_41 : decode cX6_init 41 = .ok (.putfield 25, 3) := by decide +kernel
theorem dX6_init_44 : decode cX6_init 44 = .ok (.aload_n 0, 1) := by decide +kernel
theorem dX6_init_45 : decode cX6_init 45 = .ok (.bipush 64, 2) := by decide +kernel
theorem dX6_init_47 : decode cX6_init 47 = .ok (.newarray .int, 2) := by decide +kernel
theorem dX6_init_49 : decode cX6_init 49 = .ok (.putfield 28, 3) := by decide +kernel
theorem dX6_init_52 : decode cX6_init 52 = .ok (.aload_n 0, 1) := by decide +kernel
theorem dX6_init_53 : decode cX6_init 53 = .ok (.bipush 64, 2) := by decide +kernel
theorem dX6_init_55 : decode cX6_init 55 = .ok (.newarray .int, 2) := by decide +kernel
theorem dX6_init_57 : decode cX6_init 57 = .ok (.putfield 31, 3) := by decide +kernel
theorem dX6_init_60 : decode cX6_init 60 = .ok (.aload_n 0, 1) := by decide +kernel
theorem dX6_init_61 : decode cX6_init 61 = .ok (.bipush 64, 2) := by decide +kernel
theorem dX6_init_63 : decode cX6_init 63 = .ok (.newarray .int, 2) := by decide +kernel
theorem dX6_init_65 : decode cX6_init 65 = .ok (.putfield 34, 3) := by decide +kernel
theorem dX6_init_68 : decode cX6_init 68 = .ok (.aload_n 0, 1) := by decide +kernel
theorem dX6_init_69 : decode cX6_init 69 = .ok (.bipush 64, 2) := by decide +kernel
theorem dX6_init_71 : decode cX6_init 71 = .ok (.newarray .boolean, 2) := by decide +kernel
theorem dX6_init_73 : decode cX6_init 73 = .ok (.putfield 37, 3) := by decide +kernel
theorem dX6_init_76 : decode cX6_init 76 = .ok (.aload_n 0, 1) := by decide +kernel
theorem dX6_init_77 : decode cX6_init 77 = .ok (.sipush 2304, 3) := by decide +kernel
theorem dX6_init_80 : decode cX6_init 80 = .ok (.newarray .int, 2) := by decide +kernel
theorem dX6_init_82 : decode cX6_init 82 = .ok (.putfield 40, 3) := by decide +kernel
theorem dX6_init_85 : decode cX6_init 85 = .ok (.aload_n 0, 1) := by decide +kernel
theorem dX6_init_86 : decode cX6_init 86 = .ok (.bipush 8, 2) := by decide +kernel
theorem dX6_init_88 : decode cX6_init 88 = .ok (.newarray .int, 2) := by decide +kernel
theorem dX6_init_90 : decode cX6_init 90 = .ok (.putfield 43, 3) := by decide +kernel
theorem dX6_init_93 : decode cX6_init 93 = .ok (.aload_n 0, 1) := by decide +kernel
theorem dX6_init_94 : decode cX6_init 94 = .ok (.aload_n 1, 1) := by decide +kernel
theorem dX6_init_95 : decode cX6_init 95 = .ok (.putfield 46, 3) := by decide +kernel
theorem dX6_init_98 : decode cX6_init 98 = .ok (.aload_n 0, 1) := by decide +kernel
theorem dX6_init_99 : decode cX6_init 99 = .ok (.aload_n 2, 1) := by decide +kernel
theorem dX6_init_100 : decode cX6_init 100 = .ok (.putfield 50, 3) := by decide +kernel
theorem dX6_init_103 : decode cX6_init 103 = .ok (.return_, 1) := by decide +kernel
theorem dX6_gather_0 : decode cX6_gather 0 = .ok (.aload_n 0, 1) := by decide +kernel
theorem dX6_gather_1 : decode cX6_gather 1 = .ok (.aload_n 0, 1) := by decide +kernel
theorem dX6_gather_2 : decode cX6_gather 2 = .ok (.iconst 0, 1) := by decide +kernel
theorem dX6_gather_3 : decode cX6_gather 3 = .ok (.aload_n 0, 1) := by decide +kernel
theorem dX6_gather_4 : decode cX6_gather 4 = .ok (.getfield 9, 3) := by decide +kernel
theorem dX6_gather_7 : decode cX6_gather 7 = .ok (.invokevirtual 54, 3) := by decide +kernel
theorem dX6_gather_10 : decode cX6_gather 10 = .ok (.putfield 58, 3) := by decide +kernel
theorem dX6_gather_13 : decode cX6_gather 13 = .ok (.aload_n 0, 1) := by decide +kernel
theorem dX6_gather_14 : decode cX6_gather 14 = .ok (.aload_n 0, 1) := by decide +kernel
theorem dX6_gather_15 : decode cX6_gather 15 = .ok (.iconst 1, 1) := by decide +kernel
theorem dX6_gather_16 : decode cX6_gather 16 = .ok (.aload_n 0, 1) := by decide +kernel
theorem dX6_gather_17 : decode cX6_gather 17 = .ok (.getfield 15, 3) := by decide +kernel
theorem dX6_gather_20 : decode cX6_gather 20 = .ok (.invokevirtual 54, 3) := by decide +kernel
theorem dX6_gather_23 : decode cX6_gather 23 = .ok (.putfield 62, 3) := by decide +kernel
theorem dX6_gather_26 : decode cX6_gather 26 = .ok (.iconst 0, 1) := by decide +kernel
theorem dX6_gather_27 : decode cX6_gather 27 = .ok (.istore_n 1, 1) := by decide +kernel
theorem dX6_gather_28 : decode cX6_gather 28 = .ok (.iload_n 1, 1) := by decide +kernel
theorem dX6_gather_29 : decode cX6_gather 29 = .ok (.aload_n 0, 1) := by decide +kernel
theorem dX6_gather_30 : decode cX6_gather 30 = .ok (.getfield 58, 3) := by decide +kernel
theorem dX6_gather_33 : decode cX6_gather 33 = .ok (.if_icmp .ge 125, 3) := by decide +kernel
theorem dX6_gather_36 : decode cX6_gather 36 = .ok (.iconst 0, 1) := by decide +kernel
theorem dX6_gather_37 : decode cX6_gather 37 = .ok (.istore_n 2, 1) := by decide +kernel
theorem dX6_gather_38 : decode cX6_gather 38 = .ok (.iload_n 2, 1) := by decide +kernel
theorem dX6_gather_39 : decode cX6_gather 39 = .ok (.aload_n 0, 1) := by decide +kernel
theorem dX6_gather_40 : decode cX6_gather 40 = .ok (.getfield 62, 3) := by decide +kernel
theorem dX6_gather_43 : decode cX6_gather 43 = .ok (.if_icmp .ge 109, 3) := by decide +kernel
theorem dX6_gather_46 : decode cX6_gather 46 = .ok (.iload_n 1, 1) := by decide +kernel
theorem dX6_gather_47 : decode cX6_gather 47 = .ok (.bipush 8, 2) := by decide +kernel
theorem dX6_gather_49 : decode cX6_gather 49 = .ok (.imul, 1) := by decide +kernel
theorem dX6_gather_50 : decode cX6_gather 50 = .ok (.iload_n 2, 1) := by decide +kernel
theorem dX6_gather_51 : decode cX6_gather 51 = .ok (.iadd, 1) := by decide +kernel
theorem dX6_gather_52 : decode cX6_gather 52 = .ok (.istore_n 3, 1) := by decide +kernel
theorem dX6_gather_53 : decode cX6_gather 53 = .ok (.aload_n 0, 1) := by decide +kernel
theorem dX6_gather_54 : decode cX6_gather 54 = .ok (.getfield 18, 3) := by decide +kernel
theorem dX6_gather_57 : decode cX6_gather 57 = .ok (.iload_n 3, 1) := by decide +kernel
theorem dX6_gather_58 : decode cX6_gather 58 = .ok (.aload_n 0, 1) := by decide +kernel
theorem dX6_gather_59 : decode cX6_gather 59 = .ok (.getfield 50, 3) := by decide +kernel
theorem dX6_gather_62 : decode cX6_gather 62 = .ok (.aload_n 0, 1) := by decide +kernel
theorem dX6_gather_63 : decode cX6_gather 63 = .ok (.getfield 9, 3) := by decide +kernel
theorem dX6_gather_66 : decode cX6_gather 66 = .ok (.iload_n 1, 1) := by decide +kernel
theorem dX6_gather_67 : decode cX6_gather 67 = .ok (.iaload, 1) := by decide +kernel
theorem dX6_gather_68 : decode cX6_gather 68 = .ok (.aload_n 0, 1) := by decide +kernel
theorem dX6_gather_69 : decode cX6_gather 69 = .ok (.getfield 15, 3) := by decide +kernel
theorem dX6_gather_72 : decode cX6_gather 72 = .ok (.iload_n 2, 1) := by decide +kernel
theorem dX6_gather_73 : decode cX6_gather 73 = .ok (.iaload, 1) := by decide +kernel
theorem dX6_gather_74 : decode cX6_gather 74 = .ok (.invokevirtual 65, 3) := by decide +kernel
theorem dX6_gather_77 : decode cX6_gather 77 = .ok (.bastore, 1) := by decide +kernel
theorem dX6_gather_78 : decode cX6_gather 78 = .ok (.aload_n 0, 1) := by decide +kernel
theorem dX6_gather_79 : decode cX6_gather 79 = .ok (.getfield 22, 3) := by decide +kernel
theorem dX6_gather_82 : decode cX6_gather 82 = .ok (.iload_n 3, 1) := by decide +kernel
theorem dX6_gather_83 : decode cX6_gather 83 = .ok (.aload_n 0, 1) := by decide +kernel
theorem dX6_gather_84 : decode cX6_gather 84 = .ok (.getfield 50, 3) := by decide +kernel
theorem dX6_gather_87 : decode cX6_gather 87 = .ok (.getfield 71, 3) := by decide +kernel
theorem dX6_gather_90 : decode cX6_gather 90 = .ok (.iastore, 1) := by decide +kernel
theorem dX6_gather_91 : decode cX6_gather 91 = .ok (.aload_n 0, 1) := by decide +kernel
theorem dX6_gather_92 : decode cX6_gather 92 = .ok (.getfield 25, 3) := by decide +kernel
theorem dX6_gather_95 : decode cX6_gather 95 = .ok (.iload_n 3, 1) := by decide +kernel
theorem dX6_gather_96 : decode cX6_gather 96 = .ok (.aload_n 0, 1) := by decide +kernel
theorem dX6_gather_97 : decode cX6_gather 97 = .ok (.getfield 50, 3) := by decide +kernel
theorem dX6_gather_100 : decode cX6_gather 100 = .ok (.getfield 74, 3) := by decide +kernel
theorem dX6_gather_103 : decode cX6_gather 103 = .ok (.iconst 2, 1) := by decide +kernel
theorem dX6_gather_104 : decode cX6_gather 104 = .ok (.iaload, 1) := by decide +kernel
theorem dX6_gather_105 : decode cX6_gather 105 = .ok (.iconst 1, 1) := by decide +kernel
theorem dX6_gather_106 : decode cX6_gather 106 = .ok (.if_icmp .ne 7, 3) := by decide +kernel
theorem dX6_gather_109 : decode cX6_gather 109 = .ok (.iconst 1, 1) := by decide +kernel
theorem dX6_gather_110 : decode cX6_gather 110 = .ok (.goto 4, 3) := by decide +kernel
theorem dX6_gather_113 : decode cX6_gather 113 = .ok (.iconst 0, 1) := by decide +kernel
theorem dX6_gather_114 : decode cX6_gather 114 = .ok (.bastore, 1) := by decide +kernel
theorem dX6_gather_115 : decode cX6_gather 115 = .ok (.aload_n 0, 1) := by decide +kernel
theorem dX6_gather_116 : decode cX6_gather 116 = .ok (.getfield 28, 3) := by decide +kernel
theorem dX6_gather_119 : decode cX6_gather 119 = .ok (.iload_n 3, 1) := by decide +kernel
theorem dX6_gather_120 : decode cX6_gather 120 = .ok (.ldc 77, 2) := by decide +kernel
theorem dX6_gather_122 : decode cX6_gather 122 = .ok (.aload_n 0, 1) := by decide +kernel
theorem dX6_gather_123 : decode cX6_gather 123 = .ok (.getfield 22, 3) := by decide +kernel
theorem dX6_gather_126 : decode cX6_gather 126 = .ok (.iload_n 3, 1) := by decide +kernel
theorem dX6_gather_127 : decode cX6_gather 127 = .ok (.iaload, 1) := by decide +kernel
theorem dX6_gather_128 : decode cX6_gather 128 = .ok (.isub, 1) := by decide +kernel
theorem dX6_gather_129 : decode cX6_gather 129 = .ok (.aload_n 0, 1) := by decide +kernel
theorem dX6_gather_130 : decode cX6_gather 130 = .ok (.getfield 25, 3) := by decide +kernel
theorem dX6_gather_133 : decode cX6_gather 133 = .ok (.iload_n 3, 1) := by decide +kernel
theorem dX6_gather_134 : decode cX6_gather 134 = .ok (.baload, 1) := by decide +kernel
theorem dX6_gather_135 : decode cX6_gather 135 = .ok (.ifCond .eq 8, 3) := by decide +kernel
theorem dX6_gather_138 : decode cX6_gather 138 = .ok (.ldc 78, 2) := by decide +kernel
theorem dX6_gather_140 : decode cX6_gather 140 = .ok (.goto 4, 3) := by decide +kernel
theorem dX6_gather_143 : decode cX6_gather 143 = .ok (.iconst 0, 1) := by decide +kernel
theorem dX6_gather_144 : decode cX6_gather 144 = .ok (.iadd, 1) := by decide +kernel
theorem dX6_gather_145 : decode cX6_gather 145 = .ok (.iastore, 1) := by decide +kernel
theorem dX6_gather_146 : decode cX6_gather 146 = .ok (.iinc 2 1, 3) := by decide +kernel
theorem dX6_gather_149 : decode cX6_gather 149 = .ok (.goto (-111), 3) := by decide +kernel
theorem dX6_gather_152 : decode cX6_gather 152 = .ok (.iinc 1 1, 3) := by decide +kernel
theorem dX6_gather_155 : decode cX6_gather 155 = .ok (.goto (-127), 3) := by decide +kernel
theorem dX6_gather_158 : decode cX6_gather 158 = .ok (.return_, 1) := by decide +kernel
theorem dX6_pick_0 : decode cX6_pick 0 = .ok (.iconst 0, 1) := by decide +kernel
theorem dX6_pick_1 : decode cX6_pick 1 = .ok (.istore_n 3, 1) := by decide +kernel
theorem dX6_pick_2 : decode cX6_pick 2 = .ok (.iconst 0, 1) := by decide +kernel
theorem dX6_pick_3 : decode cX6_pick 3 = .ok (.istore 4, 2) := by decide +kernel
theorem dX6_pick_5 : decode cX6_pick 5 = .ok (.iload 4, 2) := by decide +kernel
theorem dX6_pick_7 : decode cX6_pick 7 = .ok (.aload_n 0, 1) := by decide +kernel
theorem dX6_pick_8 : decode cX6_pick 8 = .ok (.getfield 46, 3) := by decide +kernel
theorem dX6_pick_11 : decode cX6_pick 11 = .ok (.getfield 79, 3) := by decide +kernel
theorem dX6_pick_14 : decode cX6_pick 14 = .ok (.getfield 85, 3) := by decide +kernel
theorem dX6_pick_17 : decode cX6_pick 17 = .ok (.if_icmp .ge 55, 3) := by decide +kernel
theorem dX6_pick_20 : decode cX6_pick 20 = .ok (.iload_n 3, 1) := by decide +kernel
theorem dX6_pick_21 : decode cX6_pick 21 = .ok (.bipush 8, 2) := by decide +kernel
theorem dX6_pick_23 : decode cX6_pick 23 = .ok (.if_icmp .ge 49, 3) := by decide +kernel
theorem dX6_pick_26 : decode cX6_pick 26 = .ok (.aload_n 0, 1) := by decide +kernel
theorem dX6_pick_27 : decode cX6_pick 27 = .ok (.getfield 46, 3) := by decide +kernel
theorem dX6_pick_30 : decode cX6_pick 30 = .ok (.getfield 79, 3) := by decide +kernel
theorem dX6_pick_33 : decode cX6_pick 33 = .ok (.getfield 90, 3) := by decide +kernel
theorem dX6_pick_36 : decode cX6_pick 36 = .ok (.iload 4, 2) := by decide +kernel
theorem dX6_pick_38 : decode cX6_pick 38 = .ok (.iaload, 1) := by decide +kernel
theorem dX6_pick_39 : decode cX6_pick 39 = .ok (.iload_n 1, 1) := by decide +kernel
theorem dX6_pick_40 : decode cX6_pick 40 = .ok (.if_icmp .ne 26, 3) := by decide +kernel
theorem dX6_pick_43 : decode cX6_pick 43 = .ok (.aload_n 0, 1) := by decide +kernel
theorem dX6_pick_44 : decode cX6_pick 44 = .ok (.getfield 46, 3) := by decide +kernel
theorem dX6_pick_47 : decode cX6_pick 47 = .ok (.getfield 79, 3) := by decide +kernel
theorem dX6_pick_50 : decode cX6_pick 50 = .ok (.iload 4, 2) := by decide +kernel
theorem dX6_pick_52 : decode cX6_pick 52 = .ok (.invokevirtual 93, 3) := by decide +kernel
theorem dX6_pick_55 : decode cX6_pick 55 = .ok (.ifCond .eq 11, 3) := by decide +kernel
theorem dX6_pick_58 : decode cX6_pick 58 = .ok (.aload_n 2, 1) := by decide +kernel
theorem dX6_pick_59 : decode cX6_pick 59 = .ok (.iload_n 3, 1) := by decide +kernel
theorem dX6_pick_60 : decode cX6_pick 60 = .ok (.iload 4, 2) := by decide +kernel
theorem dX6_pick_62 : decode cX6_pick 62 = .ok (.iastore, 1) := by decide +kernel
theorem dX6_pick_63 : decode cX6_pick 63 = .ok (.iinc 3 1, 3) := by decide +kernel
theorem dX6_pick_66 : decode cX6_pick 66 = .ok (.iinc 4 1, 3) := by decide +kernel
theorem dX6_pick_69 : decode cX6_pick 69 = .ok (.goto (-64), 3) := by decide +kernel
theorem dX6_pick_72 : decode cX6_pick 72 = .ok (.iload_n 3, 1) := by decide +kernel
theorem dX6_pick_73 : decode cX6_pick 73 = .ok (.ireturn, 1) := by decide +kernel
theorem dX6_settleBest_0 : decode cX6_settleBest 0 = .ok (.aload_n 0, 1) := by decide +kernel
theorem dX6_settleBest_1 : decode cX6_settleBest 1 = .ok (.getfield 43, 3) := by decide +kernel
theorem dX6_settleBest_4 : decode cX6_settleBest 4 = .ok (.iconst (-1), 1) := by decide +kernel
theorem dX6_settleBest_5 : decode cX6_settleBest 5 = .ok (.invokestatic 97, 3) := by decide +kernel
theorem dX6_settleBest_8 : decode cX6_settleBest 8 = .ok (.iconst 1, 1) := by decide +kernel
theorem dX6_settleBest_9 : decode cX6_settleBest 9 = .ok (.aload_n 0, 1) := by decide +kernel
theorem dX6_settleBest_10 : decode cX6_settleBest 10 = .ok (.getfield 62, 3) := by decide +kernel
theorem dX6_settleBest_13 : decode cX6_settleBest 13 = .ok (.ishl, 1) := by decide +kernel
theorem dX6_settleBest_14 : decode cX6_settleBest 14 = .ok (.istore_n 1, 1) := by decide +kernel
theorem dX6_settleBest_15 : decode cX6_settleBest 15 = .ok (.iconst 0, 1) := by decide +kernel
theorem dX6_settleBest_16 : decode cX6_settleBest 16 = .ok (.istore_n 2, 1) := by decide +kernel
theorem dX6_settleBest_17 : decode cX6_settleBest 17 = .ok (.iload_n 2, 1) := by decide +kernel
theorem dX6_settleBest_18 : decode cX6_settleBest 18 = .ok (.iload_n 1, 1) := by decide +kernel
theorem dX6_settleBest_19 : decode cX6_settleBest 19 = .ok (.if_icmp .ge 24, 3) := by decide +kernel
theorem dX6_settleBest_22 : decode cX6_settleBest 22 = .ok (.aload_n 0, 1) := by decide +kernel
theorem dX6_settleBest_23 : decode cX6_settleBest 23 = .ok (.getfield 40, 3) := by decide +kernel
theorem dX6_settleBest_26 : decode cX6_settleBest 26 = .ok (.aload_n 0, 1) := by decide +kernel
theorem dX6_settleBest_27 : decode cX6_settleBest 27 = .ok (.getfield 58, 3) := by decide +kernel
theorem dX6_settleBest_30 : decode cX6_settleBest 30 = .ok (.bipush 8, 2) := by decide +kernel
theorem dX6_settleBest_32 : decode cX6_settleBest 32 = .ok (.ishl, 1) := by decide +kernel
theorem dX6_settleBest_33 : decode cX6_settleBest 33 = .ok (.iload_n 2, 1) := by decide +kernel
theorem dX6_settleBest_34 : decode cX6_settleBest 34 = .ok (.iadd, 1) := by decide +kernel
theorem dX6_settleBest_35 : decode cX6_settleBest 35 = .ok (.iconst 0, 1) := by decide +kernel
theorem dX6_settleBest_36 : decode cX6_settleBest 36 = .ok (.iastore, 1) := by decide +kernel
theorem dX6_settleBest_37 : decode cX6_settleBest 37 = .ok (.iinc 2 1, 3) := by decide +kernel
theorem dX6_settleBest_40 : decode cX6_settleBest 40 = .ok (.goto (-23), 3) := by decide +kernel
theorem dX6_settleBest_43 : decode cX6_settleBest 43 = .ok (.aload_n 0, 1) := by decide +kernel
theorem dX6_settleBest_44 : decode cX6_settleBest 44 = .ok (.getfield 58, 3) := by decide +kernel
theorem dX6_settleBest_47 : decode cX6_settleBest 47 = .ok (.iconst 1, 1) := by decide +kernel
theorem dX6_settleBest_48 : decode cX6_settleBest 48 = .ok (.isub, 1) := by decide +kernel
theorem dX6_settleBest_49 : decode cX6_settleBest 49 = .ok (.istore_n 2, 1) := by decide +kernel
theorem dX6_settleBest_50 : decode cX6_settleBest 50 = .ok (.iload_n 2, 1) := by decide +kernel
theorem dX6_settleBest_51 : decode cX6_settleBest 51 = .ok (.ifCond .lt 47, 3) := by decide +kernel
theorem dX6_settleBest_54 : decode cX6_settleBest 54 = .ok (.iconst 0, 1) := by decide +kernel
theorem dX6_settleBest_55 : decode cX6_settleBest 55 = .ok (.istore_n 3, 1) := by decide +kernel
theorem dX6_settleBest_56 : decode cX6_settleBest 56 = .ok (.iload_n 3, 1) := by decide +kernel
theorem dX6_settleBest_57 : decode cX6_settleBest 57 = .ok (.iload_n 1, 1) := by decide +kernel
theorem dX6_settleBest_58 : decode cX6_settleBest 58 = .ok (.if_icmp .ge 34, 3) := by decide +kernel
theorem dX6_settleBest_61 : decode cX6_settleBest 61 = .ok (.iload_n 3, 1) := by decide +kernel
theorem dX6_settleBest_62 : decode cX6_settleBest 62 = .ok (.invokestatic 103, 3) := by decide +kernel
theorem dX6_settleBest_65 : decode cX6_settleBest 65 = .ok (.iload_n 2, 1) := by decide +kernel
theorem dX6_settleBest_66 : decode cX6_settleBest 66 = .ok (.if_icmp .gt 20, 3) := by decide +kernel
theorem dX6_settleBest_69 : decode cX6_settleBest 69 = .ok (.aload_n 0, 1) := by decide +kernel
theorem dX6_settleBest_70 : decode cX6_settleBest 70 = .ok (.getfield 40, 3) := by decide +kernel
theorem dX6_settleBest_73 : decode cX6_settleBest 73 = .ok (.iload_n 2, 1) := by decide +kernel
theorem dX6_settleBest_74 : decode cX6_settleBest 74 = .ok (.bipush 8, 2) := by decide +kernel
theorem dX6_settleBest_76 : decode cX6_settleBest 76 = .ok (.ishl, 1) := by decide +kernel
theorem dX6_settleBest_77 : decode cX6_settleBest 77 = .ok (.iload_n 3, 1) := by decide +kernel
theorem dX6_settleBest_78 : decode cX6_settleBest 78 = .ok (.iadd, 1) := by decide +kernel
theorem dX6_settleBest_79 : decode cX6_settleBest 79 = .ok (.aload_n 0, 1) := by decide +kernel
theorem dX6_settleBest_80 : decode cX6_settleBest 80 = .ok (.iload_n 2, 1) := by decide +kernel
theorem dX6_settleBest_81 : decode cX6_settleBest 81 = .ok (.iload_n 3, 1) := by decide +kernel
theorem dX6_settleBest_82 : decode cX6_settleBest 82 = .ok (.invokevirtual 109, 3) := by decide +kernel
theorem dX6_settleBest_85 : decode cX6_settleBest 85 = .ok (.iastore, 1) := by decide +kernel
theorem dX6_settleBest_86 : decode cX6_settleBest 86 = .ok (.iinc 3 1, 3) := by decide +kernel
theorem dX6_settleBest_89 : decode cX6_settleBest 89 = .ok (.goto (-33), 3) := by decide +kernel
theorem dX6_settleBest_92 : decode cX6_settleBest 92 = .ok (.iinc 2 (-1), 3) := by decide +kernel
theorem dX6_settleBest_95 : decode cX6_settleBest 95 = .ok (.goto (-45), 3) := by decide +kernel
theorem dX6_settleBest_98 : decode cX6_settleBest 98 = .ok (.iconst 0, 1) := by decide +kernel
theorem dX6_settleBest_99 : decode cX6_settleBest 99 = .ok (.istore_n 2, 1) := by decide +kernel
theorem dX6_settleBest_100 : decode cX6_settleBest 100 = .ok (.iconst 0, 1) := by decide +kernel
theorem dX6_settleBest_101 : decode cX6_settleBest 101 = .ok (.istore_n 3, 1) := by decide +kernel
theorem dX6_settleBest_102 : decode cX6_settleBest 102 = .ok (.iload_n 3, 1) := by decide +kernel
theorem dX6_settleBest_103 : decode cX6_settleBest 103 = .ok (.aload_n 0, 1) := by decide +kernel
theorem dX6_settleBest_104 : decode cX6_settleBest 104 = .ok (.getfield 58, 3) := by decide +kernel
theorem dX6_settleBest_107 : decode cX6_settleBest 107 = .ok (.if_icmp .ge 42, 3) := by decide +kernel
theorem dX6_settleBest_110 : decode cX6_settleBest 110 = .ok (.aload_n 0, 1) := by decide +kernel
theorem dX6_settleBest_111 : decode cX6_settleBest 111 = .ok (.getfield 43, 3) := by decide +kernel
theorem dX6_settleBest_114 : decode cX6_settleBest 114 = .ok (.iload_n 3, 1) := by decide +kernel
theorem dX6_settleBest_115 : decode cX6_settleBest 115 = .ok (.aload_n 0, 1) := by decide +kernel
theorem dX6_settleBest_116 : decode cX6_settleBest 116 = .ok (.iload_n 3, 1) := by decide +kernel
theorem dX6_settleBest_117 : decode cX6_settleBest 117 = .ok (.iload_n 2, 1) := by decide +kernel
theorem dX6_settleBest_118 : decode cX6_settleBest 118 = .ok (.invokevirtual 113, 3) := by decide +kernel
theorem dX6_settleBest_121 : decode cX6_settleBest 121 = .ok (.iastore, 1) := by decide +kernel
theorem dX6_settleBest_122 : decode cX6_settleBest 122 = .ok (.aload_n 0, 1) := by decide +kernel
theorem dX6_settleBest_123 : decode cX6_settleBest 123 = .ok (.getfield 43, 3) := by decide +kernel
theorem dX6_settleBest_126 : decode cX6_settleBest 126 = .ok (.iload_n 3, 1) := by decide +kernel
theorem dX6_settleBest_127 : decode cX6_settleBest 127 = .ok (.iaload, 1) := by decide +kernel
theorem dX6_settleBest_128 : decode cX6_settleBest 128 = .ok (.iconst (-1), 1) := by decide +kernel
theorem dX6_settleBest_129 : decode cX6_settleBest 129 = .ok (.if_icmp .eq 14, 3) := by decide +kernel
theorem dX6_settleBest_132 : decode cX6_settleBest 132 = .ok (.iload_n 2, 1) := by decide +kernel
theorem dX6_settleBest_133 : decode cX6_settleBest 133 = .ok (.iconst 1, 1) := by decide +kernel
theorem dX6_settleBest_134 : decode cX6_settleBest 134 = .ok (.aload_n 0, 1) := by decide +kernel
theorem dX6_settleBest_135 : decode cX6_settleBest 135 = .ok (.getfield 43, 3) := by decide +kernel
theorem dX6_settleBest_138 : decode cX6_settleBest 138 = .ok (.iload_n 3, 1) := by decide +kernel
theorem dX6_settleBest_139 : decode cX6_settleBest 139 = .ok (.iaload, 1) := by decide +kernel
theorem dX6_settleBest_140 : decode cX6_settleBest 140 = .ok (.ishl, 1) := by decide +kernel
theorem dX6_settleBest_141 : decode cX6_settleBest 141 = .ok (.ior, 1) := by decide +kernel
theorem dX6_settleBest_142 : decode cX6_settleBest 142 = .ok (.istore_n 2, 1) := by decide +kernel
theorem dX6_settleBest_143 : decode cX6_settleBest 143 = .ok (.iinc 3 1, 3) := by decide +kernel
theorem dX6_settleBest_146 : decode cX6_settleBest 146 = .ok (.goto (-44), 3) := by decide +kernel
theorem dX6_settleBest_149 : decode cX6_settleBest 149 = .ok (.return_, 1) := by decide +kernel
theorem dX6_mostWorth_0 : decode cX6_mostWorth 0 = .ok (.aload_n 0, 1) := by decide +kernel
theorem dX6_mostWorth_1 : decode cX6_mostWorth 1 = .ok (.getfield 40, 3) := by decide +kernel
theorem dX6_mostWorth_4 : decode cX6_mostWorth 4 = .ok (.iload_n 1, 1) := by decide +kernel
theorem dX6_mostWorth_5 : decode cX6_mostWorth 5 = .ok (.iconst 1, 1) := by decide +kernel
theorem dX6_mostWorth_6 : decode cX6_mostWorth 6 = .ok (.iadd, 1) := by decide +kernel
theorem dX6_mostWorth_7 : decode cX6_mostWorth 7 = .ok (.bipush 8, 2) := by decide +kernel
theorem dX6_mostWorth_9 : decode cX6_mostWorth 9 = .ok (.ishl, 1) := by decide +kernel
theorem dX6_mostWorth_10 : decode cX6_mostWorth 10 = .ok (.iload_n 2, 1) := by decide +kernel
theorem dX6_mostWorth_11 : decode cX6_mostWorth 11 = .ok (.iadd, 1) := by decide +kernel
theorem dX6_mostWorth_12 : decode cX6_mostWorth 12 = .ok (.iaload, 1) := by decide +kernel
theorem dX6_mostWorth_13 : decode cX6_mostWorth 13 = .ok (.istore_n 3, 1) := by decide +kernel
theorem dX6_mostWorth_14 : decode cX6_mostWorth 14 = .ok (.iconst 0, 1) := by decide +kernel
theorem dX6_mostWorth_15 : decode cX6_mostWorth 15 = .ok (.istore 4, 2) := by decide +kernel
theorem dX6_mostWorth_17 : decode cX6_mostWorth 17 = .ok (.iload 4, 2) := by decide +kernel
theorem dX6_mostWorth_19 : decode cX6_mostWorth 19 = .ok (.aload_n 0, 1) := by decide +kernel
theorem dX6_mostWorth_20 : decode cX6_mostWorth 20 = .ok (.getfield 62, 3) := by decide +kernel
theorem dX6_mostWorth_23 : decode cX6_mostWorth 23 = .ok (.if_icmp .ge 46, 3) := by decide +kernel
theorem dX6_mostWorth_26 : decode cX6_mostWorth 26 = .ok (.aload_n 0, 1) := by decide +kernel
theorem dX6_mostWorth_27 : decode cX6_mostWorth 27 = .ok (.getfield 18, 3) := by decide +kernel
theorem dX6_mostWorth_30 : decode cX6_mostWorth 30 = .ok (.iload_n 1, 1) := by decide +kernel
theorem dX6_mostWorth_31 : decode cX6_mostWorth 31 = .ok (.bipush 8, 2) := by decide +kernel
theorem dX6_mostWorth_33 : decode cX6_mostWorth 33 = .ok (.imul, 1) := by decide +kernel
theorem dX6_mostWorth_34 : decode cX6_mostWorth 34 = .ok (.iload 4, 2) := by decide +kernel
theorem dX6_mostWorth_36 : decode cX6_mostWorth 36 = .ok (.iadd, 1) := by decide +kernel
theorem dX6_mostWorth_37 : decode cX6_mostWorth 37 = .ok (.baload, 1) := by decide +kernel
theorem dX6_mostWorth_38 : decode cX6_mostWorth 38 = .ok (.ifCond .eq 25, 3) := by decide +kernel
theorem dX6_mostWorth_41 : decode cX6_mostWorth 41 = .ok (.iload_n 2, 1) := by decide +kernel
theorem dX6_mostWorth_42 : decode cX6_mostWorth 42 = .ok (.iload 4, 2) := by decide +kernel
theorem dX6_mostWorth_44 : decode cX6_mostWorth 44 = .ok (.ishr, 1) := by decide +kernel
theorem dX6_mostWorth_45 : decode cX6_mostWorth 45 = .ok (.iconst 1, 1) := by decide +kernel
theorem dX6_mostWorth_46 : decode cX6_mostWorth 46 = .ok (.iand, 1) := by decide +kernel
theorem dX6_mostWorth_47 : decode cX6_mostWorth 47 = .ok (.ifCond .ne 16, 3) := by decide +kernel
theorem dX6_mostWorth_50 : decode cX6_mostWorth 50 = .ok (.iload_n 3, 1) := by decide +kernel
theorem dX6_mostWorth_51 : decode cX6_mostWorth 51 = .ok (.aload_n 0, 1) := by decide +kernel
theorem dX6_mostWorth_52 : decode cX6_mostWorth 52 = .ok (.iload_n 1, 1) := by decide +kernel
theorem dX6_mostWorth_53 : decode cX6_mostWorth 53 = .ok (.iload 4, 2) := by decide +kernel
theorem dX6_mostWorth_55 : decode cX6_mostWorth 55 = .ok (.iload_n 2, 1) := by decide +kernel
theorem dX6_mostWorth_56 : decode cX6_mostWorth 56 = .ok (.invokevirtual 116, 3) := by decide +kernel
theorem dX6_mostWorth_59 : decode cX6_mostWorth 59 = .ok (.invokestatic 120, 3) := by decide +kernel
theorem dX6_mostWorth_62 : decode cX6_mostWorth 62 = .ok (.istore_n 3, 1) := by decide +kernel
theorem dX6_mostWorth_63 : decode cX6_mostWorth 63 = .ok (.iinc 4 1, 3) := by decide +kernel
theorem dX6_mostWorth_66 : decode cX6_mostWorth 66 = .ok (.goto (-49), 3) := by decide +kernel
theorem dX6_mostWorth_69 : decode cX6_mostWorth 69 = .ok (.iload_n 3, 1) := by decide +kernel
theorem dX6_mostWorth_70 : decode cX6_mostWorth 70 = .ok (.ireturn, 1) := by decide +kernel
theorem dX6_leastChoice_0 : decode cX6_leastChoice 0 = .ok (.iconst 0, 1) := by decide +kernel
theorem dX6_leastChoice_1 : decode cX6_leastChoice 1 = .ok (.istore_n 3, 1) := by decide +kernel
theorem dX6_leastChoice_2 : decode cX6_leastChoice 2 = .ok (.iload_n 3, 1) := by decide +kernel
theorem dX6_leastChoice_3 : decode cX6_leastChoice 3 = .ok (.aload_n 0, 1) := by decide +kernel
theorem dX6_leastChoice_4 : decode cX6_leastChoice 4 = .ok (.getfield 62, 3) := by decide +kernel
theorem dX6_leastChoice_7 : decode cX6_leastChoice 7 = .ok (.if_icmp .ge 54, 3) := by decide +kernel
theorem dX6_leastChoice_10 : decode cX6_leastChoice 10 = .ok (.aload_n 0, 1) := by decide +kernel
theorem dX6_leastChoice_11 : decode cX6_leastChoice 11 = .ok (.getfield 18, 3) := by decide +kernel
theorem dX6_leastChoice_14 : decode cX6_leastChoice 14 = .ok (.iload_n 1, 1) := by decide +kernel
theorem dX6_leastChoice_15 : decode cX6_leastChoice 15 = .ok (.bipush 8, 2) := by decide +kernel
theorem dX6_leastChoice_17 : decode cX6_leastChoice 17 = .ok (.imul, 1) := by decide +kernel
theorem dX6_leastChoice_18 : decode cX6_leastChoice 18 = .ok (.iload_n 3, 1) := by decide +kernel
theorem dX6_leastChoice_19 : decode cX6_leastChoice 19 = .ok (.iadd, 1) := by decide +kernel
theorem dX6_leastChoice_20 : decode cX6_leastChoice 20 = .ok (.baload, 1) := by decide +kernel
theorem dX6_leastChoice_21 : decode cX6_leastChoice 21 = .ok (.ifCond .eq 34, 3) := by decide +kernel
theorem dX6_leastChoice_24 : decode cX6_leastChoice 24 = .ok (.iload_n 2, 1) := by decide +kernel
theorem dX6_leastChoice_25 : decode cX6_leastChoice 25 = .ok (.iload_n 3, 1) := by decide +kernel
theorem dX6_leastChoice_26 : decode cX6_leastChoice 26 = .ok (.ishr, 1) := by decide +kernel
theorem dX6_leastChoice_27 : decode cX6_leastChoice 27 = .ok (.iconst 1, 1) := by decide +kernel
theorem dX6_leastChoice_28 : decode cX6_leastChoice 28 = .ok (.iand, 1) := by decide +kernel
theorem dX6_leastChoice_29 : decode cX6_leastChoice 29 = .ok (.ifCond .ne 26, 3) := by decide +kernel
theorem dX6_leastChoice_32 : decode cX6_leastChoice 32 = .ok (.aload_n 0, 1) := by decide +kernel
theorem dX6_leastChoice_33 : decode cX6_leastChoice 33 = .ok (.iload_n 1, 1) := by decide +kernel
theorem dX6_leastChoice_34 : decode cX6_leastChoice 34 = .ok (.iload_n 3, 1) := by decide +kernel
theorem dX6_leastChoice_35 : decode cX6_leastChoice 35 = .ok (.iload_n 2, 1) := by decide +kernel
theorem dX6_leastChoice_36 : decode cX6_leastChoice 36 = .ok (.invokevirtual 116, 3) := by decide +kernel
theorem dX6_leastChoice_39 : decode cX6_leastChoice 39 = .ok (.aload_n 0, 1) := by decide +kernel
theorem dX6_leastChoice_40 : decode cX6_leastChoice 40 = .ok (.getfield 40, 3) := by decide +kernel
theorem dX6_leastChoice_43 : decode cX6_leastChoice 43 = .ok (.iload_n 1, 1) := by decide +kernel
theorem dX6_leastChoice_44 : decode cX6_leastChoice 44 = .ok (.bipush 8, 2) := by decide +kernel
theorem dX6_leastChoice_46 : decode cX6_leastChoice 46 = .ok (.ishl, 1) := by decide +kernel
theorem dX6_leastChoice_47 : decode cX6_leastChoice 47 = .ok (.iload_n 2, 1) := by decide +kernel
theorem dX6_leastChoice_48 : decode cX6_leastChoice 48 = .ok (.iadd, 1) := by decide +kernel
theorem dX6_leastChoice_49 : decode cX6_leastChoice 49 = .ok (.iaload, 1) := by decide +kernel
theorem dX6_leastChoice_50 : decode cX6_leastChoice 50 = .ok (.if_icmp .ne 5, 3) := by decide +kernel
theorem dX6_leastChoice_53 : decode cX6_leastChoice 53 = .ok (.iload_n 3, 1) := by decide +kernel
theorem dX6_leastChoice_54 : decode cX6_leastChoice 54 = .ok (.ireturn, 1) := by decide +kernel
theorem dX6_leastChoice_55 : decode cX6_leastChoice 55 = .ok (.iinc 3 1, 3) := by decide +kernel
theorem dX6_leastChoice_58 : decode cX6_leastChoice 58 = .ok (.goto (-56), 3) := by decide +kernel
theorem dX6_leastChoice_61 : decode cX6_leastChoice 61 = .ok (.iconst (-1), 1) := by decide +kernel
theorem dX6_leastChoice_62 : decode cX6_leastChoice 62 = .ok (.ireturn, 1) := by decide +kernel
theorem dX6_worthWith_0 : decode cX6_worthWith 0 = .ok (.aload_n 0, 1) := by decide +kernel
theorem dX6_worthWith_1 : decode cX6_worthWith 1 = .ok (.getfield 28, 3) := by decide +kernel
theorem dX6_worthWith_4 : decode cX6_worthWith 4 = .ok (.iload_n 1, 1) := by decide +kernel
theorem dX6_worthWith_5 : decode cX6_worthWith 5 = .ok (.bipush 8, 2) := by decide +kernel
theorem dX6_worthWith_7 : decode cX6_worthWith 7 = .ok (.imul, 1) := by decide +kernel
theorem dX6_worthWith_8 : decode cX6_worthWith 8 = .ok (.iload_n 2, 1) := by decide +kernel
theorem dX6_worthWith_9 : decode cX6_worthWith 9 = .ok (.iadd, 1) := by decide +kernel
theorem dX6_worthWith_10 : decode cX6_worthWith 10 = .ok (.iaload, 1) := by decide +kernel
theorem dX6_worthWith_11 : decode cX6_worthWith 11 = .ok (.aload_n 0, 1) := by decide +kernel
theorem dX6_worthWith_12 : decode cX6_worthWith 12 = .ok (.getfield 40, 3) := by decide +kernel
theorem dX6_worthWith_15 : decode cX6_worthWith 15 = .ok (.iload_n 1, 1) := by decide +kernel
theorem dX6_worthWith_16 : decode cX6_worthWith 16 = .ok (.iconst 1, 1) := by decide +kernel
theorem dX6_worthWith_17 : decode cX6_worthWith 17 = .ok (.iadd, 1) := by decide +kernel
theorem dX6_worthWith_18 : decode cX6_worthWith 18 = .ok (.bipush 8, 2) := by decide +kernel
theorem dX6_worthWith_20 : decode cX6_worthWith 20 = .ok (.ishl, 1) := by decide +kernel
theorem dX6_worthWith_21 : decode cX6_worthWith 21 = .ok (.iload_n 3, 1) := by decide +kernel
theorem dX6_worthWith_22 : decode cX6_worthWith 22 = .ok (.iconst 1, 1) := by decide +kernel
theorem dX6_worthWith_23 : decode cX6_worthWith 23 = .ok (.iload_n 2, 1) := by decide +kernel
theorem dX6_worthWith_24 : decode cX6_worthWith 24 = .ok (.ishl, 1) := by decide +kernel
theorem dX6_worthWith_25 : decode cX6_worthWith 25 = .ok (.ior, 1) := by decide +kernel
theorem dX6_worthWith_26 : decode cX6_worthWith 26 = .ok (.iadd, 1) := by decide +kernel
theorem dX6_worthWith_27 : decode cX6_worthWith 27 = .ok (.iaload, 1) := by decide +kernel
theorem dX6_worthWith_28 : decode cX6_worthWith 28 = .ok (.iadd, 1) := by decide +kernel
theorem dX6_worthWith_29 : decode cX6_worthWith 29 = .ok (.ireturn, 1) := by decide +kernel
theorem dX6_weddings_0 : decode cX6_weddings 0 = .ok (.iconst 0, 1) := by decide +kernel
theorem dX6_weddings_1 : decode cX6_weddings 1 = .ok (.istore_n 1, 1) := by decide +kernel
theorem dX6_weddings_2 : decode cX6_weddings 2 = .ok (.iconst 0, 1) := by decide +kernel
theorem dX6_weddings_3 : decode cX6_weddings 3 = .ok (.istore_n 2, 1) := by decide +kernel
theorem dX6_weddings_4 : decode cX6_weddings 4 = .ok (.iload_n 2, 1) := by decide +kernel
theorem dX6_weddings_5 : decode cX6_weddings 5 = .ok (.aload_n 0, 1) := by decide +kernel
theorem dX6_weddings_6 : decode cX6_weddings 6 = .ok (.getfield 58, 3) := by decide +kernel
theorem dX6_weddings_9 : decode cX6_weddings 9 = .ok (.if_icmp .ge 27, 3) := by decide +kernel
theorem dX6_weddings_12 : decode cX6_weddings 12 = .ok (.iload_n 1, 1) := by decide +kernel
theorem dX6_weddings_13 : decode cX6_weddings 13 = .ok (.aload_n 0, 1) := by decide +kernel
theorem dX6_weddings_14 : decode cX6_weddings 14 = .ok (.getfield 43, 3) := by decide +kernel
theorem dX6_weddings_17 : decode cX6_weddings 17 = .ok (.iload_n 2, 1) := by decide +kernel
theorem dX6_weddings_18 : decode cX6_weddings 18 = .ok (.iaload, 1) := by decide +kernel
theorem dX6_weddings_19 : decode cX6_weddings 19 = .ok (.iconst (-1), 1) := by decide +kernel
theorem dX6_weddings_20 : decode cX6_weddings 20 = .ok (.if_icmp .ne 7, 3) := by decide +kernel
theorem dX6_weddings_23 : decode cX6_weddings 23 = .ok (.iconst 0, 1) := by decide +kernel
theorem dX6_weddings_24 : decode cX6_weddings 24 = .ok (.goto 4, 3) := by decide +kernel
theorem dX6_weddings_27 : decode cX6_weddings 27 = .ok (.iconst 1, 1) := by decide +kernel
theorem dX6_weddings_28 : decode cX6_weddings 28 = .ok (.iadd, 1) := by decide +kernel
theorem dX6_weddings_29 : decode cX6_weddings 29 = .ok (.istore_n 1, 1) := by decide +kernel
theorem dX6_weddings_30 : decode cX6_weddings 30 = .ok (.iinc 2 1, 3) := by decide +kernel
theorem dX6_weddings_33 : decode cX6_weddings 33 = .ok (.goto (-29), 3) := by decide +kernel
theorem dX6_weddings_36 : decode cX6_weddings 36 = .ok (.iload_n 1, 1) := by decide +kernel
theorem dX6_weddings_37 : decode cX6_weddings 37 = .ok (.ireturn, 1) := by decide +kernel
theorem dX6_feudsEnded_0 : decode cX6_feudsEnded 0 = .ok (.iconst 0, 1) := by decide +kernel
theorem dX6_feudsEnded_1 : decode cX6_feudsEnded 1 = .ok (.istore_n 1, 1) := by decide +kernel
theorem dX6_feudsEnded_2 : decode cX6_feudsEnded 2 = .ok (.iconst 0, 1) := by decide +kernel
theorem dX6_feudsEnded_3 : decode cX6_feudsEnded 3 = .ok (.istore_n 2, 1) := by decide +kernel
theorem dX6_feudsEnded_4 : decode cX6_feudsEnded 4 = .ok (.iload_n 2, 1) := by decide +kernel
theorem dX6_feudsEnded_5 : decode cX6_feudsEnded 5 = .ok (.aload_n 0, 1) := by decide +kernel
theorem dX6_feudsEnded_6 : decode cX6_feudsEnded 6 = .ok (.getfield 58, 3) := by decide +kernel
theorem dX6_feudsEnded_9 : decode cX6_feudsEnded 9 = .ok (.if_icmp .ge 41, 3) := by decide +kernel
theorem dX6_feudsEnded_12 : decode cX6_feudsEnded 12 = .ok (.aload_n 0, 1) := by decide +kernel
theorem dX6_feudsEnded_13 : decode cX6_feudsEnded 13 = .ok (.getfield 43, 3) := by decide +kernel
theorem dX6_feudsEnded_16 : decode cX6_feudsEnded 16 = .ok (.iload_n 2, 1) := by decide +kernel
theorem dX6_feudsEnded_17 : decode cX6_feudsEnded 17 = .ok (.iaload, 1) := by decide +kernel
theorem dX6_feudsEnded_18 : decode cX6_feudsEnded 18 = .ok (.iconst (-1), 1) := by decide +kernel
theorem dX6_feudsEnded_19 : decode cX6_feudsEnded 19 = .ok (.if_icmp .eq 25, 3) := by decide +kernel
theorem dX6_feudsEnded_22 : decode cX6_feudsEnded 22 = .ok (.aload_n 0, 1) := by decide +kernel
theorem dX6_feudsEnded_23 : decode cX6_feudsEnded 23 = .ok (.getfield 25, 3) := by decide +kernel
theorem dX6_feudsEnded_26 : decode cX6_feudsEnded 26 = .ok (.iload_n 2, 1) := by decide +kernel
theorem dX6_feudsEnded_27 : decode cX6_feudsEnded 27 = .ok (.bipush 8, 2) := by decide +kernel
theorem dX6_feudsEnded_29 : decode cX6_feudsEnded 29 = .ok (.imul, 1) := by decide +kernel
theorem dX6_feudsEnded_30 : decode cX6_feudsEnded 30 = .ok (.aload_n 0, 1) := by decide +kernel
theorem dX6_feudsEnded_31 : decode cX6_feudsEnded 31 = .ok (.getfield 43, 3) := by decide +kernel
theorem dX6_feudsEnded_34 : decode cX6_feudsEnded 34 = .ok (.iload_n 2, 1) := by decide +kernel
theorem dX6_feudsEnded_35 : decode cX6_feudsEnded 35 = .ok (.iaload, 1) := by decide +kernel
theorem dX6_feudsEnded_36 : decode cX6_feudsEnded 36 = .ok (.iadd, 1) := by decide +kernel
theorem dX6_feudsEnded_37 : decode cX6_feudsEnded 37 = .ok (.baload, 1) := by decide +kernel
theorem dX6_feudsEnded_38 : decode cX6_feudsEnded 38 = .ok (.ifCond .eq 6, 3) := by decide +kernel
theorem dX6_feudsEnded_41 : decode cX6_feudsEnded 41 = .ok (.iinc 1 1, 3) := by decide +kernel
theorem dX6_feudsEnded_44 : decode cX6_feudsEnded 44 = .ok (.iinc 2 1, 3) := by decide +kernel
theorem dX6_feudsEnded_47 : decode cX6_feudsEnded 47 = .ok (.goto (-43), 3) := by decide +kernel
theorem dX6_feudsEnded_50 : decode cX6_feudsEnded 50 = .ok (.iload_n 1, 1) := by decide +kernel
theorem dX6_feudsEnded_51 : decode cX6_feudsEnded 51 = .ok (.ireturn, 1) := by decide +kernel
theorem dX6_giftsTogether_0 : decode cX6_giftsTogether 0 = .ok (.iconst 0, 1) := by decide +kernel
theorem dX6_giftsTogether_1 : decode cX6_giftsTogether 1 = .ok (.istore_n 1, 1) := by decide +kernel
theorem dX6_giftsTogether_2 : decode cX6_giftsTogether 2 = .ok (.iconst 0, 1) := by decide +kernel
theorem dX6_giftsTogether_3 : decode cX6_giftsTogether 3 = .ok (.istore_n 2, 1) := by decide +kernel
theorem dX6_giftsTogether_4 : decode cX6_giftsTogether 4 = .ok (.iload_n 2, 1) := by decide +kernel
theorem dX6_giftsTogether_5 : decode cX6_giftsTogether 5 = .ok (.aload_n 0, 1) := by decide +kernel
theorem dX6_giftsTogether_6 : decode cX6_giftsTogether 6 = .ok (.getfield 58, 3) := by decide +kernel
theorem dX6_giftsTogether_9 : decode cX6_giftsTogether 9 = .ok (.if_icmp .ge 38, 3) := by decide +kernel
theorem dX6_giftsTogether_12 : decode cX6_giftsTogether 12 = .ok (.aload_n 0, 1) := by decide +kernel
theorem dX6_giftsTogether_13 : decode cX6_giftsTogether 13 = .ok (.getfield 43, 3) := by decide +kernel
theorem dX6_giftsTogether_16 : decode cX6_giftsTogether 16 = .ok (.iload_n 2, 1) := by decide +kernel
theorem dX6_giftsTogether_17 : decode cX6_giftsTogether 17 = .ok (.iaload, 1) := by decide +kernel
theorem dX6_giftsTogether_18 : decode cX6_giftsTogether 18 = .ok (.iconst (-1), 1) := by decide +kernel
theorem dX6_giftsTogether_19 : decode cX6_giftsTogether 19 = .ok (.if_icmp .eq 22, 3) := by decide +kernel
theorem dX6_giftsTogether_22 : decode cX6_giftsTogether 22 = .ok (.iload_n 1, 1) := by decide +kernel
theorem dX6_giftsTogether_23 : decode cX6_giftsTogether 23 = .ok (.aload_n 0, 1) := by decide +kernel
theorem dX6_giftsTogether_24 : decode cX6_giftsTogether 24 = .ok (.getfield 22, 3) := by decide +kernel
theorem dX6_giftsTogether_27 : decode cX6_giftsTogether 27 = .ok (.iload_n 2, 1) := by decide +kernel
theorem dX6_giftsTogether_28 : decode cX6_giftsTogether 28 = .ok (.bipush 8, 2) := by decide +kernel
theorem dX6_giftsTogether_30 : decode cX6_giftsTogether 30 = .ok (.imul, 1) := by decide +kernel
theorem dX6_giftsTogether_31 : decode cX6_giftsTogether 31 = .ok (.aload_n 0, 1) := by decide +kernel
theorem dX6_giftsTogether_32 : decode cX6_giftsTogether 32 = .ok (.getfield 43, 3) := by decide +kernel
theorem dX6_giftsTogether_35 : decode cX6_giftsTogether 35 = .ok (.iload_n 2, 1) := by decide +kernel
theorem dX6_giftsTogether_36 : decode cX6_giftsTogether 36 = .ok (.iaload, 1) := by decide +kernel
theorem dX6_giftsTogether_37 : decode cX6_giftsTogether 37 = .ok (.iadd, 1) := by decide +kernel
theorem dX6_giftsTogether_38 : decode cX6_giftsTogether 38 = .ok (.iaload, 1) := by decide +kernel
theorem dX6_giftsTogether_39 : decode cX6_giftsTogether 39 = .ok (.iadd, 1) := by decide +kernel
theorem dX6_giftsTogether_40 : decode cX6_giftsTogether 40 = .ok (.istore_n 1, 1) := by decide +kernel
theorem dX6_giftsTogether_41 : decode cX6_giftsTogether 41 = .ok (.iinc 2 1, 3) := by decide +kernel
theorem dX6_giftsTogether_44 : decode cX6_giftsTogether 44 = .ok (.goto (-40), 3) := by decide +kernel
theorem dX6_giftsTogether_47 : decode cX6_giftsTogether 47 = .ok (.iload_n 1, 1) := by decide +kernel
theorem dX6_giftsTogether_48 : decode cX6_giftsTogether 48 = .ok (.ireturn, 1) := by decide +kernel
theorem dX6_partnerOf_0 : decode cX6_partnerOf 0 = .ok (.iconst 0, 1) := by decide +kernel
theorem dX6_partnerOf_1 : decode cX6_partnerOf 1 = .ok (.istore_n 2, 1) := by decide +kernel
theorem dX6_partnerOf_2 : decode cX6_partnerOf 2 = .ok (.iload_n 2, 1) := by decide +kernel
theorem dX6_partnerOf_3 : decode cX6_partnerOf 3 = .ok (.aload_n 0, 1) := by decide +kernel
theorem dX6_partnerOf_4 : decode cX6_partnerOf 4 = .ok (.getfield 58, 3) := by decide +kernel
theorem dX6_partnerOf_7 : decode cX6_partnerOf 7 = .ok (.if_icmp .ge 55, 3) := by decide +kernel
theorem dX6_partnerOf_10 : decode cX6_partnerOf 10 = .ok (.aload_n 0, 1) := by decide +kernel
theorem dX6_partnerOf_11 : decode cX6_partnerOf 11 = .ok (.getfield 43, 3) := by decide +kernel
theorem dX6_partnerOf_14 : decode cX6_partnerOf 14 = .ok (.iload_n 2, 1) := by decide +kernel
theorem dX6_partnerOf_15 : decode cX6_partnerOf 15 = .ok (.iaload, 1) := by decide +kernel
theorem dX6_partnerOf_16 : decode cX6_partnerOf 16 = .ok (.iconst (-1), 1) := by decide +kernel
theorem dX6_partnerOf_17 : decode cX6_partnerOf 17 = .ok (.if_icmp .eq 39, 3) := by decide +kernel
theorem dX6_partnerOf_20 : decode cX6_partnerOf 20 = .ok (.aload_n 0, 1) := by decide +kernel
theorem dX6_partnerOf_21 : decode cX6_partnerOf 21 = .ok (.getfield 15, 3) := by decide +kernel
theorem dX6_partnerOf_24 : decode cX6_partnerOf 24 = .ok (.aload_n 0, 1) := by decide +kernel
theorem dX6_partnerOf_25 : decode cX6_partnerOf 25 = .ok (.getfield 43, 3) := by decide +kernel
theorem dX6_partnerOf_28 : decode cX6_partnerOf 28 = .ok (.iload_n 2, 1) := by decide +kernel
theorem dX6_partnerOf_29 : decode cX6_partnerOf 29 = .ok (.iaload, 1) := by decide +kernel
theorem dX6_partnerOf_30 : decode cX6_partnerOf 30 = .ok (.iaload, 1) := by decide +kernel
theorem dX6_partnerOf_31 : decode cX6_partnerOf 31 = .ok (.istore_n 3, 1) := by decide +kernel
theorem dX6_partnerOf_32 : decode cX6_partnerOf 32 = .ok (.aload_n 0, 1) := by decide +kernel
theorem dX6_partnerOf_33 : decode cX6_partnerOf 33 = .ok (.getfield 9, 3) := by decide +kernel
theorem dX6_partnerOf_36 : decode cX6_partnerOf 36 = .ok (.iload_n 2, 1) := by decide +kernel
theorem dX6_partnerOf_37 : decode cX6_partnerOf 37 = .ok (.iaload, 1) := by decide +kernel
theorem dX6_partnerOf_38 : decode cX6_partnerOf 38 = .ok (.iload_n 1, 1) := by decide +kernel
theorem dX6_partnerOf_39 : decode cX6_partnerOf 39 = .ok (.if_icmp .ne 5, 3) := by decide +kernel
theorem dX6_partnerOf_42 : decode cX6_partnerOf 42 = .ok (.iload_n 3, 1) := by decide +kernel
theorem dX6_partnerOf_43 : decode cX6_partnerOf 43 = .ok (.ireturn, 1) := by decide +kernel
theorem dX6_partnerOf_44 : decode cX6_partnerOf 44 = .ok (.iload_n 3, 1) := by decide +kernel
theorem dX6_partnerOf_45 : decode cX6_partnerOf 45 = .ok (.iload_n 1, 1) := by decide +kernel
theorem dX6_partnerOf_46 : decode cX6_partnerOf 46 = .ok (.if_icmp .ne 10, 3) := by decide +kernel
theorem dX6_partnerOf_49 : decode cX6_partnerOf 49 = .ok (.aload_n 0, 1) := by decide +kernel
theorem dX6_partnerOf_50 : decode cX6_partnerOf 50 = .ok (.getfield 9, 3) := by decide +kernel
theorem dX6_partnerOf_53 : decode cX6_partnerOf 53 = .ok (.iload_n 2, 1) := by decide +kernel
theorem dX6_partnerOf_54 : decode cX6_partnerOf 54 = .ok (.iaload, 1) := by decide +kernel
theorem dX6_partnerOf_55 : decode cX6_partnerOf 55 = .ok (.ireturn, 1) := by decide +kernel
theorem dX6_partnerOf_56 : decode cX6_partnerOf 56 = .ok (.iinc 2 1, 3) := by decide +kernel
theorem dX6_partnerOf_59 : decode cX6_partnerOf 59 = .ok (.goto (-57), 3) := by decide +kernel
theorem dX6_partnerOf_62 : decode cX6_partnerOf 62 = .ok (.iconst (-1), 1) := by decide +kernel
theorem dX6_partnerOf_63 : decode cX6_partnerOf 63 = .ok (.ireturn, 1) := by decide +kernel
theorem dX6_settleStable_0 : decode cX6_settleStable 0 = .ok (.aload_n 0, 1) := by decide +kernel
theorem dX6_settleStable_1 : decode cX6_settleStable 1 = .ok (.getfield 43, 3) := by decide +kernel
theorem dX6_settleStable_4 : decode cX6_settleStable 4 = .ok (.iconst (-1), 1) := by decide +kernel
theorem dX6_settleStable_5 : decode cX6_settleStable 5 = .ok (.invokestatic 97, 3) := by decide +kernel
theorem dX6_settleStable_8 : decode cX6_settleStable 8 = .ok (.iconst 0, 1) := by decide +kernel
theorem dX6_settleStable_9 : decode cX6_settleStable 9 = .ok (.istore_n 1, 1) := by decide +kernel
theorem dX6_settleStable_10 : decode cX6_settleStable 10 = .ok (.iload_n 1, 1) := by decide +kernel
theorem dX6_settleStable_11 : decode cX6_settleStable 11 = .ok (.aload_n 0, 1) := by decide +kernel
theorem dX6_settleStable_12 : decode cX6_settleStable 12 = .ok (.getfield 37, 3) := by decide +kernel
theorem dX6_settleStable_15 : decode cX6_settleStable 15 = .ok (.arraylength, 1) := by decide +kernel
theorem dX6_settleStable_16 : decode cX6_settleStable 16 = .ok (.if_icmp .ge 16, 3) := by decide +kernel
theorem dX6_settleStable_19 : decode cX6_settleStable 19 = .ok (.aload_n 0, 1) := by decide +kernel
theorem dX6_settleStable_20 : decode cX6_settleStable 20 = .ok (.getfield 37, 3) := by decide +kernel
theorem dX6_settleStable_23 : decode cX6_settleStable 23 = .ok (.iload_n 1, 1) := by decide +kernel
theorem dX6_settleStable_24 : decode cX6_settleStable 24 = .ok (.iconst 0, 1) := by decide +kernel
theorem dX6_settleStable_25 : decode cX6_settleStable 25 = .ok (.bastore, 1) := by decide +kernel
theorem dX6_settleStable_26 : decode cX6_settleStable 26 = .ok (.iinc 1 1, 3) := by decide +kernel
theorem dX6_settleStable_29 : decode cX6_settleStable 29 = .ok (.goto (-19), 3) := by decide +kernel
theorem dX6_settleStable_32 : decode cX6_settleStable 32 = .ok (.iconst 1, 1) := by decide +kernel
theorem dX6_settleStable_33 : decode cX6_settleStable 33 = .ok (.istore_n 1, 1) := by decide +kernel
theorem dX6_settleStable_34 : decode cX6_settleStable 34 = .ok (.iconst 0, 1) := by decide +kernel
theorem dX6_settleStable_35 : decode cX6_settleStable 35 = .ok (.istore_n 2, 1) := by decide +kernel
theorem dX6_settleStable_36 : decode cX6_settleStable 36 = .ok (.iload_n 2, 1) := by decide +kernel
theorem dX6_settleStable_37 : decode cX6_settleStable 37 = .ok (.bipush 64, 2) := by decide +kernel
theorem dX6_settleStable_39 : decode cX6_settleStable 39 = .ok (.if_icmp .gt 18, 3) := by decide +kernel
theorem dX6_settleStable_42 : decode cX6_settleStable 42 = .ok (.iload_n 1, 1) := by decide +kernel
theorem dX6_settleStable_43 : decode cX6_settleStable 43 = .ok (.ifCond .eq 14, 3) := by decide +kernel
theorem dX6_settleStable_46 : decode cX6_settleStable 46 = .ok (.aload_n 0, 1) := by decide +kernel
theorem dX6_settleStable_47 : decode cX6_settleStable 47 = .ok (.invokevirtual 125, 3) := by decide +kernel
theorem dX6_settleStable_50 : decode cX6_settleStable 50 = .ok (.istore_n 1, 1) := by decide +kernel
theorem dX6_settleStable_51 : decode cX6_settleStable 51 = .ok (.iinc 2 1, 3) := by decide +kernel
theorem dX6_settleStable_54 : decode cX6_settleStable 54 = .ok (.goto (-18), 3) := by decide +kernel
theorem dX6_settleStable_57 : decode cX6_settleStable 57 = .ok (.return_, 1) := by decide +kernel
theorem dX6_askLikings_0 : decode cX6_askLikings 0 = .ok (.iconst 0, 1) := by decide +kernel
theorem dX6_askLikings_1 : decode cX6_askLikings 1 = .ok (.istore_n 1, 1) := by decide +kernel
theorem dX6_askLikings_2 : decode cX6_askLikings 2 = .ok (.iload_n 1, 1) := by decide +kernel
theorem dX6_askLikings_3 : decode cX6_askLikings 3 = .ok (.aload_n 0, 1) := by decide +kernel
theorem dX6_askLikings_4 : decode cX6_askLikings 4 = .ok (.getfield 58, 3) := by decide +kernel
theorem dX6_askLikings_7 : decode cX6_askLikings 7 = .ok (.if_icmp .ge 91, 3) := by decide +kernel
theorem dX6_askLikings_10 : decode cX6_askLikings 10 = .ok (.iconst 0, 1) := by decide +kernel
theorem dX6_askLikings_11 : decode cX6_askLikings 11 = .ok (.istore_n 2, 1) := by decide +kernel
theorem dX6_askLikings_12 : decode cX6_askLikings 12 = .ok (.iload_n 2, 1) := by decide +kernel
theorem dX6_askLikings_13 : decode cX6_askLikings 13 = .ok (.aload_n 0, 1) := by decide +kernel
theorem dX6_askLikings_14 : decode cX6_askLikings 14 = .ok (.getfield 62, 3) := by decide +kernel
theorem dX6_askLikings_17 : decode cX6_askLikings 17 = .ok (.if_icmp .ge 75, 3) := by decide +kernel
theorem dX6_askLikings_20 : decode cX6_askLikings 20 = .ok (.iload_n 1, 1) := by decide +kernel
theorem dX6_askLikings_21 : decode cX6_askLikings 21 = .ok (.bipush 8, 2) := by decide +kernel
theorem dX6_askLikings_23 : decode cX6_askLikings 23 = .ok (.imul, 1) := by decide +kernel
theorem dX6_askLikings_24 : decode cX6_askLikings 24 = .ok (.iload_n 2, 1) := by decide +kernel
theorem dX6_askLikings_25 : decode cX6_askLikings 25 = .ok (.iadd, 1) := by decide +kernel
theorem dX6_askLikings_26 : decode cX6_askLikings 26 = .ok (.istore_n 3, 1) := by decide +kernel
theorem dX6_askLikings_27 : decode cX6_askLikings 27 = .ok (.aload_n 0, 1) := by decide +kernel
theorem dX6_askLikings_28 : decode cX6_askLikings 28 = .ok (.getfield 18, 3) := by decide +kernel
theorem dX6_askLikings_31 : decode cX6_askLikings 31 = .ok (.iload_n 3, 1) := by decide +kernel
theorem dX6_askLikings_32 : decode cX6_askLikings 32 = .ok (.baload, 1) := by decide +kernel
theorem dX6_askLikings_33 : decode cX6_askLikings 33 = .ok (.ifCond .eq 53, 3) := by decide +kernel
theorem dX6_askLikings_36 : decode cX6_askLikings 36 = .ok (.aload_n 0, 1) := by decide +kernel
theorem dX6_askLikings_37 : decode cX6_askLikings 37 = .ok (.getfield 31, 3) := by decide +kernel
theorem dX6_askLikings_40 : decode cX6_askLikings 40 = .ok (.iload_n 3, 1) := by decide +kernel
theorem dX6_askLikings_41 : decode cX6_askLikings 41 = .ok (.aload_n 0, 1) := by decide +kernel
theorem dX6_askLikings_42 : decode cX6_askLikings 42 = .ok (.getfield 50, 3) := by decide +kernel
theorem dX6_askLikings_45 : decode cX6_askLikings 45 = .ok (.aload_n 0, 1) := by decide +kernel
theorem dX6_askLikings_46 : decode cX6_askLikings 46 = .ok (.getfield 9, 3) := by decide +kernel
theorem dX6_askLikings_49 : decode cX6_askLikings 49 = .ok (.iload_n 1, 1) := by decide +kernel
theorem dX6_askLikings_50 : decode cX6_askLikings 50 = .ok (.iaload, 1) := by decide +kernel
theorem dX6_askLikings_51 : decode cX6_askLikings 51 = .ok (.aload_n 0, 1) := by decide +kernel
theorem dX6_askLikings_52 : decode cX6_askLikings 52 = .ok (.getfield 15, 3) := by decide +kernel
theorem dX6_askLikings_55 : decode cX6_askLikings 55 = .ok (.iload_n 2, 1) := by decide +kernel
theorem dX6_askLikings_56 : decode cX6_askLikings 56 = .ok (.iaload, 1) := by decide +kernel
theorem dX6_askLikings_57 : decode cX6_askLikings 57 = .ok (.invokevirtual 129, 3) := by decide +kernel
theorem dX6_askLikings_60 : decode cX6_askLikings 60 = .ok (.iastore, 1) := by decide +kernel
theorem dX6_askLikings_61 : decode cX6_askLikings 61 = .ok (.aload_n 0, 1) := by decide +kernel
theorem dX6_askLikings_62 : decode cX6_askLikings 62 = .ok (.getfield 34, 3) := by decide +kernel
theorem dX6_askLikings_65 : decode cX6_askLikings 65 = .ok (.iload_n 3, 1) := by decide +kernel
theorem dX6_askLikings_66 : decode cX6_askLikings 66 = .ok (.aload_n 0, 1) := by decide +kernel
theorem dX6_askLikings_67 : decode cX6_askLikings 67 = .ok (.getfield 50, 3) := by decide +kernel
theorem dX6_askLikings_70 : decode cX6_askLikings 70 = .ok (.aload_n 0, 1) := by decide +kernel
theorem dX6_askLikings_71 : decode cX6_askLikings 71 = .ok (.getfield 15, 3) := by decide +kernel
theorem dX6_askLikings_74 : decode cX6_askLikings 74 = .ok (.iload_n 2, 1) := by decide +kernel
theorem dX6_askLikings_75 : decode cX6_askLikings 75 = .ok (.iaload, 1) := by decide +kernel
theorem dX6_askLikings_76 : decode cX6_askLikings 76 = .ok (.aload_n 0, 1) := by decide +kernel
theorem dX6_askLikings_77 : decode cX6_askLikings 77 = .ok (.getfield 9, 3) := by decide +kernel
theorem dX6_askLikings_80 : decode cX6_askLikings 80 = .ok (.iload_n 1, 1) := by decide +kernel
theorem dX6_askLikings_81 : decode cX6_askLikings 81 = .ok (.iaload, 1) := by decide +kernel
theorem dX6_askLikings_82 : decode cX6_askLikings 82 = .ok (.invokevirtual 129, 3) := by decide +kernel
theorem dX6_askLikings_85 : decode cX6_askLikings 85 = .ok (.iastore, 1) := by decide +kernel
theorem dX6_askLikings_86 : decode cX6_askLikings 86 = .ok (.iinc 2 1, 3) := by decide +kernel
theorem dX6_askLikings_89 : decode cX6_askLikings 89 = .ok (.goto (-77), 3) := by decide +kernel
theorem dX6_askLikings_92 : decode cX6_askLikings 92 = .ok (.iinc 1 1, 3) := by decide +kernel
theorem dX6_askLikings_95 : decode cX6_askLikings 95 = .ok (.goto (-93), 3) := by decide +kernel
theorem dX6_askLikings_98 : decode cX6_askLikings 98 = .ok (.return_, 1) := by decide +kernel
theorem dX6_askAround_0 : decode cX6_askAround 0 = .ok (.iconst 0, 1) := by decide +kernel
theorem dX6_askAround_1 : decode cX6_askAround 1 = .ok (.istore_n 1, 1) := by decide +kernel
theorem dX6_askAround_2 : decode cX6_askAround 2 = .ok (.iconst 0, 1) := by decide +kernel
theorem dX6_askAround_3 : decode cX6_askAround 3 = .ok (.istore_n 2, 1) := by decide +kernel
theorem dX6_askAround_4 : decode cX6_askAround 4 = .ok (.iload_n 2, 1) := by decide +kernel
theorem dX6_askAround_5 : decode cX6_askAround 5 = .ok (.aload_n 0, 1) := by decide +kernel
theorem dX6_askAround_6 : decode cX6_askAround 6 = .ok (.getfield 62, 3) := by decide +kernel
theorem dX6_askAround_9 : decode cX6_askAround 9 = .ok (.if_icmp .ge 52, 3) := by decide +kernel
theorem dX6_askAround_12 : decode cX6_askAround 12 = .ok (.aload_n 0, 1) := by decide +kernel
theorem dX6_askAround_13 : decode cX6_askAround 13 = .ok (.iload_n 2, 1) := by decide +kernel
theorem dX6_askAround_14 : decode cX6_askAround 14 = .ok (.invokevirtual 132, 3) := by decide +kernel
theorem dX6_askAround_17 : decode cX6_askAround 17 = .ok (.ifCond .eq 7, 3) := by decide +kernel
theorem dX6_askAround_20 : decode cX6_askAround 20 = .ok (.iconst (-1), 1) := by decide +kernel
theorem dX6_askAround_21 : decode cX6_askAround 21 = .ok (.goto 8, 3) := by decide +kernel
theorem dX6_askAround_24 : decode cX6_askAround 24 = .ok (.aload_n 0, 1) := by decide +kernel
theorem dX6_askAround_25 : decode cX6_askAround 25 = .ok (.iload_n 2, 1) := by decide +kernel
theorem dX6_askAround_26 : decode cX6_askAround 26 = .ok (.invokevirtual 135, 3) := by decide +kernel
theorem dX6_askAround_29 : decode cX6_askAround 29 = .ok (.istore_n 3, 1) := by decide +kernel
theorem dX6_askAround_30 : decode cX6_askAround 30 = .ok (.iload_n 3, 1) := by decide +kernel
theorem dX6_askAround_31 : decode cX6_askAround 31 = .ok (.iconst (-1), 1) := by decide +kernel
theorem dX6_askAround_32 : decode cX6_askAround 32 = .ok (.if_icmp .eq 23, 3) := by decide +kernel
theorem dX6_askAround_35 : decode cX6_askAround 35 = .ok (.iconst 1, 1) := by decide +kernel
theorem dX6_askAround_36 : decode cX6_askAround 36 = .ok (.istore_n 1, 1) := by decide +kernel
theorem dX6_askAround_37 : decode cX6_askAround 37 = .ok (.aload_n 0, 1) := by decide +kernel
theorem dX6_askAround_38 : decode cX6_askAround 38 = .ok (.getfield 37, 3) := by decide +kernel
theorem dX6_askAround_41 : decode cX6_askAround 41 = .ok (.iload_n 3, 1) := by decide +kernel
theorem dX6_askAround_42 : decode cX6_askAround 42 = .ok (.bipush 8, 2) := by decide +kernel
theorem dX6_askAround_44 : decode cX6_askAround 44 = .ok (.imul, 1) := by decide +kernel
theorem dX6_askAround_45 : decode cX6_askAround 45 = .ok (.iload_n 2, 1) := by decide +kernel
theorem dX6_askAround_46 : decode cX6_askAround 46 = .ok (.iadd, 1) := by decide +kernel
theorem dX6_askAround_47 : decode cX6_askAround 47 = .ok (.iconst 1, 1) := by decide +kernel
theorem dX6_askAround_48 : decode cX6_askAround 48 = .ok (.bastore, 1) := by decide +kernel
theorem dX6_askAround_49 : decode cX6_askAround 49 = .ok (.aload_n 0, 1) := by decide +kernel
theorem dX6_askAround_50 : decode cX6_askAround 50 = .ok (.iload_n 3, 1) := by decide +kernel
theorem dX6_askAround_51 : decode cX6_askAround 51 = .ok (.iload_n 2, 1) := by decide +kernel
theorem dX6_askAround_52 : decode cX6_askAround 52 = .ok (.invokevirtual 138, 3) := by decide +kernel
theorem dX6_askAround_55 : decode cX6_askAround 55 = .ok (.iinc 2 1, 3) := by decide +kernel
theorem dX6_askAround_58 : decode cX6_askAround 58 = .ok (.goto (-54), 3) := by decide +kernel
theorem dX6_askAround_61 : decode cX6_askAround 61 = .ok (.iload_n 1, 1) := by decide +kernel
theorem dX6_askAround_62 : decode cX6_askAround 62 = .ok (.ireturn, 1) := by decide +kernel
theorem dX6_isKept_0 : decode cX6_isKept 0 = .ok (.iconst 0, 1) := by decide +kernel
theorem dX6_isKept_1 : decode cX6_isKept 1 = .ok (.istore_n 2, 1) := by decide +kernel
theorem dX6_isKept_2 : decode cX6_isKept 2 = .ok (.iload_n 2, 1) := by decide +kernel
theorem dX6_isKept_3 : decode cX6_isKept 3 = .ok (.aload_n 0, 1) := by decide +kernel
theorem dX6_isKept_4 : decode cX6_isKept 4 = .ok (.getfield 58, 3) := by decide +kernel
theorem dX6_isKept_7 : decode cX6_isKept 7 = .ok (.if_icmp .ge 21, 3) := by decide +kernel
theorem dX6_isKept_10 : decode cX6_isKept 10 = .ok (.aload_n 0, 1) := by decide +kernel
theorem dX6_isKept_11 : decode cX6_isKept 11 = .ok (.getfield 43, 3) := by decide +kernel
theorem dX6_isKept_14 : decode cX6_isKept 14 = .ok (.iload_n 2, 1) := by decide +kernel
theorem dX6_isKept_15 : decode cX6_isKept 15 = .ok (.iaload, 1) := by decide +kernel
theorem dX6_isKept_16 : decode cX6_isKept 16 = .ok (.iload_n 1, 1) := by decide +kernel
theorem dX6_isKept_17 : decode cX6_isKept 17 = .ok (.if_icmp .ne 5, 3) := by decide +kernel
theorem dX6_isKept_20 : decode cX6_isKept 20 = .ok (.iconst 1, 1) := by decide +kernel
theorem dX6_isKept_21 : decode cX6_isKept 21 = .ok (.ireturn, 1) := by decide +kernel
theorem dX6_isKept_22 : decode cX6_isKept 22 = .ok (.iinc 2 1, 3) := by decide +kernel
theorem dX6_isKept_25 : decode cX6_isKept 25 = .ok (.goto (-23), 3) := by decide +kernel
theorem dX6_isKept_28 : decode cX6_isKept 28 = .ok (.iconst 0, 1) := by decide +kernel
theorem dX6_isKept_29 : decode cX6_isKept 29 = .ok (.ireturn, 1) := by decide +kernel
theorem dX6_nextToAsk_0 : decode cX6_nextToAsk 0 = .ok (.iconst (-1), 1) := by decide +kernel
theorem dX6_nextToAsk_1 : decode cX6_nextToAsk 1 = .ok (.istore_n 2, 1) := by decide +kernel
theorem dX6_nextToAsk_2 : decode cX6_nextToAsk 2 = .ok (.iconst 0, 1) := by decide +kernel
theorem dX6_nextToAsk_3 : decode cX6_nextToAsk 3 = .ok (.istore_n 3, 1) := by decide +kernel
theorem dX6_nextToAsk_4 : decode cX6_nextToAsk 4 = .ok (.iload_n 3, 1) := by decide +kernel
theorem dX6_nextToAsk_5 : decode cX6_nextToAsk 5 = .ok (.aload_n 0, 1) := by decide +kernel
theorem dX6_nextToAsk_6 : decode cX6_nextToAsk 6 = .ok (.getfield 58, 3) := by decide +kernel
theorem dX6_nextToAsk_9 : decode cX6_nextToAsk 9 = .ok (.if_icmp .ge 65, 3) := by decide +kernel
theorem dX6_nextToAsk_12 : decode cX6_nextToAsk 12 = .ok (.iload_n 3, 1) := by decide +kernel
theorem dX6_nextToAsk_13 : decode cX6_nextToAsk 13 = .ok (.bipush 8, 2) := by decide +kernel
theorem dX6_nextToAsk_15 : decode cX6_nextToAsk 15 = .ok (.imul, 1) := by decide +kernel
theorem dX6_nextToAsk_16 : decode cX6_nextToAsk 16 = .ok (.iload_n 1, 1) := by decide +kernel
theorem dX6_nextToAsk_17 : decode cX6_nextToAsk 17 = .ok (.iadd, 1) := by decide +kernel
theorem dX6_nextToAsk_18 : decode cX6_nextToAsk 18 = .ok (.istore 4, 2) := by decide +kernel
theorem dX6_nextToAsk_20 : decode cX6_nextToAsk 20 = .ok (.aload_n 0, 1) := by decide +kernel
theorem dX6_nextToAsk_21 : decode cX6_nextToAsk 21 = .ok (.getfield 18, 3) := by decide +kernel
theorem dX6_nextToAsk_24 : decode cX6_nextToAsk 24 = .ok (.iload 4, 2) := by decide +kernel
theorem dX6_nextToAsk_26 : decode cX6_nextToAsk 26 = .ok (.baload, 1) := by decide +kernel
theorem dX6_nextToAsk_27 : decode cX6_nextToAsk 27 = .ok (.ifCond .eq 41, 3) := by decide +kernel
theorem dX6_nextToAsk_30 : decode cX6_nextToAsk 30 = .ok (.aload_n 0, 1) := by decide +kernel
theorem dX6_nextToAsk_31 : decode cX6_nextToAsk 31 = .ok (.getfield 37, 3) := by decide +kernel
theorem dX6_nextToAsk_34 : decode cX6_nextToAsk 34 = .ok (.iload 4, 2) := by decide +kernel
theorem dX6_nextToAsk_36 : decode cX6_nextToAsk 36 = .ok (.baload, 1) := by decide +kernel
theorem dX6_nextToAsk_37 : decode cX6_nextToAsk 37 = .ok (.ifCond .ne 31, 3) := by decide +kernel
theorem dX6_nextToAsk_40 : decode cX6_nextToAsk 40 = .ok (.iload_n 2, 1) := by decide +kernel
theorem dX6_nextToAsk_41 : decode cX6_nextToAsk 41 = .ok (.iconst (-1), 1) := by decide +kernel
theorem dX6_nextToAsk_42 : decode cX6_nextToAsk 42 = .ok (.if_icmp .eq 24, 3) := by decide +kernel
theorem dX6_nextToAsk_45 : decode cX6_nextToAsk 45 = .ok (.aload_n 0, 1) := by decide +kernel
theorem dX6_nextToAsk_46 : decode cX6_nextToAsk 46 = .ok (.getfield 34, 3) := by decide +kernel
theorem dX6_nextToAsk_49 : decode cX6_nextToAsk 49 = .ok (.iload 4, 2) := by decide +kernel
theorem dX6_nextToAsk_51 : decode cX6_nextToAsk 51 = .ok (.iaload, 1) := by decide +kernel
theorem dX6_nextToAsk_52 : decode cX6_nextToAsk 52 = .ok (.aload_n 0, 1) := by decide +kernel
theorem dX6_nextToAsk_53 : decode cX6_nextToAsk 53 = .ok (.getfield 34, 3) := by decide +kernel
theorem dX6_nextToAsk_56 : decode cX6_nextToAsk 56 = .ok (.iload_n 2, 1) := by decide +kernel
theorem dX6_nextToAsk_57 : decode cX6_nextToAsk 57 = .ok (.bipush 8, 2) := by decide +kernel
theorem dX6_nextToAsk_59 : decode cX6_nextToAsk 59 = .ok (.imul, 1) := by decide +kernel
theorem dX6_nextToAsk_60 : decode cX6_nextToAsk 60 = .ok (.iload_n 1, 1) := by decide +kernel
theorem dX6_nextToAsk_61 : decode cX6_nextToAsk 61 = .ok (.iadd, 1) := by decide +kernel
theorem dX6_nextToAsk_62 : decode cX6_nextToAsk 62 = .ok (.iaload, 1) := by decide +kernel
theorem dX6_nextToAsk_63 : decode cX6_nextToAsk 63 = .ok (.if_icmp .le 5, 3) := by decide +kernel
theorem dX6_nextToAsk_66 : decode cX6_nextToAsk 66 = .ok (.iload_n 3, 1) := by decide +kernel
theorem dX6_nextToAsk_67 : decode cX6_nextToAsk 67 = .ok (.istore_n 2, 1) := by decide +kernel
theorem dX6_nextToAsk_68 : decode cX6_nextToAsk 68 = .ok (.iinc 3 1, 3) := by decide +kernel
theorem dX6_nextToAsk_71 : decode cX6_nextToAsk 71 = .ok (.goto (-67), 3) := by decide +kernel
theorem dX6_nextToAsk_74 : decode cX6_nextToAsk 74 = .ok (.iload_n 2, 1) := by decide +kernel
theorem dX6_nextToAsk_75 : decode cX6_nextToAsk 75 = .ok (.ireturn, 1) := by decide +kernel
theorem dX6_hearOut_0 : decode cX6_hearOut 0 = .ok (.aload_n 0, 1) := by decide +kernel
theorem dX6_hearOut_1 : decode cX6_hearOut 1 = .ok (.getfield 43, 3) := by decide +kernel
theorem dX6_hearOut_4 : decode cX6_hearOut 4 = .ok (.iload_n 1, 1) := by decide +kernel
theorem dX6_hearOut_5 : decode cX6_hearOut 5 = .ok (.iaload, 1) := by decide +kernel
theorem dX6_hearOut_6 : decode cX6_hearOut 6 = .ok (.istore_n 3, 1) := by decide +kernel
theorem dX6_hearOut_7 : decode cX6_hearOut 7 = .ok (.iload_n 3, 1) := by decide +kernel
theorem dX6_hearOut_8 : decode cX6_hearOut 8 = .ok (.iconst (-1), 1) := by decide +kernel
theorem dX6_hearOut_9 : decode cX6_hearOut 9 = .ok (.if_icmp .ne 11, 3) := by decide +kernel
theorem dX6_hearOut_12 : decode cX6_hearOut 12 = .ok (.aload_n 0, 1) := by decide +kernel
theorem dX6_hearOut_13 : decode cX6_hearOut 13 = .ok (.getfield 43, 3) := by decide +kernel
theorem dX6_hearOut_16 : decode cX6_hearOut 16 = .ok (.iload_n 1, 1) := by decide +kernel
theorem dX6_hearOut_17 : decode cX6_hearOut 17 = .ok (.iload_n 2, 1) := by decide +kernel
theorem dX6_hearOut_18 : decode cX6_hearOut 18 = .ok (.iastore, 1) := by decide +kernel
theorem dX6_hearOut_19 : decode cX6_hearOut 19 = .ok (.return_, 1) := by decide +kernel
theorem dX6_hearOut_20 : decode cX6_hearOut 20 = .ok (.aload_n 0, 1) := by decide +kernel
theorem dX6_hearOut_21 : decode cX6_hearOut 21 = .ok (.getfield 31, 3) := by decide +kernel
theorem dX6_hearOut_24 : decode cX6_hearOut 24 = .ok (.iload_n 1, 1) := by decide +kernel
theorem dX6_hearOut_25 : decode cX6_hearOut 25 = .ok (.bipush 8, 2) := by decide +kernel
theorem dX6_hearOut_27 : decode cX6_hearOut 27 = .ok (.imul, 1) := by decide +kernel
theorem dX6_hearOut_28 : decode cX6_hearOut 28 = .ok (.iload_n 2, 1) := by decide +kernel
theorem dX6_hearOut_29 : decode cX6_hearOut 29 = .ok (.iadd, 1) := by decide +kernel
theorem dX6_hearOut_30 : decode cX6_hearOut 30 = .ok (.iaload, 1) := by decide +kernel
theorem dX6_hearOut_31 : decode cX6_hearOut 31 = .ok (.aload_n 0, 1) := by decide +kernel
theorem dX6_hearOut_32 : decode cX6_hearOut 32 = .ok (.getfield 31, 3) := by decide +kernel
theorem dX6_hearOut_35 : decode cX6_hearOut 35 = .ok (.iload_n 1, 1) := by decide +kernel
theorem dX6_hearOut_36 : decode cX6_hearOut 36 = .ok (.bipush 8, 2) := by decide +kernel
theorem dX6_hearOut_38 : decode cX6_hearOut 38 = .ok (.imul, 1) := by decide +kernel
theorem dX6_hearOut_39 : decode cX6_hearOut 39 = .ok (.iload_n 3, 1) := by decide +kernel
theorem dX6_hearOut_40 : decode cX6_hearOut 40 = .ok (.iadd, 1) := by decide +kernel
theorem dX6_hearOut_41 : decode cX6_hearOut 41 = .ok (.iaload, 1) := by decide +kernel
theorem dX6_hearOut_42 : decode cX6_hearOut 42 = .ok (.isub, 1) := by decide +kernel
theorem dX6_hearOut_43 : decode cX6_hearOut 43 = .ok (.istore 4, 2) := by decide +kernel
theorem dX6_hearOut_45 : decode cX6_hearOut 45 = .ok (.iload 4, 2) := by decide +kernel
theorem dX6_hearOut_47 : decode cX6_hearOut 47 = .ok (.ifCond .gt 13, 3) := by decide +kernel
theorem dX6_hearOut_50 : decode cX6_hearOut 50 = .ok (.iload 4, 2) := by decide +kernel
theorem dX6_hearOut_52 : decode cX6_hearOut 52 = .ok (.ifCond .ne 15, 3) := by decide +kernel
theorem dX6_hearOut_55 : decode cX6_hearOut 55 = .ok (.iload_n 2, 1) := by decide +kernel
theorem dX6_hearOut_56 : decode cX6_hearOut 56 = .ok (.iload_n 3, 1) := by decide +kernel
theorem dX6_hearOut_57 : decode cX6_hearOut 57 = .ok (.if_icmp .ge 10, 3) := by decide +kernel
theorem dX6_hearOut_60 : decode cX6_hearOut 60 = .ok (.aload_n 0, 1) := by decide +kernel
theorem dX6_hearOut_61 : decode cX6_hearOut 61 = .ok (.getfield 43, 3) := by decide +kernel
theorem dX6_hearOut_64 : decode cX6_hearOut 64 = .ok (.iload_n 1, 1) := by decide +kernel
theorem dX6_hearOut_65 : decode cX6_hearOut 65 = .ok (.iload_n 2, 1) := by decide +kernel
theorem dX6_hearOut_66 : decode cX6_hearOut 66 = .ok (.iastore, 1) := by decide +kernel
theorem dX6_hearOut_67 : decode cX6_hearOut 67 = .ok (.return_, 1) := by decide +kernel
theorem dX7_init_0 : decode cX7_init 0 = .ok (.aload_n 0, 1) := by decide +kernel
theorem dX7_init_1 : decode cX7_init 1 = .ok (.invokespecial 3, 3) := by decide +kernel
theorem dX7_init_4 : decode cX7_init 4 = .ok (.aload_n 0, 1) := by decide +kernel
theorem dX7_init_5 : decode cX7_init 5 = .ok (.bipush 20, 2) := by decide +kernel
theorem dX7_init_7 : decode cX7_init 7 = .ok (.newarray .int, 2) := by decide +kernel
theorem dX7_init_9 : decode cX7_init 9 = .ok (.putfield 9, 3) := by decide +kernel
theorem dX7_init_12 : decode cX7_init 12 = .ok (.aload_n 0, 1) := by decide +kernel
theorem dX7_init_13 : decode cX7_init 13 = .ok (.bipush 20, 2) := by decide +kernel
theorem dX7_init_15 : decode cX7_init 15 = .ok (.newarray .int, 2) := by decide +kernel
theorem dX7_init_17 : decode cX7_init 17 = .ok (.putfield 15, 3) := by decide +kernel
theorem dX7_init_20 : decode cX7_init 20 = .ok (.aload_n 0, 1) := by decide +kernel
theorem dX7_init_21 : decode cX7_init 21 = .ok (.bipush 20, 2) := by decide +kernel
theorem dX7_init_23 : decode cX7_init 23 = .ok (.newarray .int, 2) := by decide +kernel
theorem dX7_init_25 : decode cX7_init 25 = .ok (.putfield 18, 3) := by decide +kernel
theorem dX7_init_28 : decode cX7_init 28 = .ok (.aload_n 0, 1) := by decide +kernel
theorem dX7_init_29 : decode cX7_init 29 = .ok (.bipush 20, 2) := by decide +kernel
theorem dX7_init_31 : decode cX7_init 31 = .ok (.newarray .int, 2) := by decide +kernel
theorem dX7_init_33 : decode cX7_init 33 = .ok (.putfield 21, 3) := by decide +kernel
theorem dX7_init_36 : decode cX7_init 36 = .ok (.aload_n 0, 1) := by decide +kernel
theorem dX7_init_37 : decode cX7_init 37 = .ok (.bipush 20, 2) := by decide +kernel
theorem dX7_init_39 : decode cX7_init 39 = .ok (.newarray .int, 2) := by decide +kernel
theorem dX7_init_41 : decode cX7_init 41 = .ok (.putfield 24, 3) := by decide +kernel
theorem dX7_init_44 : decode cX7_init 44 = .ok (.aload_n 0, 1) := by decide +kernel
theorem dX7_init_45 : decode cX7_init 45 = .ok (.bipush 20, 2) := by decide +kernel
theorem dX7_init_47 : decode cX7_init 47 = .ok (.newarray .int, 2) := by decide +kernel
theorem dX7_init_49 : decode cX7_init 49 = .ok (.putfield 27, 3) := by decide +kernel
theorem dX7_init_52 : decode cX7_init 52 = .ok (.aload_n 0, 1) := by decide +kernel
theorem dX7_init_53 : decode cX7_init 53 = .ok (.bipush 20, 2) := by decide +kernel
theorem dX7_init_55 : decode cX7_init 55 = .ok (.newarray .boolean, 2) := by decide +kernel
theorem dX7_init_57 : decode cX7_init 57 = .ok (.putfield 30, 3) := by decide +kernel
theorem dX7_init_60 : decode cX7_init 60 = .ok (.aload_n 0, 1) := by decide +kernel
theorem dX7_init_61 : decode cX7_init 61 = .ok (.bipush 20, 2) := by decide +kernel
theorem dX7_init_63 : decode cX7_init 63 = .ok (.newarray .boolean, 2) := by decide +kernel
theorem dX7_init_65 : decode cX7_init 65 = .ok (.putfield 34, 3) := by decide +kernel
theorem dX7_init_68 : decode cX7_init 68 = .ok (.aload_n 0, 1) := by decide +kernel
theorem dX7_init_69 : decode cX7_init 69 = .ok (.bipush 20, 2) := by decide +kernel
theorem dX7_init_71 : decode cX7_init 71 = .ok (.newarray .boolean, 2) := by decide +kernel
theorem dX7_init_73 : decode cX7_init 73 = .ok (.putfield 37, 3) := by decide +kernel
theorem dX7_init_76 : decode cX7_init 76 = .ok (.return_, 1) := by decide +kernel
theorem dX7_has_0 : decode cX7_has 0 = .ok (.iload_n 1, 1) := by decide +kernel
theorem dX7_has_1 : decode cX7_has 1 = .ok (.ifCond .lt 15, 3) := by decide +kernel
theorem dX7_has_4 : decode cX7_has 4 = .ok (.iload_n 1, 1) := by decide +kernel
theorem dX7_has_5 : decode cX7_has 5 = .ok (.aload_n 0, 1) := by decide +kernel
theorem dX7_has_6 : decode cX7_has 6 = .ok (.getfield 40, 3) := by decide +kernel
theorem dX7_has_9 : decode cX7_has 9 = .ok (.if_icmp .ge 7, 3) := by decide +kernel
theorem dX7_has_12 : decode cX7_has 12 = .ok (.iconst 1, 1) := by decide +kernel
theorem dX7_has_13 : decode cX7_has 13 = .ok (.goto 4, 3) := by decide +kernel
theorem dX7_has_16 : decode cX7_has 16 = .ok (.iconst 0, 1) := by decide +kernel
theorem dX7_has_17 : decode cX7_has 17 = .ok (.ireturn, 1) := by decide +kernel
theorem dX7_isOf_0 : decode cX7_isOf 0 = .ok (.aload_n 0, 1) := by decide +kernel
theorem dX7_isOf_1 : decode cX7_isOf 1 = .ok (.iload_n 1, 1) := by decide +kernel
theorem dX7_isOf_2 : decode cX7_isOf 2 = .ok (.invokevirtual 44, 3) := by decide +kernel
theorem dX7_isOf_5 : decode cX7_isOf 5 = .ok (.ifCond .eq 17, 3) := by decide +kernel
theorem dX7_isOf_8 : decode cX7_isOf 8 = .ok (.aload_n 0, 1) := by decide +kernel
theorem dX7_isOf_9 : decode cX7_isOf 9 = .ok (.getfield 15, 3) := by decide +kernel
theorem dX7_isOf_12 : decode cX7_isOf 12 = .ok (.iload_n 1, 1) := by decide +kernel
theorem dX7_isOf_13 : decode cX7_isOf 13 = .ok (.iaload, 1) := by decide +kernel
theorem dX7_isOf_14 : decode cX7_isOf 14 = .ok (.iload_n 2, 1) := by decide +kernel
theorem dX7_isOf_15 : decode cX7_isOf 15 = .ok (.if_icmp .ne 7, 3) := by decide +kernel
theorem dX7_isOf_18 : decode cX7_isOf 18 = .ok (.iconst 1, 1) := by decide +kernel
theorem dX7_isOf_19 : decode cX7_isOf 19 = .ok (.goto 4, 3) := by decide +kernel
theorem dX7_isOf_22 : decode cX7_isOf 22 = .ok (.iconst 0, 1) := by decide +kernel
theorem dX7_isOf_23 : decode cX7_isOf 23 = .ok (.ireturn, 1) := by decide +kernel
theorem dX7_isFree_0 : decode cX7_isFree 0 = .ok (.aload_n 0, 1) := by decide +kernel
theorem dX7_isFree_1 : decode cX7_isFree 1 = .ok (.getfield 30, 3) := by decide +kernel
theorem dX7_isFree_4 : decode cX7_isFree 4 = .ok (.iload_n 1, 1) := by decide +kernel
theorem dX7_isFree_5 : decode cX7_isFree 5 = .ok (.baload, 1) := by decide +kernel
theorem dX7_isFree_6 : decode cX7_isFree 6 = .ok (.ifCond .eq 27, 3) := by decide +kernel
theorem dX7_isFree_9 : decode cX7_isFree 9 = .ok (.aload_n 0, 1) := by decide +kernel
theorem dX7_isFree_10 : decode cX7_isFree 10 = .ok (.getfield 24, 3) := by decide +kernel
theorem dX7_isFree_13 : decode cX7_isFree 13 = .ok (.iload_n 1, 1) := by decide +kernel
theorem dX7_isFree_14 : decode cX7_isFree 14 = .ok (.iaload, 1) := by decide +kernel
theorem dX7_isFree_15 : decode cX7_isFree 15 = .ok (.iconst (-1), 1) := by decide +kernel
theorem dX7_isFree_16 : decode cX7_isFree 16 = .ok (.if_icmp .ne 17, 3) := by decide +kernel
theorem dX7_isFree_19 : decode cX7_isFree 19 = .ok (.aload_n 0, 1) := by decide +kernel
theorem dX7_isFree_20 : decode cX7_isFree 20 = .ok (.getfield 27, 3) := by decide +kernel
theorem dX7_isFree_23 : decode cX7_isFree 23 = .ok (.iload_n 1, 1) := by decide +kernel
theorem dX7_isFree_24 : decode cX7_isFree 24 = .ok (.iaload, 1) := by decide +kernel
theorem dX7_isFree_25 : decode cX7_isFree 25 = .ok (.iconst (-1), 1) := by decide +kernel
theorem dX7_isFree_26 : decode cX7_isFree 26 = .ok (.if_icmp .ne 7, 3) := by decide +kernel
theorem dX7_isFree_29 : decode cX7_isFree 29 = .ok (.iconst 1, 1) := by decide +kernel
theorem dX7_isFree_30 : decode cX7_isFree 30 = .ok (.goto 4, 3) := by decide +kernel
theorem dX7_isFree_33 : decode cX7_isFree 33 = .ok (.iconst 0, 1) := by decide +kernel
theorem dX7_isFree_34 : decode cX7_isFree 34 = .ok (.ireturn, 1) := by decide +kernel
theorem dX7_add_0 : decode cX7_add 0 = .ok (.aload_n 0, 1) := by decide +kernel
theorem dX7_add_1 : decode cX7_add 1 = .ok (.getfield 40, 3) := by decide +kernel
theorem dX7_add_4 : decode cX7_add 4 = .ok (.bipush 20, 2) := by decide +kernel
theorem dX7_add_6 : decode cX7_add 6 = .ok (.if_icmp .lt 5, 3) := by decide +kernel
theorem dX7_add_9 : decode cX7_add 9 = .ok (.iconst (-1), 1) := by decide +kernel
theorem dX7_add_10 : decode cX7_add 10 = .ok (.ireturn, 1) := by decide +kernel
theorem dX7_add_11 : decode cX7_add 11 = .ok (.aload_n 0, 1) := by decide +kernel
theorem dX7_add_12 : decode cX7_add 12 = .ok (.getfield 9, 3) := by decide +kernel
theorem dX7_add_15 : decode cX7_add 15 = .ok (.aload_n 0, 1) := by decide +kernel
theorem dX7_add_16 : decode cX7_add 16 = .ok (.getfield 40, 3) := by decide +kernel
theorem dX7_add_19 : decode cX7_add 19 = .ok (.iload_n 1, 1) := by decide +kernel
theorem dX7_add_20 : decode cX7_add 20 = .ok (.iastore, 1) := by decide +kernel
theorem dX7_add_21 : decode cX7_add 21 = .ok (.aload_n 0, 1) := by decide +kernel
theorem dX7_add_22 : decode cX7_add 22 = .ok (.getfield 15, 3) := by decide +kernel
theorem dX7_add_25 : decode cX7_add 25 = .ok (.aload_n 0, 1) := by decide +kernel
theorem dX7_add_26 : decode cX7_add 26 = .ok (.getfield 40, 3) := by decide +kernel
theorem dX7_add_29 : decode cX7_add 29 = .ok (.iload_n 2, 1) := by decide +kernel
theorem dX7_add_30 : decode cX7_add 30 = .ok (.iastore, 1) := by decide +kernel
theorem dX7_add_31 : decode cX7_add 31 = .ok (.aload_n 0, 1) := by decide +kernel
theorem dX7_add_32 : decode cX7_add 32 = .ok (.getfield 18, 3) := by decide +kernel
theorem dX7_add_35 : decode cX7_add 35 = .ok (.aload_n 0, 1) := by decide +kernel
theorem dX7_add_36 : decode cX7_add 36 = .ok (.getfield 40, 3) := by decide +kernel
theorem dX7_add_39 : decode cX7_add 39 = .ok (.iload_n 3, 1) := by decide +kernel
theorem dX7_add_40 : decode cX7_add 40 = .ok (.iastore, 1) := by decide +kernel
theorem dX7_add_41 : decode cX7_add 41 = .ok (.aload_n 0, 1) := by decide +kernel
theorem dX7_add_42 : decode cX7_add 42 = .ok (.getfield 21, 3) := by decide +kernel
theorem dX7_add_45 : decode cX7_add 45 = .ok (.aload_n 0, 1) := by decide +kernel
theorem dX7_add_46 : decode cX7_add 46 = .ok (.getfield 40, 3) := by decide +kernel
theorem dX7_add_49 : decode cX7_add 49 = .ok (.iload 4, 2) := by decide +kernel
theorem dX7_add_51 : decode cX7_add 51 = .ok (.iastore, 1) := by decide +kernel
theorem dX7_add_52 : decode cX7_add 52 = .ok (.aload_n 0, 1) := by decide +kernel
theorem dX7_add_53 : decode cX7_add 53 = .ok (.getfield 24, 3) := by decide +kernel
theorem dX7_add_56 : decode cX7_add 56 = .ok (.aload_n 0, 1) := by decide +kernel
theorem dX7_add_57 : decode cX7_add 57 = .ok (.getfield 40, 3) := by decide +kernel
theorem dX7_add_60 : decode cX7_add 60 = .ok (.iconst (-1), 1) := by decide +kernel
theorem dX7_add_61 : decode cX7_add 61 = .ok (.iastore, 1) := by decide +kernel
theorem dX7_add_62 : decode cX7_add 62 = .ok (.aload_n 0, 1) := by decide +kernel
theorem dX7_add_63 : decode cX7_add 63 = .ok (.getfield 27, 3) := by decide +kernel
theorem dX7_add_66 : decode cX7_add 66 = .ok (.aload_n 0, 1) := by decide +kernel
theorem dX7_add_67 : decode cX7_add 67 = .ok (.getfield 40, 3) := by decide +kernel
theorem dX7_add_70 : decode cX7_add 70 = .ok (.iconst (-1), 1) := by decide +kernel
theorem dX7_add_71 : decode cX7_add 71 = .ok (.iastore, 1) := by decide +kernel
theorem dX7_add_72 : decode cX7_add 72 = .ok (.aload_n 0, 1) := by decide +kernel
theorem dX7_add_73 : decode cX7_add 73 = .ok (.getfield 30, 3) := by decide +kernel
theorem dX7_add_76 : decode cX7_add 76 = .ok (.aload_n 0, 1) := by decide +kernel
theorem dX7_add_77 : decode cX7_add 77 = .ok (.getfield 40, 3) := by decide +kernel
theorem dX7_add_80 : decode cX7_add 80 = .ok (.iconst 1, 1) := by decide +kernel
theorem dX7_add_81 : decode cX7_add 81 = .ok (.bastore, 1) := by decide +kernel
theorem dX7_add_82 : decode cX7_add 82 = .ok (.aload_n 0, 1) := by decide +kernel
theorem dX7_add_83 : decode cX7_add 83 = .ok (.getfield 34, 3) := by decide +kernel
theorem dX7_add_86 : decode cX7_add 86 = .ok (.aload_n 0, 1) := by decide +kernel
theorem dX7_add_87 : decode cX7_add 87 = .ok (.getfield 40, 3) := by decide +kernel
theorem dX7_add_90 : decode cX7_add 90 = .ok (.iconst 0, 1) := by decide +kernel
theorem dX7_add_91 : decode cX7_add 91 = .ok (.bastore, 1) := by decide +kernel
theorem dX7_add_92 : decode cX7_add 92 = .ok (.aload_n 0, 1) := by decide +kernel
theorem dX7_add_93 : decode cX7_add 93 = .ok (.getfield 37, 3) := by decide +kernel
theorem dX7_add_96 : decode cX7_add 96 = .ok (.aload_n 0, 1) := by decide +kernel
theorem dX7_add_97 : decode cX7_add 97 = .ok (.getfield 40, 3) := by decide +kernel
theorem dX7_add_100 : decode cX7_add 100 = .ok (.iconst 0, 1) := by decide +kernel
theorem dX7_add_101 : decode cX7_add 101 = .ok (.bastore, 1) := by decide +kernel
theorem dX7_add_102 : decode cX7_add 102 = .ok (.aload_n 0, 1) := by decide +kernel
theorem dX7_add_103 : decode cX7_add 103 = .ok (.dup, 1) := by decide +kernel
theorem dX7_add_104 : decode cX7_add 104 = .ok (.getfield 40, 3) := by decide +kernel
theorem dX7_add_107 : decode cX7_add 107 = .ok (.iconst 1, 1) := by decide +kernel
theorem dX7_add_108 : decode cX7_add 108 = .ok (.iadd, 1) := by decide +kernel
theorem dX7_add_109 : decode cX7_add 109 = .ok (.putfield 40, 3) := by decide +kernel
theorem dX7_add_112 : decode cX7_add 112 = .ok (.aload_n 0, 1) := by decide +kernel
theorem dX7_add_113 : decode cX7_add 113 = .ok (.getfield 40, 3) := by decide +kernel
theorem dX7_add_116 : decode cX7_add 116 = .ok (.iconst 1, 1) := by decide +kernel
theorem dX7_add_117 : decode cX7_add 117 = .ok (.isub, 1) := by decide +kernel
theorem dX7_add_118 : decode cX7_add 118 = .ok (.ireturn, 1) := by decide +kernel
theorem dX7_marry_0 : decode cX7_marry 0 = .ok (.aload_n 0, 1) := by decide +kernel
theorem dX7_marry_1 : decode cX7_marry 1 = .ok (.getfield 24, 3) := by decide +kernel
theorem dX7_marry_4 : decode cX7_marry 4 = .ok (.iload_n 1, 1) := by decide +kernel
theorem dX7_marry_5 : decode cX7_marry 5 = .ok (.iload_n 2, 1) := by decide +kernel
theorem dX7_marry_6 : decode cX7_marry 6 = .ok (.iastore, 1) := by decide +kernel
theorem dX7_marry_7 : decode cX7_marry 7 = .ok (.aload_n 0, 1) := by decide +kernel
theorem dX7_marry_8 : decode cX7_marry 8 = .ok (.getfield 24, 3) := by decide +kernel
theorem dX7_marry_11 : decode cX7_marry 11 = .ok (.iload_n 2, 1) := by decide +kernel
theorem dX7_marry_12 : decode cX7_marry 12 = .ok (.iload_n 1, 1) := by decide +kernel
theorem dX7_marry_13 : decode cX7_marry 13 = .ok (.iastore, 1) := by decide +kernel
theorem dX7_marry_14 : decode cX7_marry 14 = .ok (.aload_n 0, 1) := by decide +kernel
theorem dX7_marry_15 : decode cX7_marry 15 = .ok (.getfield 34, 3) := by decide +kernel
theorem dX7_marry_18 : decode cX7_marry 18 = .ok (.iload_n 1, 1) := by decide +kernel
theorem dX7_marry_19 : decode cX7_marry 19 = .ok (.iconst 0, 1) := by decide +kernel
theorem dX7_marry_20 : decode cX7_marry 20 = .ok (.bastore, 1) := by decide +kernel
theorem dX7_marry_21 : decode cX7_marry 21 = .ok (.aload_n 0, 1) := by decide +kernel
theorem dX7_marry_22 : decode cX7_marry 22 = .ok (.getfield 37, 3) := by decide +kernel
theorem dX7_marry_25 : decode cX7_marry 25 = .ok (.iload_n 1, 1) := by decide +kernel
theorem dX7_marry_26 : decode cX7_marry 26 = .ok (.iconst 1, 1) := by decide +kernel
theorem dX7_marry_27 : decode cX7_marry 27 = .ok (.bastore, 1) := by decide +kernel
theorem dX7_marry_28 : decode cX7_marry 28 = .ok (.return_, 1) := by decide +kernel
theorem dX7_bury_0 : decode cX7_bury 0 = .ok (.aload_n 0, 1) := by decide +kernel
theorem dX7_bury_1 : decode cX7_bury 1 = .ok (.getfield 30, 3) := by decide +kernel
theorem dX7_bury_4 : decode cX7_bury 4 = .ok (.iload_n 1, 1) := by decide +kernel
theorem dX7_bury_5 : decode cX7_bury 5 = .ok (.iconst 0, 1) := by decide +kernel
theorem dX7_bury_6 : decode cX7_bury 6 = .ok (.bastore, 1) := by decide +kernel
theorem dX7_bury_7 : decode cX7_bury 7 = .ok (.aload_n 0, 1) := by decide +kernel
theorem dX7_bury_8 : decode cX7_bury 8 = .ok (.getfield 24, 3) := by decide +kernel
theorem dX7_bury_11 : decode cX7_bury 11 = .ok (.iload_n 1, 1) := by decide +kernel
theorem dX7_bury_12 : decode cX7_bury 12 = .ok (.iaload, 1) := by decide +kernel
theorem dX7_bury_13 : decode cX7_bury 13 = .ok (.istore_n 2, 1) := by decide +kernel
theorem dX7_bury_14 : decode cX7_bury 14 = .ok (.aload_n 0, 1) := by decide +kernel
theorem dX7_bury_15 : decode cX7_bury 15 = .ok (.iload_n 2, 1) := by decide +kernel
theorem dX7_bury_16 : decode cX7_bury 16 = .ok (.invokevirtual 44, 3) := by decide +kernel
theorem dX7_bury_19 : decode cX7_bury 19 = .ok (.ifCond .eq 37, 3) := by decide +kernel
theorem dX7_bury_22 : decode cX7_bury 22 = .ok (.aload_n 0, 1) := by decide +kernel
theorem dX7_bury_23 : decode cX7_bury 23 = .ok (.getfield 24, 3) := by decide +kernel
theorem dX7_bury_26 : decode cX7_bury 26 = .ok (.iload_n 2, 1) := by decide +kernel
theorem dX7_bury_27 : decode cX7_bury 27 = .ok (.iconst (-1), 1) := by decide +kernel
theorem dX7_bury_28 : decode cX7_bury 28 = .ok (.iastore, 1) := by decide +kernel
theorem dX7_bury_29 : decode cX7_bury 29 = .ok (.aload_n 0, 1) := by decide +kernel
theorem dX7_bury_30 : decode cX7_bury 30 = .ok (.getfield 24, 3) := by decide +kernel
theorem dX7_bury_33 : decode cX7_bury 33 = .ok (.iload_n 1, 1) := by decide +kernel
theorem dX7_bury_34 : decode cX7_bury 34 = .ok (.iconst (-1), 1) := by decide +kernel
theorem dX7_bury_35 : decode cX7_bury 35 = .ok (.iastore, 1) := by decide +kernel
theorem dX7_bury_36 : decode cX7_bury 36 = .ok (.aload_n 0, 1) := by decide +kernel
theorem dX7_bury_37 : decode cX7_bury 37 = .ok (.getfield 34, 3) := by decide +kernel
theorem dX7_bury_40 : decode cX7_bury 40 = .ok (.iload_n 2, 1) := by decide +kernel
theorem dX7_bury_41 : decode cX7_bury 41 = .ok (.aload_n 0, 1) := by decide +kernel
theorem dX7_bury_42 : decode cX7_bury 42 = .ok (.getfield 15, 3) := by decide +kernel
theorem dX7_bury_45 : decode cX7_bury 45 = .ok (.iload_n 2, 1) := by decide +kernel
theorem dX7_bury_46 : decode cX7_bury 46 = .ok (.iaload, 1) := by decide +kernel
theorem dX7_bury_47 : decode cX7_bury 47 = .ok (.ifCond .ne 7, 3) := by decide +kernel
theorem dX7_bury_50 : decode cX7_bury 50 = .ok (.iconst 1, 1) := by decide +kernel
theorem dX7_bury_51 : decode cX7_bury 51 = .ok (.goto 4, 3) := by decide +kernel
theorem dX7_bury_54 : decode cX7_bury 54 = .ok (.iconst 0, 1) := by decide +kernel
theorem dX7_bury_55 : decode cX7_bury 55 = .ok (.bastore, 1) := by decide +kernel
theorem dX7_bury_56 : decode cX7_bury 56 = .ok (.return_, 1) := by decide +kernel
theorem dX7_hasElder_0 : decode cX7_hasElder 0 = .ok (.iconst 0, 1) := by decide +kernel
theorem dX7_hasElder_1 : decode cX7_hasElder 1 = .ok (.istore_n 2, 1) := by decide +kernel
theorem dX7_hasElder_2 : decode cX7_hasElder 2 = .ok (.iload_n 2, 1) := by decide +kernel
theorem dX7_hasElder_3 : decode cX7_hasElder 3 = .ok (.aload_n 0, 1) := by decide +kernel
theorem dX7_hasElder_4 : decode cX7_hasElder 4 = .ok (.getfield 40, 3) := by decide +kernel
theorem dX7_hasElder_7 : decode cX7_hasElder 7 = .ok (.if_icmp .ge 62, 3) := by decide +kernel
theorem dX7_hasElder_10 : decode cX7_hasElder 10 = .ok (.aload_n 0, 1) := by decide +kernel
theorem dX7_hasElder_11 : decode cX7_hasElder 11 = .ok (.getfield 15, 3) := by decide +kernel
theorem dX7_hasElder_14 : decode cX7_hasElder 14 = .ok (.iload_n 2, 1) := by decide +kernel
theorem dX7_hasElder_15 : decode cX7_hasElder 15 = .ok (.iaload, 1) := by decide +kernel
theorem dX7_hasElder_16 : decode cX7_hasElder 16 = .ok (.ifCond .ne 47, 3) := by decide +kernel
theorem dX7_hasElder_19 : decode cX7_hasElder 19 = .ok (.aload_n 0, 1) := by decide +kernel
theorem dX7_hasElder_20 : decode cX7_hasElder 20 = .ok (.getfield 9, 3) := by decide +kernel
theorem dX7_hasElder_23 : decode cX7_hasElder 23 = .ok (.iload_n 2, 1) := by decide +kernel
theorem dX7_hasElder_24 : decode cX7_hasElder 24 = .ok (.iaload, 1) := by decide +kernel
