theorem dX11_harvest_11 : decode cX11_harvest 11 = .ok (.ifCond .eq 13, 3) := by decide +kernel
theorem dX11_harvest_14 : decode cX11_harvest 14 = .ok (.iload_n 2, 1) := by decide +kernel
theorem dX11_harvest_15 : decode cX11_harvest 15 = .ok (.iconst 1, 1) := by decide +kernel
theorem dX11_harvest_16 : decode cX11_harvest 16 = .ok (.ldc 71, 2) := by decide +kernel
theorem dX11_harvest_18 : decode cX11_harvest 18 = .ok (.invokestatic 63, 3) := by decide +kernel
theorem dX11_harvest_21 : decode cX11_harvest 21 = .ok (.ifCond .ne 5, 3) := by decide +kernel
theorem dX11_harvest_24 : decode cX11_harvest 24 = .ok (.iconst (-1), 1) := by decide +kernel
theorem dX11_harvest_25 : decode cX11_harvest 25 = .ok (.ireturn, 1) := by decide +kernel
theorem dX11_harvest_26 : decode cX11_harvest 26 = .ok (.aload_n 0, 1) := by decide +kernel
theorem dX11_harvest_27 : decode cX11_harvest 27 = .ok (.getfield 12, 3) := by decide +kernel
theorem dX11_harvest_30 : decode cX11_harvest 30 = .ok (.getfield 72, 3) := by decide +kernel
theorem dX11_harvest_33 : decode cX11_harvest 33 = .ok (.getfield 119, 3) := by decide +kernel
theorem dX11_harvest_36 : decode cX11_harvest 36 = .ok (.iload_n 1, 1) := by decide +kernel
theorem dX11_harvest_37 : decode cX11_harvest 37 = .ok (.dup2, 1) := by decide +kernel
theorem dX11_harvest_38 : decode cX11_harvest 38 = .ok (.iaload, 1) := by decide +kernel
theorem dX11_harvest_39 : decode cX11_harvest 39 = .ok (.iload_n 2, 1) := by decide +kernel
theorem dX11_harvest_40 : decode cX11_harvest 40 = .ok (.iadd, 1) := by decide +kernel
theorem dX11_harvest_41 : decode cX11_harvest 41 = .ok (.iastore, 1) := by decide +kernel
theorem dX11_harvest_42 : decode cX11_harvest 42 = .ok (.aload_n 0, 1) := by decide +kernel
theorem dX11_harvest_43 : decode cX11_harvest 43 = .ok (.getfield 12, 3) := by decide +kernel
theorem dX11_harvest_46 : decode cX11_harvest 46 = .ok (.getfield 72, 3) := by decide +kernel
theorem dX11_harvest_49 : decode cX11_harvest 49 = .ok (.getfield 119, 3) := by decide +kernel
theorem dX11_harvest_52 : decode cX11_harvest 52 = .ok (.iload_n 1, 1) := by decide +kernel
theorem dX11_harvest_53 : decode cX11_harvest 53 = .ok (.iaload, 1) := by decide +kernel
theorem dX11_harvest_54 : decode cX11_harvest 54 = .ok (.ireturn, 1) := by decide +kernel
theorem dX11_parent_0 : decode cX11_parent 0 = .ok (.aload_n 0, 1) := by decide +kernel
theorem dX11_parent_1 : decode cX11_parent 1 = .ok (.getfield 12, 3) := by decide +kernel
theorem dX11_parent_4 : decode cX11_parent 4 = .ok (.getfield 89, 3) := by decide +kernel
theorem dX11_parent_7 : decode cX11_parent 7 = .ok (.astore 4, 2) := by decide +kernel
theorem dX11_parent_9 : decode cX11_parent 9 = .ok (.aload 4, 2) := by decide +kernel
theorem dX11_parent_11 : decode cX11_parent 11 = .ok (.iload_n 1, 1) := by decide +kernel
theorem dX11_parent_12 : decode cX11_parent 12 = .ok (.invokevirtual 123, 3) := by decide +kernel
theorem dX11_parent_15 : decode cX11_parent 15 = .ok (.ifCond .eq 19, 3) := by decide +kernel
theorem dX11_parent_18 : decode cX11_parent 18 = .ok (.aload 4, 2) := by decide +kernel
theorem dX11_parent_20 : decode cX11_parent 20 = .ok (.iload_n 2, 1) := by decide +kernel
theorem dX11_parent_21 : decode cX11_parent 21 = .ok (.invokevirtual 123, 3) := by decide +kernel
theorem dX11_parent_24 : decode cX11_parent 24 = .ok (.ifCond .eq 10, 3) := by decide +kernel
theorem dX11_parent_27 : decode cX11_parent 27 = .ok (.iload_n 3, 1) := by decide +kernel
theorem dX11_parent_28 : decode cX11_parent 28 = .ok (.invokestatic 67, 3) := by decide +kernel
theorem dX11_parent_31 : decode cX11_parent 31 = .ok (.ifCond .ne 5, 3) := by decide +kernel
theorem dX11_parent_34 : decode cX11_parent 34 = .ok (.iconst (-1), 1) := by decide +kernel
theorem dX11_parent_35 : decode cX11_parent 35 = .ok (.ireturn, 1) := by decide +kernel
theorem dX11_parent_36 : decode cX11_parent 36 = .ok (.aload 4, 2) := by decide +kernel
theorem dX11_parent_38 : decode cX11_parent 38 = .ok (.getfield 124, 3) := by decide +kernel
theorem dX11_parent_41 : decode cX11_parent 41 = .ok (.iload_n 2, 1) := by decide +kernel
theorem dX11_parent_42 : decode cX11_parent 42 = .ok (.iaload, 1) := by decide +kernel
theorem dX11_parent_43 : decode cX11_parent 43 = .ok (.aload 4, 2) := by decide +kernel
theorem dX11_parent_45 : decode cX11_parent 45 = .ok (.getfield 124, 3) := by decide +kernel
theorem dX11_parent_48 : decode cX11_parent 48 = .ok (.iload_n 1, 1) := by decide +kernel
theorem dX11_parent_49 : decode cX11_parent 49 = .ok (.iaload, 1) := by decide +kernel
theorem dX11_parent_50 : decode cX11_parent 50 = .ok (.if_icmp .lt 5, 3) := by decide +kernel
theorem dX11_parent_53 : decode cX11_parent 53 = .ok (.iconst (-1), 1) := by decide +kernel
theorem dX11_parent_54 : decode cX11_parent 54 = .ok (.ireturn, 1) := by decide +kernel
theorem dX11_parent_55 : decode cX11_parent 55 = .ok (.aload_n 0, 1) := by decide +kernel
theorem dX11_parent_56 : decode cX11_parent 56 = .ok (.getfield 32, 3) := by decide +kernel
theorem dX11_parent_59 : decode cX11_parent 59 = .ok (.invokevirtual 108, 3) := by decide +kernel
theorem dX11_parent_62 : decode cX11_parent 62 = .ok (.aload_n 0, 1) := by decide +kernel
theorem dX11_parent_63 : decode cX11_parent 63 = .ok (.getfield 12, 3) := by decide +kernel
theorem dX11_parent_66 : decode cX11_parent 66 = .ok (.getfield 98, 3) := by decide +kernel
theorem dX11_parent_69 : decode cX11_parent 69 = .ok (.iload_n 1, 1) := by decide +kernel
theorem dX11_parent_70 : decode cX11_parent 70 = .ok (.iload_n 2, 1) := by decide +kernel
theorem dX11_parent_71 : decode cX11_parent 71 = .ok (.iload_n 3, 1) := by decide +kernel
theorem dX11_parent_72 : decode cX11_parent 72 = .ok (.aload_n 0, 1) := by decide +kernel
theorem dX11_parent_73 : decode cX11_parent 73 = .ok (.getfield 12, 3) := by decide +kernel
theorem dX11_parent_76 : decode cX11_parent 76 = .ok (.getfield 85, 3) := by decide +kernel
theorem dX11_parent_79 : decode cX11_parent 79 = .ok (.invokevirtual 127, 3) := by decide +kernel
theorem dX11_parent_82 : decode cX11_parent 82 = .ok (.ireturn, 1) := by decide +kernel
theorem dX11_heard_0 : decode cX11_heard 0 = .ok (.aload_n 0, 1) := by decide +kernel
theorem dX11_heard_1 : decode cX11_heard 1 = .ok (.getfield 12, 3) := by decide +kernel
theorem dX11_heard_4 : decode cX11_heard 4 = .ok (.getfield 98, 3) := by decide +kernel
theorem dX11_heard_7 : decode cX11_heard 7 = .ok (.iload_n 1, 1) := by decide +kernel
theorem dX11_heard_8 : decode cX11_heard 8 = .ok (.invokevirtual 128, 3) := by decide +kernel
theorem dX11_heard_11 : decode cX11_heard 11 = .ok (.ifCond .eq 10, 3) := by decide +kernel
theorem dX11_heard_14 : decode cX11_heard 14 = .ok (.iload_n 2, 1) := by decide +kernel
theorem dX11_heard_15 : decode cX11_heard 15 = .ok (.invokestatic 67, 3) := by decide +kernel
theorem dX11_heard_18 : decode cX11_heard 18 = .ok (.ifCond .ne 5, 3) := by decide +kernel
theorem dX11_heard_21 : decode cX11_heard 21 = .ok (.iconst (-1), 1) := by decide +kernel
theorem dX11_heard_22 : decode cX11_heard 22 = .ok (.ireturn, 1) := by decide +kernel
theorem dX11_heard_23 : decode cX11_heard 23 = .ok (.aload_n 0, 1) := by decide +kernel
theorem dX11_heard_24 : decode cX11_heard 24 = .ok (.getfield 12, 3) := by decide +kernel
theorem dX11_heard_27 : decode cX11_heard 27 = .ok (.getfield 98, 3) := by decide +kernel
theorem dX11_heard_30 : decode cX11_heard 30 = .ok (.iload_n 1, 1) := by decide +kernel
theorem dX11_heard_31 : decode cX11_heard 31 = .ok (.iload_n 2, 1) := by decide +kernel
theorem dX11_heard_32 : decode cX11_heard 32 = .ok (.invokevirtual 129, 3) := by decide +kernel
theorem dX11_heard_35 : decode cX11_heard 35 = .ok (.ireturn, 1) := by decide +kernel
theorem dX11_die_0 : decode cX11_die 0 = .ok (.aload_n 0, 1) := by decide +kernel
theorem dX11_die_1 : decode cX11_die 1 = .ok (.getfield 12, 3) := by decide +kernel
theorem dX11_die_4 : decode cX11_die 4 = .ok (.getfield 89, 3) := by decide +kernel
theorem dX11_die_7 : decode cX11_die 7 = .ok (.astore_n 2, 1) := by decide +kernel
theorem dX11_die_8 : decode cX11_die 8 = .ok (.aload_n 2, 1) := by decide +kernel
theorem dX11_die_9 : decode cX11_die 9 = .ok (.iload_n 1, 1) := by decide +kernel
theorem dX11_die_10 : decode cX11_die 10 = .ok (.invokevirtual 123, 3) := by decide +kernel
theorem dX11_die_13 : decode cX11_die 13 = .ok (.ifCond .eq 12, 3) := by decide +kernel
theorem dX11_die_16 : decode cX11_die 16 = .ok (.aload_n 2, 1) := by decide +kernel
theorem dX11_die_17 : decode cX11_die 17 = .ok (.getfield 133, 3) := by decide +kernel
theorem dX11_die_20 : decode cX11_die 20 = .ok (.iload_n 1, 1) := by decide +kernel
theorem dX11_die_21 : decode cX11_die 21 = .ok (.baload, 1) := by decide +kernel
theorem dX11_die_22 : decode cX11_die 22 = .ok (.ifCond .ne 5, 3) := by decide +kernel
theorem dX11_die_25 : decode cX11_die 25 = .ok (.iconst 0, 1) := by decide +kernel
theorem dX11_die_26 : decode cX11_die 26 = .ok (.ireturn, 1) := by decide +kernel
theorem dX11_die_27 : decode cX11_die 27 = .ok (.aload_n 2, 1) := by decide +kernel
theorem dX11_die_28 : decode cX11_die 28 = .ok (.getfield 137, 3) := by decide +kernel
theorem dX11_die_31 : decode cX11_die 31 = .ok (.iload_n 1, 1) := by decide +kernel
theorem dX11_die_32 : decode cX11_die 32 = .ok (.iaload, 1) := by decide +kernel
theorem dX11_die_33 : decode cX11_die 33 = .ok (.istore_n 3, 1) := by decide +kernel
theorem dX11_die_34 : decode cX11_die 34 = .ok (.aload_n 0, 1) := by decide +kernel
theorem dX11_die_35 : decode cX11_die 35 = .ok (.getfield 12, 3) := by decide +kernel
theorem dX11_die_38 : decode cX11_die 38 = .ok (.getfield 140, 3) := by decide +kernel
theorem dX11_die_41 : decode cX11_die 41 = .ok (.iload_n 3, 1) := by decide +kernel
theorem dX11_die_42 : decode cX11_die 42 = .ok (.invokevirtual 144, 3) := by decide +kernel
theorem dX11_die_45 : decode cX11_die 45 = .ok (.ifCond .eq 9, 3) := by decide +kernel
theorem dX11_die_48 : decode cX11_die 48 = .ok (.aload_n 0, 1) := by decide +kernel
theorem dX11_die_49 : decode cX11_die 49 = .ok (.iload_n 3, 1) := by decide +kernel
theorem dX11_die_50 : decode cX11_die 50 = .ok (.iconst 4, 1) := by decide +kernel
theorem dX11_die_51 : decode cX11_die 51 = .ok (.invokevirtual 149, 3) := by decide +kernel
theorem dX11_die_54 : decode cX11_die 54 = .ok (.aload_n 2, 1) := by decide +kernel
theorem dX11_die_55 : decode cX11_die 55 = .ok (.iload_n 1, 1) := by decide +kernel
theorem dX11_die_56 : decode cX11_die 56 = .ok (.invokevirtual 153, 3) := by decide +kernel
theorem dX11_die_59 : decode cX11_die 59 = .ok (.iconst 1, 1) := by decide +kernel
theorem dX11_die_60 : decode cX11_die 60 = .ok (.ireturn, 1) := by decide +kernel
theorem dX11_year_0 : decode cX11_year 0 = .ok (.aload_n 0, 1) := by decide +kernel
theorem dX11_year_1 : decode cX11_year 1 = .ok (.getfield 12, 3) := by decide +kernel
theorem dX11_year_4 : decode cX11_year 4 = .ok (.getfield 85, 3) := by decide +kernel
theorem dX11_year_7 : decode cX11_year 7 = .ok (.sipush 300, 3) := by decide +kernel
theorem dX11_year_10 : decode cX11_year 10 = .ok (.if_icmp .lt 5, 3) := by decide +kernel
theorem dX11_year_13 : decode cX11_year 13 = .ok (.iconst (-1), 1) := by decide +kernel
theorem dX11_year_14 : decode cX11_year 14 = .ok (.ireturn, 1) := by decide +kernel
theorem dX11_year_15 : decode cX11_year 15 = .ok (.aload_n 0, 1) := by decide +kernel
theorem dX11_year_16 : decode cX11_year 16 = .ok (.getfield 12, 3) := by decide +kernel
theorem dX11_year_19 : decode cX11_year 19 = .ok (.dup, 1) := by decide +kernel
theorem dX11_year_20 : decode cX11_year 20 = .ok (.getfield 85, 3) := by decide +kernel
theorem dX11_year_23 : decode cX11_year 23 = .ok (.iconst 1, 1) := by decide +kernel
theorem dX11_year_24 : decode cX11_year 24 = .ok (.iadd, 1) := by decide +kernel
theorem dX11_year_25 : decode cX11_year 25 = .ok (.putfield 85, 3) := by decide +kernel
theorem dX11_year_28 : decode cX11_year 28 = .ok (.aload_n 0, 1) := by decide +kernel
theorem dX11_year_29 : decode cX11_year 29 = .ok (.getfield 12, 3) := by decide +kernel
theorem dX11_year_32 : decode cX11_year 32 = .ok (.getfield 85, 3) := by decide +kernel
theorem dX11_year_35 : decode cX11_year 35 = .ok (.ireturn, 1) := by decide +kernel
theorem dX11_kin_0 : decode cX11_kin 0 = .ok (.aload_n 0, 1) := by decide +kernel
theorem dX11_kin_1 : decode cX11_kin 1 = .ok (.iload_n 1, 1) := by decide +kernel
theorem dX11_kin_2 : decode cX11_kin 2 = .ok (.iload_n 2, 1) := by decide +kernel
theorem dX11_kin_3 : decode cX11_kin 3 = .ok (.iload_n 3, 1) := by decide +kernel
theorem dX11_kin_4 : decode cX11_kin 4 = .ok (.iload 4, 2) := by decide +kernel
theorem dX11_kin_6 : decode cX11_kin 6 = .ok (.invokevirtual 157, 3) := by decide +kernel
theorem dX11_kin_9 : decode cX11_kin 9 = .ok (.ifCond .ne 5, 3) := by decide +kernel
theorem dX11_kin_12 : decode cX11_kin 12 = .ok (.iconst (-1), 1) := by decide +kernel
theorem dX11_kin_13 : decode cX11_kin 13 = .ok (.ireturn, 1) := by decide +kernel
theorem dX11_kin_14 : decode cX11_kin 14 = .ok (.aload_n 0, 1) := by decide +kernel
theorem dX11_kin_15 : decode cX11_kin 15 = .ok (.getfield 32, 3) := by decide +kernel
theorem dX11_kin_18 : decode cX11_kin 18 = .ok (.iload_n 1, 1) := by decide +kernel
theorem dX11_kin_19 : decode cX11_kin 19 = .ok (.iload_n 2, 1) := by decide +kernel
theorem dX11_kin_20 : decode cX11_kin 20 = .ok (.iload_n 3, 1) := by decide +kernel
theorem dX11_kin_21 : decode cX11_kin 21 = .ok (.iload 4, 2) := by decide +kernel
theorem dX11_kin_23 : decode cX11_kin 23 = .ok (.invokevirtual 161, 3) := by decide +kernel
theorem dX11_kin_26 : decode cX11_kin 26 = .ok (.ireturn, 1) := by decide +kernel
theorem dX11_chain_0 : decode cX11_chain 0 = .ok (.aload_n 0, 1) := by decide +kernel
theorem dX11_chain_1 : decode cX11_chain 1 = .ok (.iload_n 1, 1) := by decide +kernel
theorem dX11_chain_2 : decode cX11_chain 2 = .ok (.iload_n 2, 1) := by decide +kernel
theorem dX11_chain_3 : decode cX11_chain 3 = .ok (.iload_n 3, 1) := by decide +kernel
theorem dX11_chain_4 : decode cX11_chain 4 = .ok (.iload 4, 2) := by decide +kernel
theorem dX11_chain_6 : decode cX11_chain 6 = .ok (.invokevirtual 157, 3) := by decide +kernel
theorem dX11_chain_9 : decode cX11_chain 9 = .ok (.ifCond .ne 5, 3) := by decide +kernel
theorem dX11_chain_12 : decode cX11_chain 12 = .ok (.iconst (-1), 1) := by decide +kernel
theorem dX11_chain_13 : decode cX11_chain 13 = .ok (.ireturn, 1) := by decide +kernel
theorem dX11_chain_14 : decode cX11_chain 14 = .ok (.aload_n 0, 1) := by decide +kernel
theorem dX11_chain_15 : decode cX11_chain 15 = .ok (.getfield 32, 3) := by decide +kernel
theorem dX11_chain_18 : decode cX11_chain 18 = .ok (.iload_n 1, 1) := by decide +kernel
theorem dX11_chain_19 : decode cX11_chain 19 = .ok (.iload_n 2, 1) := by decide +kernel
theorem dX11_chain_20 : decode cX11_chain 20 = .ok (.iload_n 3, 1) := by decide +kernel
theorem dX11_chain_21 : decode cX11_chain 21 = .ok (.iload 4, 2) := by decide +kernel
theorem dX11_chain_23 : decode cX11_chain 23 = .ok (.iload 5, 2) := by decide +kernel
theorem dX11_chain_25 : decode cX11_chain 25 = .ok (.invokevirtual 164, 3) := by decide +kernel
theorem dX11_chain_28 : decode cX11_chain 28 = .ok (.ireturn, 1) := by decide +kernel
theorem dX11_tell_0 : decode cX11_tell 0 = .ok (.aload_n 0, 1) := by decide +kernel
theorem dX11_tell_1 : decode cX11_tell 1 = .ok (.getfield 12, 3) := by decide +kernel
theorem dX11_tell_4 : decode cX11_tell 4 = .ok (.getfield 89, 3) := by decide +kernel
theorem dX11_tell_7 : decode cX11_tell 7 = .ok (.astore_n 3, 1) := by decide +kernel
theorem dX11_tell_8 : decode cX11_tell 8 = .ok (.aload_n 3, 1) := by decide +kernel
theorem dX11_tell_9 : decode cX11_tell 9 = .ok (.iload_n 1, 1) := by decide +kernel
theorem dX11_tell_10 : decode cX11_tell 10 = .ok (.invokevirtual 123, 3) := by decide +kernel
theorem dX11_tell_13 : decode cX11_tell 13 = .ok (.ifCond .ne 6, 3) := by decide +kernel
theorem dX11_tell_16 : decode cX11_tell 16 = .ok (.bipush (-100), 2) := by decide +kernel
theorem dX11_tell_18 : decode cX11_tell 18 = .ok (.ireturn, 1) := by decide +kernel
theorem dX11_tell_19 : decode cX11_tell 19 = .ok (.iload_n 2, 1) := by decide +kernel
theorem dX11_tell_20 : decode cX11_tell 20 = .ok (.tableswitch 142 0 9 #[56, 63, 70, 77, 84, 99, 109, 116, 126, 133], 56) := by decide +kernel
theorem dX11_tell_76 : decode cX11_tell 76 = .ok (.aload_n 3, 1) := by decide +kernel
theorem dX11_tell_77 : decode cX11_tell 77 = .ok (.getfield 168, 3) := by decide +kernel
theorem dX11_tell_80 : decode cX11_tell 80 = .ok (.iload_n 1, 1) := by decide +kernel
theorem dX11_tell_81 : decode cX11_tell 81 = .ok (.iaload, 1) := by decide +kernel
theorem dX11_tell_82 : decode cX11_tell 82 = .ok (.ireturn, 1) := by decide +kernel
theorem dX11_tell_83 : decode cX11_tell 83 = .ok (.aload_n 3, 1) := by decide +kernel
theorem dX11_tell_84 : decode cX11_tell 84 = .ok (.getfield 171, 3) := by decide +kernel
theorem dX11_tell_87 : decode cX11_tell 87 = .ok (.iload_n 1, 1) := by decide +kernel
theorem dX11_tell_88 : decode cX11_tell 88 = .ok (.iaload, 1) := by decide +kernel
theorem dX11_tell_89 : decode cX11_tell 89 = .ok (.ireturn, 1) := by decide +kernel
theorem dX11_tell_90 : decode cX11_tell 90 = .ok (.aload_n 3, 1) := by decide +kernel
theorem dX11_tell_91 : decode cX11_tell 91 = .ok (.getfield 174, 3) := by decide +kernel
theorem dX11_tell_94 : decode cX11_tell 94 = .ok (.iload_n 1, 1) := by decide +kernel
theorem dX11_tell_95 : decode cX11_tell 95 = .ok (.iaload, 1) := by decide +kernel
theorem dX11_tell_96 : decode cX11_tell 96 = .ok (.ireturn, 1) := by decide +kernel
theorem dX11_tell_97 : decode cX11_tell 97 = .ok (.aload_n 3, 1) := by decide +kernel
theorem dX11_tell_98 : decode cX11_tell 98 = .ok (.getfield 124, 3) := by decide +kernel
theorem dX11_tell_101 : decode cX11_tell 101 = .ok (.iload_n 1, 1) := by decide +kernel
theorem dX11_tell_102 : decode cX11_tell 102 = .ok (.iaload, 1) := by decide +kernel
theorem dX11_tell_103 : decode cX11_tell 103 = .ok (.ireturn, 1) := by decide +kernel
theorem dX11_tell_104 : decode cX11_tell 104 = .ok (.aload_n 0, 1) := by decide +kernel
theorem dX11_tell_105 : decode cX11_tell 105 = .ok (.getfield 12, 3) := by decide +kernel
theorem dX11_tell_108 : decode cX11_tell 108 = .ok (.getfield 85, 3) := by decide +kernel
theorem dX11_tell_111 : decode cX11_tell 111 = .ok (.aload_n 3, 1) := by decide +kernel
theorem dX11_tell_112 : decode cX11_tell 112 = .ok (.getfield 124, 3) := by decide +kernel
theorem dX11_tell_115 : decode cX11_tell 115 = .ok (.iload_n 1, 1) := by decide +kernel
theorem dX11_tell_116 : decode cX11_tell 116 = .ok (.iaload, 1) := by decide +kernel
theorem dX11_tell_117 : decode cX11_tell 117 = .ok (.isub, 1) := by decide +kernel
theorem dX11_tell_118 : decode cX11_tell 118 = .ok (.ireturn, 1) := by decide +kernel
theorem dX11_tell_119 : decode cX11_tell 119 = .ok (.aload_n 3, 1) := by decide +kernel
theorem dX11_tell_120 : decode cX11_tell 120 = .ok (.getfield 133, 3) := by decide +kernel
theorem dX11_tell_123 : decode cX11_tell 123 = .ok (.iload_n 1, 1) := by decide +kernel
theorem dX11_tell_124 : decode cX11_tell 124 = .ok (.baload, 1) := by decide +kernel
theorem dX11_tell_125 : decode cX11_tell 125 = .ok (.invokestatic 177, 3) := by decide +kernel
theorem dX11_tell_128 : decode cX11_tell 128 = .ok (.ireturn, 1) := by decide +kernel
theorem dX11_tell_129 : decode cX11_tell 129 = .ok (.aload_n 3, 1) := by decide +kernel
theorem dX11_tell_130 : decode cX11_tell 130 = .ok (.getfield 181, 3) := by decide +kernel
theorem dX11_tell_133 : decode cX11_tell 133 = .ok (.iload_n 1, 1) := by decide +kernel
theorem dX11_tell_134 : decode cX11_tell 134 = .ok (.iaload, 1) := by decide +kernel
theorem dX11_tell_135 : decode cX11_tell 135 = .ok (.ireturn, 1) := by decide +kernel
theorem dX11_tell_136 : decode cX11_tell 136 = .ok (.aload_n 3, 1) := by decide +kernel
theorem dX11_tell_137 : decode cX11_tell 137 = .ok (.getfield 184, 3) := by decide +kernel
theorem dX11_tell_140 : decode cX11_tell 140 = .ok (.iload_n 1, 1) := by decide +kernel
theorem dX11_tell_141 : decode cX11_tell 141 = .ok (.baload, 1) := by decide +kernel
theorem dX11_tell_142 : decode cX11_tell 142 = .ok (.invokestatic 177, 3) := by decide +kernel
theorem dX11_tell_145 : decode cX11_tell 145 = .ok (.ireturn, 1) := by decide +kernel
theorem dX11_tell_146 : decode cX11_tell 146 = .ok (.aload_n 3, 1) := by decide +kernel
theorem dX11_tell_147 : decode cX11_tell 147 = .ok (.getfield 137, 3) := by decide +kernel
theorem dX11_tell_150 : decode cX11_tell 150 = .ok (.iload_n 1, 1) := by decide +kernel
theorem dX11_tell_151 : decode cX11_tell 151 = .ok (.iaload, 1) := by decide +kernel
theorem dX11_tell_152 : decode cX11_tell 152 = .ok (.ireturn, 1) := by decide +kernel
theorem dX11_tell_153 : decode cX11_tell 153 = .ok (.aload_n 3, 1) := by decide +kernel
theorem dX11_tell_154 : decode cX11_tell 154 = .ok (.iload_n 1, 1) := by decide +kernel
theorem dX11_tell_155 : decode cX11_tell 155 = .ok (.invokevirtual 187, 3) := by decide +kernel
theorem dX11_tell_158 : decode cX11_tell 158 = .ok (.invokestatic 177, 3) := by decide +kernel
theorem dX11_tell_161 : decode cX11_tell 161 = .ok (.ireturn, 1) := by decide +kernel
theorem dX11_tell_162 : decode cX11_tell 162 = .ok (.bipush (-100), 2) := by decide +kernel
theorem dX11_tell_164 : decode cX11_tell 164 = .ok (.ireturn, 1) := by decide +kernel
theorem dX11_about_0 : decode cX11_about 0 = .ok (.aload_n 0, 1) := by decide +kernel
theorem dX11_about_1 : decode cX11_about 1 = .ok (.getfield 12, 3) := by decide +kernel
theorem dX11_about_4 : decode cX11_about 4 = .ok (.getfield 72, 3) := by decide +kernel
theorem dX11_about_7 : decode cX11_about 7 = .ok (.astore_n 3, 1) := by decide +kernel
theorem dX11_about_8 : decode cX11_about 8 = .ok (.aload_n 3, 1) := by decide +kernel
theorem dX11_about_9 : decode cX11_about 9 = .ok (.iload_n 1, 1) := by decide +kernel
theorem dX11_about_10 : decode cX11_about 10 = .ok (.invokevirtual 82, 3) := by decide +kernel
theorem dX11_about_13 : decode cX11_about 13 = .ok (.ifCond .ne 5, 3) := by decide +kernel
theorem dX11_about_16 : decode cX11_about 16 = .ok (.iconst (-1), 1) := by decide +kernel
theorem dX11_about_17 : decode cX11_about 17 = .ok (.ireturn, 1) := by decide +kernel
theorem dX11_about_18 : decode cX11_about 18 = .ok (.iload_n 2, 1) := by decide +kernel
theorem dX11_about_19 : decode cX11_about 19 = .ok (.tableswitch 73 0 4 #[33, 40, 47, 54, 61], 33) := by decide +kernel
theorem dX11_about_52 : decode cX11_about 52 = .ok (.aload_n 3, 1) := by decide +kernel
theorem dX11_about_53 : decode cX11_about 53 = .ok (.getfield 190, 3) := by decide +kernel
theorem dX11_about_56 : decode cX11_about 56 = .ok (.iload_n 1, 1) := by decide +kernel
theorem dX11_about_57 : decode cX11_about 57 = .ok (.iaload, 1) := by decide +kernel
theorem dX11_about_58 : decode cX11_about 58 = .ok (.ireturn, 1) := by decide +kernel
theorem dX11_about_59 : decode cX11_about 59 = .ok (.aload_n 3, 1) := by decide +kernel
theorem dX11_about_60 : decode cX11_about 60 = .ok (.getfield 193, 3) := by decide +kernel
theorem dX11_about_63 : decode cX11_about 63 = .ok (.iload_n 1, 1) := by decide +kernel
theorem dX11_about_64 : decode cX11_about 64 = .ok (.iaload, 1) := by decide +kernel
theorem dX11_about_65 : decode cX11_about 65 = .ok (.ireturn, 1) := by decide +kernel
theorem dX11_about_66 : decode cX11_about 66 = .ok (.aload_n 3, 1) := by decide +kernel
theorem dX11_about_67 : decode cX11_about 67 = .ok (.getfield 119, 3) := by decide +kernel
theorem dX11_about_70 : decode cX11_about 70 = .ok (.iload_n 1, 1) := by decide +kernel
theorem dX11_about_71 : decode cX11_about 71 = .ok (.iaload, 1) := by decide +kernel
theorem dX11_about_72 : decode cX11_about 72 = .ok (.ireturn, 1) := by decide +kernel
theorem dX11_about_73 : decode cX11_about 73 = .ok (.aload_n 3, 1) := by decide +kernel
theorem dX11_about_74 : decode cX11_about 74 = .ok (.getfield 196, 3) := by decide +kernel
theorem dX11_about_77 : decode cX11_about 77 = .ok (.iload_n 1, 1) := by decide +kernel
theorem dX11_about_78 : decode cX11_about 78 = .ok (.iaload, 1) := by decide +kernel
theorem dX11_about_79 : decode cX11_about 79 = .ok (.ireturn, 1) := by decide +kernel
theorem dX11_about_80 : decode cX11_about 80 = .ok (.aload_n 0, 1) := by decide +kernel
theorem dX11_about_81 : decode cX11_about 81 = .ok (.getfield 12, 3) := by decide +kernel
theorem dX11_about_84 : decode cX11_about 84 = .ok (.getfield 89, 3) := by decide +kernel
theorem dX11_about_87 : decode cX11_about 87 = .ok (.iload_n 1, 1) := by decide +kernel
theorem dX11_about_88 : decode cX11_about 88 = .ok (.invokevirtual 199, 3) := by decide +kernel
theorem dX11_about_91 : decode cX11_about 91 = .ok (.ireturn, 1) := by decide +kernel
theorem dX11_about_92 : decode cX11_about 92 = .ok (.iconst (-1), 1) := by decide +kernel
theorem dX11_about_93 : decode cX11_about 93 = .ok (.ireturn, 1) := by decide +kernel
theorem dX11_feed_0 : decode cX11_feed 0 = .ok (.aload_n 0, 1) := by decide +kernel
theorem dX11_feed_1 : decode cX11_feed 1 = .ok (.getfield 12, 3) := by decide +kernel
theorem dX11_feed_4 : decode cX11_feed 4 = .ok (.getfield 203, 3) := by decide +kernel
theorem dX11_feed_7 : decode cX11_feed 7 = .ok (.sipush 480, 3) := by decide +kernel
theorem dX11_feed_10 : decode cX11_feed 10 = .ok (.if_icmp .le 5, 3) := by decide +kernel
theorem dX11_feed_13 : decode cX11_feed 13 = .ok (.iconst (-1), 1) := by decide +kernel
theorem dX11_feed_14 : decode cX11_feed 14 = .ok (.ireturn, 1) := by decide +kernel
theorem dX11_feed_15 : decode cX11_feed 15 = .ok (.aload_n 0, 1) := by decide +kernel
theorem dX11_feed_16 : decode cX11_feed 16 = .ok (.getfield 12, 3) := by decide +kernel
theorem dX11_feed_19 : decode cX11_feed 19 = .ok (.iload_n 1, 1) := by decide +kernel
theorem dX11_feed_20 : decode cX11_feed 20 = .ok (.invokevirtual 206, 3) := by decide +kernel
theorem dX11_feed_23 : decode cX11_feed 23 = .ok (.aload_n 0, 1) := by decide +kernel
theorem dX11_feed_24 : decode cX11_feed 24 = .ok (.getfield 12, 3) := by decide +kernel
theorem dX11_feed_27 : decode cX11_feed 27 = .ok (.iload_n 2, 1) := by decide +kernel
theorem dX11_feed_28 : decode cX11_feed 28 = .ok (.invokevirtual 206, 3) := by decide +kernel
theorem dX11_feed_31 : decode cX11_feed 31 = .ok (.aload_n 0, 1) := by decide +kernel
theorem dX11_feed_32 : decode cX11_feed 32 = .ok (.getfield 12, 3) := by decide +kernel
theorem dX11_feed_35 : decode cX11_feed 35 = .ok (.iload_n 3, 1) := by decide +kernel
theorem dX11_feed_36 : decode cX11_feed 36 = .ok (.invokevirtual 206, 3) := by decide +kernel
theorem dX11_feed_39 : decode cX11_feed 39 = .ok (.aload_n 0, 1) := by decide +kernel
theorem dX11_feed_40 : decode cX11_feed 40 = .ok (.getfield 12, 3) := by decide +kernel
theorem dX11_feed_43 : decode cX11_feed 43 = .ok (.iload 4, 2) := by decide +kernel
theorem dX11_feed_45 : decode cX11_feed 45 = .ok (.invokevirtual 206, 3) := by decide +kernel
theorem dX11_feed_48 : decode cX11_feed 48 = .ok (.aload_n 0, 1) := by decide +kernel
theorem dX11_feed_49 : decode cX11_feed 49 = .ok (.getfield 12, 3) := by decide +kernel
theorem dX11_feed_52 : decode cX11_feed 52 = .ok (.iload 5, 2) := by decide +kernel
theorem dX11_feed_54 : decode cX11_feed 54 = .ok (.invokevirtual 206, 3) := by decide +kernel
theorem dX11_feed_57 : decode cX11_feed 57 = .ok (.aload_n 0, 1) := by decide +kernel
theorem dX11_feed_58 : decode cX11_feed 58 = .ok (.getfield 12, 3) := by decide +kernel
theorem dX11_feed_61 : decode cX11_feed 61 = .ok (.getfield 203, 3) := by decide +kernel
theorem dX11_feed_64 : decode cX11_feed 64 = .ok (.ireturn, 1) := by decide +kernel
theorem dX11_end_0 : decode cX11_end 0 = .ok (.iload_n 1, 1) := by decide +kernel
theorem dX11_end_1 : decode cX11_end 1 = .ok (.iconst 0, 1) := by decide +kernel
theorem dX11_end_2 : decode cX11_end 2 = .ok (.aload_n 0, 1) := by decide +kernel
theorem dX11_end_3 : decode cX11_end 3 = .ok (.getfield 12, 3) := by decide +kernel
theorem dX11_end_6 : decode cX11_end 6 = .ok (.getfield 203, 3) := by decide +kernel
theorem dX11_end_9 : decode cX11_end 9 = .ok (.invokestatic 63, 3) := by decide +kernel
theorem dX11_end_12 : decode cX11_end 12 = .ok (.ifCond .ne 5, 3) := by decide +kernel
theorem dX11_end_15 : decode cX11_end 15 = .ok (.iconst (-1), 1) := by decide +kernel
theorem dX11_end_16 : decode cX11_end 16 = .ok (.ireturn, 1) := by decide +kernel
theorem dX11_end_17 : decode cX11_end 17 = .ok (.aload_n 0, 1) := by decide +kernel
theorem dX11_end_18 : decode cX11_end 18 = .ok (.getfield 12, 3) := by decide +kernel
theorem dX11_end_21 : decode cX11_end 21 = .ok (.iload_n 1, 1) := by decide +kernel
theorem dX11_end_22 : decode cX11_end 22 = .ok (.putfield 203, 3) := by decide +kernel
theorem dX11_end_25 : decode cX11_end 25 = .ok (.iload_n 1, 1) := by decide +kernel
theorem dX11_end_26 : decode cX11_end 26 = .ok (.ireturn, 1) := by decide +kernel
theorem dX11_text_0 : decode cX11_text 0 = .ok (.iload_n 1, 1) := by decide +kernel
theorem dX11_text_1 : decode cX11_text 1 = .ok (.iconst 0, 1) := by decide +kernel
theorem dX11_text_2 : decode cX11_text 2 = .ok (.bipush 6, 2) := by decide +kernel
theorem dX11_text_4 : decode cX11_text 4 = .ok (.invokestatic 63, 3) := by decide +kernel
theorem dX11_text_7 : decode cX11_text 7 = .ok (.ifCond .ne 30, 3) := by decide +kernel
theorem dX11_text_10 : decode cX11_text 10 = .ok (.aload_n 0, 1) := by decide +kernel
theorem dX11_text_11 : decode cX11_text 11 = .ok (.getfield 12, 3) := by decide +kernel
theorem dX11_text_14 : decode cX11_text 14 = .ok (.iconst 0, 1) := by decide +kernel
theorem dX11_text_15 : decode cX11_text 15 = .ok (.putfield 203, 3) := by decide +kernel
theorem dX11_text_18 : decode cX11_text 18 = .ok (.aload_n 0, 1) := by decide +kernel
theorem dX11_text_19 : decode cX11_text 19 = .ok (.getfield 12, 3) := by decide +kernel
theorem dX11_text_22 : decode cX11_text 22 = .ok (.iconst 0, 1) := by decide +kernel
theorem dX11_text_23 : decode cX11_text 23 = .ok (.putfield 209, 3) := by decide +kernel
theorem dX11_text_26 : decode cX11_text 26 = .ok (.aload_n 0, 1) := by decide +kernel
theorem dX11_text_27 : decode cX11_text 27 = .ok (.getfield 12, 3) := by decide +kernel
theorem dX11_text_30 : decode cX11_text 30 = .ok (.iconst (-1), 1) := by decide +kernel
theorem dX11_text_31 : decode cX11_text 31 = .ok (.putfield 212, 3) := by decide +kernel
theorem dX11_text_34 : decode cX11_text 34 = .ok (.bipush (-2), 2) := by decide +kernel
theorem dX11_text_36 : decode cX11_text 36 = .ok (.ireturn, 1) := by decide +kernel
theorem dX11_text_37 : decode cX11_text 37 = .ok (.aload_n 0, 1) := by decide +kernel
theorem dX11_text_38 : decode cX11_text 38 = .ok (.getfield 25, 3) := by decide +kernel
theorem dX11_text_41 : decode cX11_text 41 = .ok (.iload_n 1, 1) := by decide +kernel
theorem dX11_text_42 : decode cX11_text 42 = .ok (.iconst 5, 1) := by decide +kernel
theorem dX11_text_43 : decode cX11_text 43 = .ok (.if_icmp .lt 7, 3) := by decide +kernel
theorem dX11_text_46 : decode cX11_text 46 = .ok (.iconst 1, 1) := by decide +kernel
theorem dX11_text_47 : decode cX11_text 47 = .ok (.goto 4, 3) := by decide +kernel
theorem dX11_text_50 : decode cX11_text 50 = .ok (.iconst 0, 1) := by decide +kernel
theorem dX11_text_51 : decode cX11_text 51 = .ok (.invokevirtual 215, 3) := by decide +kernel
theorem dX11_text_54 : decode cX11_text 54 = .ok (.astore_n 2, 1) := by decide +kernel
theorem dX11_text_55 : decode cX11_text 55 = .ok (.aload_n 0, 1) := by decide +kernel
theorem dX11_text_56 : decode cX11_text 56 = .ok (.getfield 12, 3) := by decide +kernel
theorem dX11_text_59 : decode cX11_text 59 = .ok (.iconst 0, 1) := by decide +kernel
theorem dX11_text_60 : decode cX11_text 60 = .ok (.putfield 203, 3) := by decide +kernel
theorem dX11_text_63 : decode cX11_text 63 = .ok (.aload_n 0, 1) := by decide +kernel
theorem dX11_text_64 : decode cX11_text 64 = .ok (.getfield 12, 3) := by decide +kernel
theorem dX11_text_67 : decode cX11_text 67 = .ok (.aload_n 0, 1) := by decide +kernel
theorem dX11_text_68 : decode cX11_text 68 = .ok (.getfield 25, 3) := by decide +kernel
theorem dX11_text_71 : decode cX11_text 71 = .ok (.getfield 219, 3) := by decide +kernel
theorem dX11_text_74 : decode cX11_text 74 = .ok (.putfield 209, 3) := by decide +kernel
theorem dX11_text_77 : decode cX11_text 77 = .ok (.aload_n 0, 1) := by decide +kernel
theorem dX11_text_78 : decode cX11_text 78 = .ok (.getfield 12, 3) := by decide +kernel
theorem dX11_text_81 : decode cX11_text 81 = .ok (.aload_n 0, 1) := by decide +kernel
theorem dX11_text_82 : decode cX11_text 82 = .ok (.getfield 25, 3) := by decide +kernel
theorem dX11_text_85 : decode cX11_text 85 = .ok (.getfield 220, 3) := by decide +kernel
theorem dX11_text_88 : decode cX11_text 88 = .ok (.putfield 212, 3) := by decide +kernel
theorem dX11_text_91 : decode cX11_text 91 = .ok (.aload_n 2, 1) := by decide +kernel
theorem dX11_text_92 : decode cX11_text 92 = .ok (.ifnonnull 5, 3) := by decide +kernel
theorem dX11_text_95 : decode cX11_text 95 = .ok (.iconst (-1), 1) := by decide +kernel
theorem dX11_text_96 : decode cX11_text 96 = .ok (.ireturn, 1) := by decide +kernel
theorem dX11_text_97 : decode cX11_text 97 = .ok (.aload_n 0, 1) := by decide +kernel
theorem dX11_text_98 : decode cX11_text 98 = .ok (.getfield 12, 3) := by decide +kernel
theorem dX11_text_101 : decode cX11_text 101 = .ok (.getfield 221, 3) := by decide +kernel
theorem dX11_text_104 : decode cX11_text 104 = .ok (.iload_n 1, 1) := by decide +kernel
theorem dX11_text_105 : decode cX11_text 105 = .ok (.aload_n 2, 1) := by decide +kernel
theorem dX11_text_106 : decode cX11_text 106 = .ok (.aastore, 1) := by decide +kernel
theorem dX11_text_107 : decode cX11_text 107 = .ok (.aload_n 2, 1) := by decide +kernel
theorem dX11_text_108 : decode cX11_text 108 = .ok (.getfield 225, 3) := by decide +kernel
theorem dX11_text_111 : decode cX11_text 111 = .ok (.ireturn, 1) := by decide +kernel
theorem dX11_fault_0 : decode cX11_fault 0 = .ok (.iload_n 1, 1) := by decide +kernel
theorem dX11_fault_1 : decode cX11_fault 1 = .ok (.lookupswitch 43 #[(0, 27), (1, 35)], 27) := by decide +kernel
theorem dX11_fault_28 : decode cX11_fault 28 = .ok (.aload_n 0, 1) := by decide +kernel
theorem dX11_fault_29 : decode cX11_fault 29 = .ok (.getfield 12, 3) := by decide +kernel
theorem dX11_fault_32 : decode cX11_fault 32 = .ok (.getfield 209, 3) := by decide +kernel
theorem dX11_fault_35 : decode cX11_fault 35 = .ok (.ireturn, 1) := by decide +kernel
theorem dX11_fault_36 : decode cX11_fault 36 = .ok (.aload_n 0, 1) := by decide +kernel
theorem dX11_fault_37 : decode cX11_fault 37 = .ok (.getfield 12, 3) := by decide +kernel
theorem dX11_fault_40 : decode cX11_fault 40 = .ok (.getfield 212, 3) := by decide +kernel
theorem dX11_fault_43 : decode cX11_fault 43 = .ok (.ireturn, 1) := by decide +kernel
theorem dX11_fault_44 : decode cX11_fault 44 = .ok (.iconst (-1), 1) := by decide +kernel
theorem dX11_fault_45 : decode cX11_fault 45 = .ok (.ireturn, 1) := by decide +kernel
theorem dX11_read_0 : decode cX11_read 0 = .ok (.aload_n 0, 1) := by decide +kernel
theorem dX11_read_1 : decode cX11_read 1 = .ok (.iload_n 1, 1) := by decide +kernel
theorem dX11_read_2 : decode cX11_read 2 = .ok (.iload_n 2, 1) := by decide +kernel
theorem dX11_read_3 : decode cX11_read 3 = .ok (.invokevirtual 230, 3) := by decide +kernel
theorem dX11_read_6 : decode cX11_read 6 = .ok (.ifCond .eq 20, 3) := by decide +kernel
theorem dX11_read_9 : decode cX11_read 9 = .ok (.iload_n 3, 1) := by decide +kernel
theorem dX11_read_10 : decode cX11_read 10 = .ok (.invokestatic 67, 3) := by decide +kernel
theorem dX11_read_13 : decode cX11_read 13 = .ok (.ifCond .eq 13, 3) := by decide +kernel
theorem dX11_read_16 : decode cX11_read 16 = .ok (.iload 4, 2) := by decide +kernel
theorem dX11_read_18 : decode cX11_read 18 = .ok (.iconst 0, 1) := by decide +kernel
theorem dX11_read_19 : decode cX11_read 19 = .ok (.iconst 3, 1) := by decide +kernel
theorem dX11_read_20 : decode cX11_read 20 = .ok (.invokestatic 63, 3) := by decide +kernel
theorem dX11_read_23 : decode cX11_read 23 = .ok (.ifCond .ne 6, 3) := by decide +kernel
theorem dX11_read_26 : decode cX11_read 26 = .ok (.bipush (-100), 2) := by decide +kernel
theorem dX11_read_28 : decode cX11_read 28 = .ok (.ireturn, 1) := by decide +kernel
theorem dX11_read_29 : decode cX11_read 29 = .ok (.aload_n 0, 1) := by decide +kernel
theorem dX11_read_30 : decode cX11_read 30 = .ok (.getfield 41, 3) := by decide +kernel
theorem dX11_read_33 : decode cX11_read 33 = .ok (.iload_n 1, 1) := by decide +kernel
theorem dX11_read_34 : decode cX11_read 34 = .ok (.iload_n 2, 1) := by decide +kernel
theorem dX11_read_35 : decode cX11_read 35 = .ok (.invokevirtual 233, 3) := by decide +kernel
theorem dX11_read_38 : decode cX11_read 38 = .ok (.aload_n 0, 1) := by decide +kernel
theorem dX11_read_39 : decode cX11_read 39 = .ok (.getfield 41, 3) := by decide +kernel
theorem dX11_read_42 : decode cX11_read 42 = .ok (.aload_n 0, 1) := by decide +kernel
theorem dX11_read_43 : decode cX11_read 43 = .ok (.getfield 12, 3) := by decide +kernel
theorem dX11_read_46 : decode cX11_read 46 = .ok (.getfield 221, 3) := by decide +kernel
theorem dX11_read_49 : decode cX11_read 49 = .ok (.iload_n 3, 1) := by decide +kernel
theorem dX11_read_50 : decode cX11_read 50 = .ok (.aaload, 1) := by decide +kernel
theorem dX11_read_51 : decode cX11_read 51 = .ok (.iload_n 3, 1) := by decide +kernel
theorem dX11_read_52 : decode cX11_read 52 = .ok (.invokevirtual 236, 3) := by decide +kernel
theorem dX11_read_55 : decode cX11_read 55 = .ok (.iload 4, 2) := by decide +kernel
theorem dX11_read_57 : decode cX11_read 57 = .ok (.tableswitch 63 0 2 #[27, 47, 55], 27) := by decide +kernel
theorem dX11_read_84 : decode cX11_read 84 = .ok (.aload_n 0, 1) := by decide +kernel
theorem dX11_read_85 : decode cX11_read 85 = .ok (.getfield 41, 3) := by decide +kernel
theorem dX11_read_88 : decode cX11_read 88 = .ok (.getfield 240, 3) := by decide +kernel
theorem dX11_read_91 : decode cX11_read 91 = .ok (.iconst (-1), 1) := by decide +kernel
theorem dX11_read_92 : decode cX11_read 92 = .ok (.if_icmp .eq 7, 3) := by decide +kernel
theorem dX11_read_95 : decode cX11_read 95 = .ok (.iconst 1, 1) := by decide +kernel
theorem dX11_read_96 : decode cX11_read 96 = .ok (.goto 4, 3) := by decide +kernel
theorem dX11_read_99 : decode cX11_read 99 = .ok (.iconst 0, 1) := by decide +kernel
theorem dX11_read_100 : decode cX11_read 100 = .ok (.invokestatic 177, 3) := by decide +kernel
theorem dX11_read_103 : decode cX11_read 103 = .ok (.ireturn, 1) := by decide +kernel
theorem dX11_read_104 : decode cX11_read 104 = .ok (.aload_n 0, 1) := by decide +kernel
theorem dX11_read_105 : decode cX11_read 105 = .ok (.getfield 41, 3) := by decide +kernel
theorem dX11_read_108 : decode cX11_read 108 = .ok (.getfield 240, 3) := by decide +kernel
theorem dX11_read_111 : decode cX11_read 111 = .ok (.ireturn, 1) := by decide +kernel
theorem dX11_read_112 : decode cX11_read 112 = .ok (.aload_n 0, 1) := by decide +kernel
theorem dX11_read_113 : decode cX11_read 113 = .ok (.getfield 41, 3) := by decide +kernel
theorem dX11_read_116 : decode cX11_read 116 = .ok (.getfield 243, 3) := by decide +kernel
theorem dX11_read_119 : decode cX11_read 119 = .ok (.ireturn, 1) := by decide +kernel
theorem dX11_read_120 : decode cX11_read 120 = .ok (.aload_n 0, 1) := by decide +kernel
theorem dX11_read_121 : decode cX11_read 121 = .ok (.getfield 41, 3) := by decide +kernel
theorem dX11_read_124 : decode cX11_read 124 = .ok (.getfield 246, 3) := by decide +kernel
theorem dX11_read_127 : decode cX11_read 127 = .ok (.ireturn, 1) := by decide +kernel
theorem dX11_may_0 : decode cX11_may 0 = .ok (.aload_n 0, 1) := by decide +kernel
theorem dX11_may_1 : decode cX11_may 1 = .ok (.iload_n 1, 1) := by decide +kernel
theorem dX11_may_2 : decode cX11_may 2 = .ok (.iload_n 2, 1) := by decide +kernel
theorem dX11_may_3 : decode cX11_may 3 = .ok (.invokevirtual 230, 3) := by decide +kernel
theorem dX11_may_6 : decode cX11_may 6 = .ok (.ifCond .eq 19, 3) := by decide +kernel
theorem dX11_may_9 : decode cX11_may 9 = .ok (.aload_n 0, 1) := by decide +kernel
theorem dX11_may_10 : decode cX11_may 10 = .ok (.getfield 41, 3) := by decide +kernel
theorem dX11_may_13 : decode cX11_may 13 = .ok (.iload_n 1, 1) := by decide +kernel
theorem dX11_may_14 : decode cX11_may 14 = .ok (.iload_n 2, 1) := by decide +kernel
theorem dX11_may_15 : decode cX11_may 15 = .ok (.invokevirtual 249, 3) := by decide +kernel
theorem dX11_may_18 : decode cX11_may 18 = .ok (.ifCond .eq 7, 3) := by decide +kernel
theorem dX11_may_21 : decode cX11_may 21 = .ok (.iconst 1, 1) := by decide +kernel
theorem dX11_may_22 : decode cX11_may 22 = .ok (.goto 4, 3) := by decide +kernel
theorem dX11_may_25 : decode cX11_may 25 = .ok (.iconst 0, 1) := by decide +kernel
theorem dX11_may_26 : decode cX11_may 26 = .ok (.ireturn, 1) := by decide +kernel
theorem dX11_liking_0 : decode cX11_liking 0 = .ok (.aload_n 0, 1) := by decide +kernel
theorem dX11_liking_1 : decode cX11_liking 1 = .ok (.getfield 12, 3) := by decide +kernel
theorem dX11_liking_4 : decode cX11_liking 4 = .ok (.getfield 89, 3) := by decide +kernel
theorem dX11_liking_7 : decode cX11_liking 7 = .ok (.astore_n 3, 1) := by decide +kernel
theorem dX11_liking_8 : decode cX11_liking 8 = .ok (.aload_n 3, 1) := by decide +kernel
theorem dX11_liking_9 : decode cX11_liking 9 = .ok (.iload_n 1, 1) := by decide +kernel
theorem dX11_liking_10 : decode cX11_liking 10 = .ok (.invokevirtual 123, 3) := by decide +kernel
theorem dX11_liking_13 : decode cX11_liking 13 = .ok (.ifCond .eq 26, 3) := by decide +kernel
theorem dX11_liking_16 : decode cX11_liking 16 = .ok (.aload_n 3, 1) := by decide +kernel
theorem dX11_liking_17 : decode cX11_liking 17 = .ok (.iload_n 2, 1) := by decide +kernel
theorem dX11_liking_18 : decode cX11_liking 18 = .ok (.invokevirtual 123, 3) := by decide +kernel
theorem dX11_liking_21 : decode cX11_liking 21 = .ok (.ifCond .eq 18, 3) := by decide +kernel
theorem dX11_liking_24 : decode cX11_liking 24 = .ok (.aload_n 3, 1) := by decide +kernel
theorem dX11_liking_25 : decode cX11_liking 25 = .ok (.getfield 171, 3) := by decide +kernel
theorem dX11_liking_28 : decode cX11_liking 28 = .ok (.iload_n 1, 1) := by decide +kernel
theorem dX11_liking_29 : decode cX11_liking 29 = .ok (.iaload, 1) := by decide +kernel
theorem dX11_liking_30 : decode cX11_liking 30 = .ok (.aload_n 3, 1) := by decide +kernel
theorem dX11_liking_31 : decode cX11_liking 31 = .ok (.getfield 171, 3) := by decide +kernel
theorem dX11_liking_34 : decode cX11_liking 34 = .ok (.iload_n 2, 1) := by decide +kernel
theorem dX11_liking_35 : decode cX11_liking 35 = .ok (.iaload, 1) := by decide +kernel
theorem dX11_liking_36 : decode cX11_liking 36 = .ok (.if_icmp .ne 6, 3) := by decide +kernel
theorem dX11_liking_39 : decode cX11_liking 39 = .ok (.ldc 252, 2) := by decide +kernel
theorem dX11_liking_41 : decode cX11_liking 41 = .ok (.ireturn, 1) := by decide +kernel
theorem dX11_liking_42 : decode cX11_liking 42 = .ok (.aload_n 0, 1) := by decide +kernel
theorem dX11_liking_43 : decode cX11_liking 43 = .ok (.getfield 41, 3) := by decide +kernel
theorem dX11_liking_46 : decode cX11_liking 46 = .ok (.iload_n 1, 1) := by decide +kernel
theorem dX11_liking_47 : decode cX11_liking 47 = .ok (.iload_n 2, 1) := by decide +kernel
theorem dX11_liking_48 : decode cX11_liking 48 = .ok (.invokevirtual 253, 3) := by decide +kernel
theorem dX11_liking_51 : decode cX11_liking 51 = .ok (.ireturn, 1) := by decide +kernel
theorem dX11_ask_0 : decode cX11_ask 0 = .ok (.aload_n 0, 1) := by decide +kernel
theorem dX11_ask_1 : decode cX11_ask 1 = .ok (.iload_n 1, 1) := by decide +kernel
theorem dX11_ask_2 : decode cX11_ask 2 = .ok (.iload_n 2, 1) := by decide +kernel
theorem dX11_ask_3 : decode cX11_ask 3 = .ok (.invokevirtual 230, 3) := by decide +kernel
theorem dX11_ask_6 : decode cX11_ask 6 = .ok (.ifCond .eq 31, 3) := by decide +kernel
theorem dX11_ask_9 : decode cX11_ask 9 = .ok (.aload_n 0, 1) := by decide +kernel
theorem dX11_ask_10 : decode cX11_ask 10 = .ok (.getfield 12, 3) := by decide +kernel
theorem dX11_ask_13 : decode cX11_ask 13 = .ok (.getfield 89, 3) := by decide +kernel
theorem dX11_ask_16 : decode cX11_ask 16 = .ok (.iload_n 1, 1) := by decide +kernel
theorem dX11_ask_17 : decode cX11_ask 17 = .ok (.invokevirtual 187, 3) := by decide +kernel
theorem dX11_ask_20 : decode cX11_ask 20 = .ok (.ifCond .eq 17, 3) := by decide +kernel
theorem dX11_ask_23 : decode cX11_ask 23 = .ok (.aload_n 0, 1) := by decide +kernel
theorem dX11_ask_24 : decode cX11_ask 24 = .ok (.getfield 12, 3) := by decide +kernel
theorem dX11_ask_27 : decode cX11_ask 27 = .ok (.getfield 89, 3) := by decide +kernel
theorem dX11_ask_30 : decode cX11_ask 30 = .ok (.iload_n 2, 1) := by decide +kernel
theorem dX11_ask_31 : decode cX11_ask 31 = .ok (.invokevirtual 187, 3) := by decide +kernel
theorem dX11_ask_34 : decode cX11_ask 34 = .ok (.ifCond .ne 5, 3) := by decide +kernel
theorem dX11_ask_37 : decode cX11_ask 37 = .ok (.iconst (-1), 1) := by decide +kernel
theorem dX11_ask_38 : decode cX11_ask 38 = .ok (.ireturn, 1) := by decide +kernel
theorem dX11_ask_39 : decode cX11_ask 39 = .ok (.aload_n 0, 1) := by decide +kernel
theorem dX11_ask_40 : decode cX11_ask 40 = .ok (.getfield 12, 3) := by decide +kernel
theorem dX11_ask_43 : decode cX11_ask 43 = .ok (.getfield 140, 3) := by decide +kernel
theorem dX11_ask_46 : decode cX11_ask 46 = .ok (.invokevirtual 256, 3) := by decide +kernel
theorem dX11_ask_49 : decode cX11_ask 49 = .ok (.ifCond .ne 15, 3) := by decide +kernel
theorem dX11_ask_52 : decode cX11_ask 52 = .ok (.aload_n 0, 1) := by decide +kernel
theorem dX11_ask_53 : decode cX11_ask 53 = .ok (.getfield 41, 3) := by decide +kernel
theorem dX11_ask_56 : decode cX11_ask 56 = .ok (.iload_n 1, 1) := by decide +kernel
theorem dX11_ask_57 : decode cX11_ask 57 = .ok (.iload_n 2, 1) := by decide +kernel
theorem dX11_ask_58 : decode cX11_ask 58 = .ok (.invokevirtual 249, 3) := by decide +kernel
theorem dX11_ask_61 : decode cX11_ask 61 = .ok (.ifCond .ne 5, 3) := by decide +kernel
theorem dX11_ask_64 : decode cX11_ask 64 = .ok (.iconst (-1), 1) := by decide +kernel
theorem dX11_ask_65 : decode cX11_ask 65 = .ok (.ireturn, 1) := by decide +kernel
theorem dX11_ask_66 : decode cX11_ask 66 = .ok (.aload_n 0, 1) := by decide +kernel
theorem dX11_ask_67 : decode cX11_ask 67 = .ok (.getfield 12, 3) := by decide +kernel
theorem dX11_ask_70 : decode cX11_ask 70 = .ok (.getfield 140, 3) := by decide +kernel
theorem dX11_ask_73 : decode cX11_ask 73 = .ok (.iload_n 1, 1) := by decide +kernel
theorem dX11_ask_74 : decode cX11_ask 74 = .ok (.iload_n 2, 1) := by decide +kernel
theorem dX11_ask_75 : decode cX11_ask 75 = .ok (.aload_n 0, 1) := by decide +kernel
theorem dX11_ask_76 : decode cX11_ask 76 = .ok (.getfield 12, 3) := by decide +kernel
theorem dX11_ask_79 : decode cX11_ask 79 = .ok (.getfield 85, 3) := by decide +kernel
theorem dX11_ask_82 : decode cX11_ask 82 = .ok (.invokevirtual 260, 3) := by decide +kernel
theorem dX11_ask_85 : decode cX11_ask 85 = .ok (.istore_n 3, 1) := by decide +kernel
theorem dX11_ask_86 : decode cX11_ask 86 = .ok (.aload_n 0, 1) := by decide +kernel
theorem dX11_ask_87 : decode cX11_ask 87 = .ok (.getfield 12, 3) := by decide +kernel
theorem dX11_ask_90 : decode cX11_ask 90 = .ok (.getfield 140, 3) := by decide +kernel
theorem dX11_ask_93 : decode cX11_ask 93 = .ok (.getfield 261, 3) := by decide +kernel
theorem dX11_ask_96 : decode cX11_ask 96 = .ok (.iload_n 3, 1) := by decide +kernel
theorem dX11_ask_97 : decode cX11_ask 97 = .ok (.aload_n 0, 1) := by decide +kernel
theorem dX11_ask_98 : decode cX11_ask 98 = .ok (.getfield 41, 3) := by decide +kernel
theorem dX11_ask_101 : decode cX11_ask 101 = .ok (.getfield 263, 3) := by decide +kernel
theorem dX11_ask_104 : decode cX11_ask 104 = .ok (.iastore, 1) := by decide +kernel
theorem dX11_ask_105 : decode cX11_ask 105 = .ok (.aload_n 0, 1) := by decide +kernel
theorem dX11_ask_106 : decode cX11_ask 106 = .ok (.getfield 12, 3) := by decide +kernel
theorem dX11_ask_109 : decode cX11_ask 109 = .ok (.getfield 140, 3) := by decide +kernel
theorem dX11_ask_112 : decode cX11_ask 112 = .ok (.getfield 266, 3) := by decide +kernel
theorem dX11_ask_115 : decode cX11_ask 115 = .ok (.iload_n 3, 1) := by decide +kernel
theorem dX11_ask_116 : decode cX11_ask 116 = .ok (.aload_n 0, 1) := by decide +kernel
theorem dX11_ask_117 : decode cX11_ask 117 = .ok (.getfield 41, 3) := by decide +kernel
theorem dX11_ask_120 : decode cX11_ask 120 = .ok (.getfield 268, 3) := by decide +kernel
theorem dX11_ask_123 : decode cX11_ask 123 = .ok (.iastore, 1) := by decide +kernel
theorem dX11_ask_124 : decode cX11_ask 124 = .ok (.aload_n 0, 1) := by decide +kernel
theorem dX11_ask_125 : decode cX11_ask 125 = .ok (.getfield 12, 3) := by decide +kernel
theorem dX11_ask_128 : decode cX11_ask 128 = .ok (.getfield 89, 3) := by decide +kernel
theorem dX11_ask_131 : decode cX11_ask 131 = .ok (.getfield 137, 3) := by decide +kernel
theorem dX11_ask_134 : decode cX11_ask 134 = .ok (.iload_n 1, 1) := by decide +kernel
theorem dX11_ask_135 : decode cX11_ask 135 = .ok (.iload_n 3, 1) := by decide +kernel
theorem dX11_ask_136 : decode cX11_ask 136 = .ok (.iastore, 1) := by decide +kernel
theorem dX11_ask_137 : decode cX11_ask 137 = .ok (.aload_n 0, 1) := by decide +kernel
theorem dX11_ask_138 : decode cX11_ask 138 = .ok (.getfield 12, 3) := by decide +kernel
theorem dX11_ask_141 : decode cX11_ask 141 = .ok (.getfield 89, 3) := by decide +kernel
theorem dX11_ask_144 : decode cX11_ask 144 = .ok (.getfield 137, 3) := by decide +kernel
theorem dX11_ask_147 : decode cX11_ask 147 = .ok (.iload_n 2, 1) := by decide +kernel
theorem dX11_ask_148 : decode cX11_ask 148 = .ok (.iload_n 3, 1) := by decide +kernel
theorem dX11_ask_149 : decode cX11_ask 149 = .ok (.iastore, 1) := by decide +kernel
theorem dX11_ask_150 : decode cX11_ask 150 = .ok (.iload_n 3, 1) := by decide +kernel
theorem dX11_ask_151 : decode cX11_ask 151 = .ok (.ireturn, 1) := by decide +kernel
theorem dX11_promise_0 : decode cX11_promise 0 = .ok (.aload_n 0, 1) := by decide +kernel
theorem dX11_promise_1 : decode cX11_promise 1 = .ok (.getfield 12, 3) := by decide +kernel
theorem dX11_promise_4 : decode cX11_promise 4 = .ok (.getfield 140, 3) := by decide +kernel
theorem dX11_promise_7 : decode cX11_promise 7 = .ok (.astore_n 2, 1) := by decide +kernel
theorem dX11_promise_8 : decode cX11_promise 8 = .ok (.aload_n 2, 1) := by decide +kernel
theorem dX11_promise_9 : decode cX11_promise 9 = .ok (.iload_n 1, 1) := by decide +kernel
theorem dX11_promise_10 : decode cX11_promise 10 = .ok (.iconst 0, 1) := by decide +kernel
theorem dX11_promise_11 : decode cX11_promise 11 = .ok (.invokevirtual 271, 3) := by decide +kernel
theorem dX11_promise_14 : decode cX11_promise 14 = .ok (.ifCond .ne 5, 3) := by decide +kernel
theorem dX11_promise_17 : decode cX11_promise 17 = .ok (.iconst 0, 1) := by decide +kernel
theorem dX11_promise_18 : decode cX11_promise 18 = .ok (.ireturn, 1) := by decide +kernel
theorem dX11_promise_19 : decode cX11_promise 19 = .ok (.aload_n 2, 1) := by decide +kernel
theorem dX11_promise_20 : decode cX11_promise 20 = .ok (.getfield 261, 3) := by decide +kernel
theorem dX11_promise_23 : decode cX11_promise 23 = .ok (.iload_n 1, 1) := by decide +kernel
theorem dX11_promise_24 : decode cX11_promise 24 = .ok (.iaload, 1) := by decide +kernel
theorem dX11_promise_25 : decode cX11_promise 25 = .ok (.iconst 2, 1) := by decide +kernel
theorem dX11_promise_26 : decode cX11_promise 26 = .ok (.idiv, 1) := by decide +kernel
theorem dX11_promise_27 : decode cX11_promise 27 = .ok (.istore_n 3, 1) := by decide +kernel
theorem dX11_promise_28 : decode cX11_promise 28 = .ok (.aload_n 0, 1) := by decide +kernel
theorem dX11_promise_29 : decode cX11_promise 29 = .ok (.getfield 12, 3) := by decide +kernel
theorem dX11_promise_32 : decode cX11_promise 32 = .ok (.getfield 72, 3) := by decide +kernel
theorem dX11_promise_35 : decode cX11_promise 35 = .ok (.aload_n 0, 1) := by decide +kernel
theorem dX11_promise_36 : decode cX11_promise 36 = .ok (.iload_n 1, 1) := by decide +kernel
theorem dX11_promise_37 : decode cX11_promise 37 = .ok (.invokevirtual 274, 3) := by decide +kernel
theorem dX11_promise_40 : decode cX11_promise 40 = .ok (.aload_n 0, 1) := by decide +kernel
theorem dX11_promise_41 : decode cX11_promise 41 = .ok (.iload_n 1, 1) := by decide +kernel
theorem dX11_promise_42 : decode cX11_promise 42 = .ok (.invokevirtual 277, 3) := by decide +kernel
theorem dX11_promise_45 : decode cX11_promise 45 = .ok (.iload_n 3, 1) := by decide +kernel
theorem dX11_promise_46 : decode cX11_promise 46 = .ok (.invokevirtual 280, 3) := by decide +kernel
theorem dX11_promise_49 : decode cX11_promise 49 = .ok (.ifCond .ne 5, 3) := by decide +kernel
theorem dX11_promise_52 : decode cX11_promise 52 = .ok (.iconst 0, 1) := by decide +kernel
theorem dX11_promise_53 : decode cX11_promise 53 = .ok (.ireturn, 1) := by decide +kernel
theorem dX11_promise_54 : decode cX11_promise 54 = .ok (.aload_n 2, 1) := by decide +kernel
theorem dX11_promise_55 : decode cX11_promise 55 = .ok (.getfield 283, 3) := by decide +kernel
theorem dX11_promise_58 : decode cX11_promise 58 = .ok (.iload_n 1, 1) := by decide +kernel
theorem dX11_promise_59 : decode cX11_promise 59 = .ok (.iload_n 3, 1) := by decide +kernel
theorem dX11_promise_60 : decode cX11_promise 60 = .ok (.iastore, 1) := by decide +kernel
theorem dX11_promise_61 : decode cX11_promise 61 = .ok (.aload_n 2, 1) := by decide +kernel
theorem dX11_promise_62 : decode cX11_promise 62 = .ok (.iload_n 1, 1) := by decide +kernel
theorem dX11_promise_63 : decode cX11_promise 63 = .ok (.iconst 1, 1) := by decide +kernel
theorem dX11_promise_64 : decode cX11_promise 64 = .ok (.aload_n 0, 1) := by decide +kernel
theorem dX11_promise_65 : decode cX11_promise 65 = .ok (.getfield 12, 3) := by decide +kernel
theorem dX11_promise_68 : decode cX11_promise 68 = .ok (.getfield 85, 3) := by decide +kernel
theorem dX11_promise_71 : decode cX11_promise 71 = .ok (.invokevirtual 286, 3) := by decide +kernel
theorem dX11_promise_74 : decode cX11_promise 74 = .ok (.iconst 1, 1) := by decide +kernel
theorem dX11_promise_75 : decode cX11_promise 75 = .ok (.ireturn, 1) := by decide +kernel
theorem dX11_wed_0 : decode cX11_wed 0 = .ok (.aload_n 0, 1) := by decide +kernel
theorem dX11_wed_1 : decode cX11_wed 1 = .ok (.getfield 12, 3) := by decide +kernel
theorem dX11_wed_4 : decode cX11_wed 4 = .ok (.getfield 140, 3) := by decide +kernel
theorem dX11_wed_7 : decode cX11_wed 7 = .ok (.astore_n 2, 1) := by decide +kernel
theorem dX11_wed_8 : decode cX11_wed 8 = .ok (.aload_n 2, 1) := by decide +kernel
theorem dX11_wed_9 : decode cX11_wed 9 = .ok (.iload_n 1, 1) := by decide +kernel
theorem dX11_wed_10 : decode cX11_wed 10 = .ok (.iconst 1, 1) := by decide +kernel
theorem dX11_wed_11 : decode cX11_wed 11 = .ok (.invokevirtual 271, 3) := by decide +kernel
theorem dX11_wed_14 : decode cX11_wed 14 = .ok (.ifCond .ne 5, 3) := by decide +kernel
theorem dX11_wed_17 : decode cX11_wed 17 = .ok (.iconst 0, 1) := by decide +kernel
theorem dX11_wed_18 : decode cX11_wed 18 = .ok (.ireturn, 1) := by decide +kernel
theorem dX11_wed_19 : decode cX11_wed 19 = .ok (.aload_n 2, 1) := by decide +kernel
theorem dX11_wed_20 : decode cX11_wed 20 = .ok (.getfield 289, 3) := by decide +kernel
theorem dX11_wed_23 : decode cX11_wed 23 = .ok (.iload_n 1, 1) := by decide +kernel
theorem dX11_wed_24 : decode cX11_wed 24 = .ok (.iaload, 1) := by decide +kernel
theorem dX11_wed_25 : decode cX11_wed 25 = .ok (.istore_n 3, 1) := by decide +kernel
theorem dX11_wed_26 : decode cX11_wed 26 = .ok (.aload_n 2, 1) := by decide +kernel
theorem dX11_wed_27 : decode cX11_wed 27 = .ok (.getfield 292, 3) := by decide +kernel
theorem dX11_wed_30 : decode cX11_wed 30 = .ok (.iload_n 1, 1) := by decide +kernel
theorem dX11_wed_31 : decode cX11_wed 31 = .ok (.iaload, 1) := by decide +kernel
theorem dX11_wed_32 : decode cX11_wed 32 = .ok (.istore 4, 2) := by decide +kernel
theorem dX11_wed_34 : decode cX11_wed 34 = .ok (.aload_n 2, 1) := by decide +kernel
theorem dX11_wed_35 : decode cX11_wed 35 = .ok (.getfield 261, 3) := by decide +kernel
theorem dX11_wed_38 : decode cX11_wed 38 = .ok (.iload_n 1, 1) := by decide +kernel
theorem dX11_wed_39 : decode cX11_wed 39 = .ok (.iaload, 1) := by decide +kernel
theorem dX11_wed_40 : decode cX11_wed 40 = .ok (.aload_n 2, 1) := by decide +kernel
theorem dX11_wed_41 : decode cX11_wed 41 = .ok (.getfield 283, 3) := by decide +kernel
theorem dX11_wed_44 : decode cX11_wed 44 = .ok (.iload_n 1, 1) := by decide +kernel
theorem dX11_wed_45 : decode cX11_wed 45 = .ok (.iaload, 1) := by decide +kernel
theorem dX11_wed_46 : decode cX11_wed 46 = .ok (.isub, 1) := by decide +kernel
theorem dX11_wed_47 : decode cX11_wed 47 = .ok (.istore 5, 2) := by decide +kernel
theorem dX11_wed_49 : decode cX11_wed 49 = .ok (.aload_n 0, 1) := by decide +kernel
theorem dX11_wed_50 : decode cX11_wed 50 = .ok (.iload_n 1, 1) := by decide +kernel
theorem dX11_wed_51 : decode cX11_wed 51 = .ok (.invokevirtual 277, 3) := by decide +kernel
theorem dX11_wed_54 : decode cX11_wed 54 = .ok (.istore 6, 2) := by decide +kernel
theorem dX11_wed_56 : decode cX11_wed 56 = .ok (.aload_n 0, 1) := by decide +kernel
theorem dX11_wed_57 : decode cX11_wed 57 = .ok (.iload_n 1, 1) := by decide +kernel
theorem dX11_wed_58 : decode cX11_wed 58 = .ok (.invokevirtual 274, 3) := by decide +kernel
theorem dX11_wed_61 : decode cX11_wed 61 = .ok (.istore 7, 2) := by decide +kernel
theorem dX11_wed_63 : decode cX11_wed 63 = .ok (.aload_n 0, 1) := by decide +kernel
theorem dX11_wed_64 : decode cX11_wed 64 = .ok (.getfield 41, 3) := by decide +kernel
theorem dX11_wed_67 : decode cX11_wed 67 = .ok (.iload_n 3, 1) := by decide +kernel
theorem dX11_wed_68 : decode cX11_wed 68 = .ok (.iload 4, 2) := by decide +kernel
theorem dX11_wed_70 : decode cX11_wed 70 = .ok (.invokevirtual 249, 3) := by decide +kernel
theorem dX11_wed_73 : decode cX11_wed 73 = .ok (.ifCond .eq 22, 3) := by decide +kernel
theorem dX11_wed_76 : decode cX11_wed 76 = .ok (.aload_n 0, 1) := by decide +kernel
theorem dX11_wed_77 : decode cX11_wed 77 = .ok (.getfield 12, 3) := by decide +kernel
theorem dX11_wed_80 : decode cX11_wed 80 = .ok (.getfield 72, 3) := by decide +kernel
theorem dX11_wed_83 : decode cX11_wed 83 = .ok (.iload 7, 2) := by decide +kernel
theorem dX11_wed_85 : decode cX11_wed 85 = .ok (.iload 6, 2) := by decide +kernel
theorem dX11_wed_87 : decode cX11_wed 87 = .ok (.iload 5, 2) := by decide +kernel
theorem dX11_wed_89 : decode cX11_wed 89 = .ok (.invokevirtual 280, 3) := by decide +kernel
theorem dX11_wed_92 : decode cX11_wed 92 = .ok (.ifCond .ne 5, 3) := by decide +kernel
theorem dX11_wed_95 : decode cX11_wed 95 = .ok (.iconst 0, 1) := by decide +kernel
theorem dX11_wed_96 : decode cX11_wed 96 = .ok (.ireturn, 1) := by decide +kernel
theorem dX11_wed_97 : decode cX11_wed 97 = .ok (.aload_n 2, 1) := by decide +kernel
theorem dX11_wed_98 : decode cX11_wed 98 = .ok (.iload_n 1, 1) := by decide +kernel
theorem dX11_wed_99 : decode cX11_wed 99 = .ok (.aload_n 0, 1) := by decide +kernel
theorem dX11_wed_100 : decode cX11_wed 100 = .ok (.getfield 41, 3) := by decide +kernel
theorem dX11_wed_103 : decode cX11_wed 103 = .ok (.getfield 295, 3) := by decide +kernel
theorem dX11_wed_106 : decode cX11_wed 106 = .ok (.aload_n 0, 1) := by decide +kernel
theorem dX11_wed_107 : decode cX11_wed 107 = .ok (.getfield 12, 3) := by decide +kernel
theorem dX11_wed_110 : decode cX11_wed 110 = .ok (.iload 6, 2) := by decide +kernel
theorem dX11_wed_112 : decode cX11_wed 112 = .ok (.invokevirtual 298, 3) := by decide +kernel
theorem dX11_wed_115 : decode cX11_wed 115 = .ok (.aload_n 0, 1) := by decide +kernel
theorem dX11_wed_116 : decode cX11_wed 116 = .ok (.getfield 12, 3) := by decide +kernel
theorem dX11_wed_119 : decode cX11_wed 119 = .ok (.iload 7, 2) := by decide +kernel
theorem dX11_wed_121 : decode cX11_wed 121 = .ok (.invokevirtual 298, 3) := by decide +kernel
theorem dX11_wed_124 : decode cX11_wed 124 = .ok (.invokevirtual 302, 3) := by decide +kernel
theorem dX11_wed_127 : decode cX11_wed 127 = .ok (.aload_n 2, 1) := by decide +kernel
theorem dX11_wed_128 : decode cX11_wed 128 = .ok (.getfield 283, 3) := by decide +kernel
theorem dX11_wed_131 : decode cX11_wed 131 = .ok (.iload_n 1, 1) := by decide +kernel
theorem dX11_wed_132 : decode cX11_wed 132 = .ok (.aload_n 2, 1) := by decide +kernel
theorem dX11_wed_133 : decode cX11_wed 133 = .ok (.getfield 261, 3) := by decide +kernel
theorem dX11_wed_136 : decode cX11_wed 136 = .ok (.iload_n 1, 1) := by decide +kernel
theorem dX11_wed_137 : decode cX11_wed 137 = .ok (.iaload, 1) := by decide +kernel
theorem dX11_wed_138 : decode cX11_wed 138 = .ok (.iastore, 1) := by decide +kernel
theorem dX11_wed_139 : decode cX11_wed 139 = .ok (.aload_n 0, 1) := by decide +kernel
theorem dX11_wed_140 : decode cX11_wed 140 = .ok (.getfield 12, 3) := by decide +kernel
theorem dX11_wed_143 : decode cX11_wed 143 = .ok (.getfield 72, 3) := by decide +kernel
theorem dX11_wed_146 : decode cX11_wed 146 = .ok (.iload 6, 2) := by decide +kernel
theorem dX11_wed_148 : decode cX11_wed 148 = .ok (.iload 7, 2) := by decide +kernel
theorem dX11_wed_150 : decode cX11_wed 150 = .ok (.iconst 0, 1) := by decide +kernel
theorem dX11_wed_151 : decode cX11_wed 151 = .ok (.invokevirtual 115, 3) := by decide +kernel
theorem dX11_wed_154 : decode cX11_wed 154 = .ok (.aload_n 0, 1) := by decide +kernel
theorem dX11_wed_155 : decode cX11_wed 155 = .ok (.iload_n 1, 1) := by decide +kernel
theorem dX11_wed_156 : decode cX11_wed 156 = .ok (.iconst 2, 1) := by decide +kernel
theorem dX11_wed_157 : decode cX11_wed 157 = .ok (.invokevirtual 149, 3) := by decide +kernel
theorem dX11_wed_160 : decode cX11_wed 160 = .ok (.aload_n 0, 1) := by decide +kernel
theorem dX11_wed_161 : decode cX11_wed 161 = .ok (.getfield 12, 3) := by decide +kernel
theorem dX11_wed_164 : decode cX11_wed 164 = .ok (.getfield 89, 3) := by decide +kernel
theorem dX11_wed_167 : decode cX11_wed 167 = .ok (.iload_n 3, 1) := by decide +kernel
theorem dX11_wed_168 : decode cX11_wed 168 = .ok (.iload 4, 2) := by decide +kernel
theorem dX11_wed_170 : decode cX11_wed 170 = .ok (.invokevirtual 306, 3) := by decide +kernel
theorem dX11_wed_173 : decode cX11_wed 173 = .ok (.iconst 1, 1) := by decide +kernel
theorem dX11_wed_174 : decode cX11_wed 174 = .ok (.ireturn, 1) := by decide +kernel
theorem dX11_breaks_0 : decode cX11_breaks 0 = .ok (.aload_n 0, 1) := by decide +kernel
theorem dX11_breaks_1 : decode cX11_breaks 1 = .ok (.getfield 12, 3) := by decide +kernel
theorem dX11_breaks_4 : decode cX11_breaks 4 = .ok (.getfield 140, 3) := by decide +kernel
theorem dX11_breaks_7 : decode cX11_breaks 7 = .ok (.astore_n 3, 1) := by decide +kernel
theorem dX11_breaks_8 : decode cX11_breaks 8 = .ok (.aload_n 3, 1) := by decide +kernel
theorem dX11_breaks_9 : decode cX11_breaks 9 = .ok (.iload_n 1, 1) := by decide +kernel
theorem dX11_breaks_10 : decode cX11_breaks 10 = .ok (.invokevirtual 144, 3) := by decide +kernel
theorem dX11_breaks_13 : decode cX11_breaks 13 = .ok (.ifCond .ne 5, 3) := by decide +kernel
theorem dX11_breaks_16 : decode cX11_breaks 16 = .ok (.iconst 0, 1) := by decide +kernel
theorem dX11_breaks_17 : decode cX11_breaks 17 = .ok (.ireturn, 1) := by decide +kernel
theorem dX11_breaks_18 : decode cX11_breaks 18 = .ok (.iload_n 2, 1) := by decide +kernel
theorem dX11_breaks_19 : decode cX11_breaks 19 = .ok (.ifCond .eq 72, 3) := by decide +kernel
theorem dX11_breaks_22 : decode cX11_breaks 22 = .ok (.aload_n 3, 1) := by decide +kernel
theorem dX11_breaks_23 : decode cX11_breaks 23 = .ok (.getfield 309, 3) := by decide +kernel
theorem dX11_breaks_26 : decode cX11_breaks 26 = .ok (.iload_n 1, 1) := by decide +kernel
theorem dX11_breaks_27 : decode cX11_breaks 27 = .ok (.iaload, 1) := by decide +kernel
theorem dX11_breaks_28 : decode cX11_breaks 28 = .ok (.iconst 1, 1) := by decide +kernel
theorem dX11_breaks_29 : decode cX11_breaks 29 = .ok (.if_icmp .ne 62, 3) := by decide +kernel
theorem dX11_breaks_32 : decode cX11_breaks 32 = .ok (.aload_n 3, 1) := by decide +kernel
theorem dX11_breaks_33 : decode cX11_breaks 33 = .ok (.getfield 283, 3) := by decide +kernel
theorem dX11_breaks_36 : decode cX11_breaks 36 = .ok (.iload_n 1, 1) := by decide +kernel
theorem dX11_breaks_37 : decode cX11_breaks 37 = .ok (.iaload, 1) := by decide +kernel
theorem dX11_breaks_38 : decode cX11_breaks 38 = .ok (.istore 4, 2) := by decide +kernel
theorem dX11_breaks_40 : decode cX11_breaks 40 = .ok (.iload 4, 2) := by decide +kernel
theorem dX11_breaks_42 : decode cX11_breaks 42 = .ok (.iload 4, 2) := by decide +kernel
theorem dX11_breaks_44 : decode cX11_breaks 44 = .ok (.aload_n 3, 1) := by decide +kernel
theorem dX11_breaks_45 : decode cX11_breaks 45 = .ok (.getfield 266, 3) := by decide +kernel
theorem dX11_breaks_48 : decode cX11_breaks 48 = .ok (.iload_n 1, 1) := by decide +kernel
theorem dX11_breaks_49 : decode cX11_breaks 49 = .ok (.iaload, 1) := by decide +kernel
theorem dX11_breaks_50 : decode cX11_breaks 50 = .ok (.imul, 1) := by decide +kernel
theorem dX11_breaks_51 : decode cX11_breaks 51 = .ok (.bipush 100, 2) := by decide +kernel
theorem dX11_breaks_53 : decode cX11_breaks 53 = .ok (.idiv, 1) := by decide +kernel
theorem dX11_breaks_54 : decode cX11_breaks 54 = .ok (.iadd, 1) := by decide +kernel
theorem dX11_breaks_55 : decode cX11_breaks 55 = .ok (.istore 5, 2) := by decide +kernel
theorem dX11_breaks_57 : decode cX11_breaks 57 = .ok (.aload_n 0, 1) := by decide +kernel
theorem dX11_breaks_58 : decode cX11_breaks 58 = .ok (.getfield 12, 3) := by decide +kernel
theorem dX11_breaks_61 : decode cX11_breaks 61 = .ok (.getfield 72, 3) := by decide +kernel
theorem dX11_breaks_64 : decode cX11_breaks 64 = .ok (.aload_n 0, 1) := by decide +kernel
theorem dX11_breaks_65 : decode cX11_breaks 65 = .ok (.iload_n 1, 1) := by decide +kernel
theorem dX11_breaks_66 : decode cX11_breaks 66 = .ok (.invokevirtual 277, 3) := by decide +kernel
theorem dX11_breaks_69 : decode cX11_breaks 69 = .ok (.aload_n 0, 1) := by decide +kernel
theorem dX11_breaks_70 : decode cX11_breaks 70 = .ok (.iload_n 1, 1) := by decide +kernel
theorem dX11_breaks_71 : decode cX11_breaks 71 = .ok (.invokevirtual 274, 3) := by decide +kernel
theorem dX11_breaks_74 : decode cX11_breaks 74 = .ok (.iload 5, 2) := by decide +kernel
theorem dX11_breaks_76 : decode cX11_breaks 76 = .ok (.invokevirtual 280, 3) := by decide +kernel
theorem dX11_breaks_79 : decode cX11_breaks 79 = .ok (.ifCond .ne 5, 3) := by decide +kernel
theorem dX11_breaks_82 : decode cX11_breaks 82 = .ok (.iconst 0, 1) := by decide +kernel
theorem dX11_breaks_83 : decode cX11_breaks 83 = .ok (.ireturn, 1) := by decide +kernel
theorem dX11_breaks_84 : decode cX11_breaks 84 = .ok (.aload_n 3, 1) := by decide +kernel
theorem dX11_breaks_85 : decode cX11_breaks 85 = .ok (.getfield 283, 3) := by decide +kernel
theorem dX11_breaks_88 : decode cX11_breaks 88 = .ok (.iload_n 1, 1) := by decide +kernel
theorem dX11_breaks_89 : decode cX11_breaks 89 = .ok (.iconst 0, 1) := by decide +kernel
theorem dX11_breaks_90 : decode cX11_breaks 90 = .ok (.iastore, 1) := by decide +kernel
theorem dX11_breaks_91 : decode cX11_breaks 91 = .ok (.aload_n 0, 1) := by decide +kernel
theorem dX11_breaks_92 : decode cX11_breaks 92 = .ok (.iload_n 1, 1) := by decide +kernel
theorem dX11_breaks_93 : decode cX11_breaks 93 = .ok (.iconst 3, 1) := by decide +kernel
theorem dX11_breaks_94 : decode cX11_breaks 94 = .ok (.invokevirtual 149, 3) := by decide +kernel
theorem dX11_breaks_97 : decode cX11_breaks 97 = .ok (.iconst 1, 1) := by decide +kernel
theorem dX11_breaks_98 : decode cX11_breaks 98 = .ok (.ireturn, 1) := by decide +kernel
theorem dX11_match_0 : decode cX11_match 0 = .ok (.aload_n 0, 1) := by decide +kernel
theorem dX11_match_1 : decode cX11_match 1 = .ok (.getfield 12, 3) := by decide +kernel
theorem dX11_match_4 : decode cX11_match 4 = .ok (.getfield 140, 3) := by decide +kernel
theorem dX11_match_7 : decode cX11_match 7 = .ok (.astore_n 3, 1) := by decide +kernel
theorem dX11_match_8 : decode cX11_match 8 = .ok (.aload_n 3, 1) := by decide +kernel
theorem dX11_match_9 : decode cX11_match 9 = .ok (.iload_n 1, 1) := by decide +kernel
theorem dX11_match_10 : decode cX11_match 10 = .ok (.invokevirtual 312, 3) := by decide +kernel
theorem dX11_match_13 : decode cX11_match 13 = .ok (.ifCond .ne 5, 3) := by decide +kernel
theorem dX11_match_16 : decode cX11_match 16 = .ok (.iconst (-1), 1) := by decide +kernel
theorem dX11_match_17 : decode cX11_match 17 = .ok (.ireturn, 1) := by decide +kernel
theorem dX11_match_18 : decode cX11_match 18 = .ok (.iload_n 2, 1) := by decide +kernel
theorem dX11_match_19 : decode cX11_match 19 = .ok (.tableswitch 117 0 8 #[49, 56, 63, 70, 77, 84, 91, 98, 105], 49) := by decide +kernel
theorem dX11_match_68 : decode cX11_match 68 = .ok (.aload_n 3, 1) := by decide +kernel
theorem dX11_match_69 : decode cX11_match 69 = .ok (.getfield 289, 3) := by decide +kernel
theorem dX11_match_72 : decode cX11_match 72 = .ok (.iload_n 1, 1) := by decide +kernel
theorem dX11_match_73 : decode cX11_match 73 = .ok (.iaload, 1) := by decide +kernel
theorem dX11_match_74 : decode cX11_match 74 = .ok (.ireturn, 1) := by decide +kernel
theorem dX11_match_75 : decode cX11_match 75 = .ok (.aload_n 3, 1) := by decide +kernel
theorem dX11_match_76 : decode cX11_match 76 = .ok (.getfield 292, 3) := by decide +kernel
theorem dX11_match_79 : decode cX11_match 79 = .ok (.iload_n 1, 1) := by decide +kernel
theorem dX11_match_80 : decode cX11_match 80 = .ok (.iaload, 1) := by decide +kernel
theorem dX11_match_81 : decode cX11_match 81 = .ok (.ireturn, 1) := by decide +kernel
theorem dX11_match_82 : decode cX11_match 82 = .ok (.aload_n 3, 1) := by decide +kernel
theorem dX11_match_83 : decode cX11_match 83 = .ok (.getfield 309, 3) := by decide +kernel
theorem dX11_match_86 : decode cX11_match 86 = .ok (.iload_n 1, 1) := by decide +kernel
theorem dX11_match_87 : decode cX11_match 87 = .ok (.iaload, 1) := by decide +kernel
theorem dX11_match_88 : decode cX11_match 88 = .ok (.ireturn, 1) := by decide +kernel
theorem dX11_match_89 : decode cX11_match 89 = .ok (.aload_n 3, 1) := by decide +kernel
theorem dX11_match_90 : decode cX11_match 90 = .ok (.getfield 261, 3) := by decide +kernel
theorem dX11_match_93 : decode cX11_match 93 = .ok (.iload_n 1, 1) := by decide +kernel
theorem dX11_match_94 : decode cX11_match 94 = .ok (.iaload, 1) := by decide +kernel
theorem dX11_match_95 : decode cX11_match 95 = .ok (.ireturn, 1) := by decide +kernel
theorem dX11_match_96 : decode cX11_match 96 = .ok (.aload_n 3, 1) := by decide +kernel
theorem dX11_match_97 : decode cX11_match 97 = .ok (.getfield 266, 3) := by decide +kernel
theorem dX11_match_100 : decode cX11_match 100 = .ok (.iload_n 1, 1) := by decide +kernel
theorem dX11_match_101 : decode cX11_match 101 = .ok (.iaload, 1) := by decide +kernel
theorem dX11_match_102 : decode cX11_match 102 = .ok (.ireturn, 1) := by decide +kernel
theorem dX11_match_103 : decode cX11_match 103 = .ok (.aload_n 3, 1) := by decide +kernel
theorem dX11_match_104 : decode cX11_match 104 = .ok (.getfield 283, 3) := by decide +kernel
theorem dX11_match_107 : decode cX11_match 107 = .ok (.iload_n 1, 1) := by decide +kernel
theorem dX11_match_108 : decode cX11_match 108 = .ok (.iaload, 1) := by decide +kernel
theorem dX11_match_109 : decode cX11_match 109 = .ok (.ireturn, 1) := by decide +kernel
theorem dX11_match_110 : decode cX11_match 110 = .ok (.aload_n 3, 1) := by decide +kernel
theorem dX11_match_111 : decode cX11_match 111 = .ok (.getfield 313, 3) := by decide +kernel
theorem dX11_match_114 : decode cX11_match 114 = .ok (.iload_n 1, 1) := by decide +kernel
theorem dX11_match_115 : decode cX11_match 115 = .ok (.iaload, 1) := by decide +kernel
theorem dX11_match_116 : decode cX11_match 116 = .ok (.ireturn, 1) := by decide +kernel
theorem dX11_match_117 : decode cX11_match 117 = .ok (.aload_n 3, 1) := by decide +kernel
theorem dX11_match_118 : decode cX11_match 118 = .ok (.getfield 316, 3) := by decide +kernel
theorem dX11_match_121 : decode cX11_match 121 = .ok (.iload_n 1, 1) := by decide +kernel
theorem dX11_match_122 : decode cX11_match 122 = .ok (.iaload, 1) := by decide +kernel
theorem dX11_match_123 : decode cX11_match 123 = .ok (.ireturn, 1) := by decide +kernel
theorem dX11_match_124 : decode cX11_match 124 = .ok (.aload_n 0, 1) := by decide +kernel
theorem dX11_match_125 : decode cX11_match 125 = .ok (.getfield 41, 3) := by decide +kernel
theorem dX11_match_128 : decode cX11_match 128 = .ok (.iload_n 1, 1) := by decide +kernel
theorem dX11_match_129 : decode cX11_match 129 = .ok (.invokevirtual 319, 3) := by decide +kernel
theorem dX11_match_132 : decode cX11_match 132 = .ok (.invokestatic 177, 3) := by decide +kernel
theorem dX11_match_135 : decode cX11_match 135 = .ok (.ireturn, 1) := by decide +kernel
theorem dX11_match_136 : decode cX11_match 136 = .ok (.iconst (-1), 1) := by decide +kernel
theorem dX11_match_137 : decode cX11_match 137 = .ok (.ireturn, 1) := by decide +kernel
theorem dX11_late_0 : decode cX11_late 0 = .ok (.iload_n 1, 1) := by decide +kernel
theorem dX11_late_1 : decode cX11_late 1 = .ok (.istore_n 2, 1) := by decide +kernel
theorem dX11_late_2 : decode cX11_late 2 = .ok (.iconst 0, 1) := by decide +kernel
theorem dX11_late_3 : decode cX11_late 3 = .ok (.istore_n 3, 1) := by decide +kernel
theorem dX11_late_4 : decode cX11_late 4 = .ok (.iload_n 3, 1) := by decide +kernel
theorem dX11_late_5 : decode cX11_late 5 = .ok (.aload_n 0, 1) := by decide +kernel
theorem dX11_late_6 : decode cX11_late 6 = .ok (.getfield 12, 3) := by decide +kernel
theorem dX11_late_9 : decode cX11_late 9 = .ok (.getfield 140, 3) := by decide +kernel
theorem dX11_late_12 : decode cX11_late 12 = .ok (.getfield 322, 3) := by decide +kernel
theorem dX11_late_15 : decode cX11_late 15 = .ok (.if_icmp .ge 33, 3) := by decide +kernel
theorem dX11_late_18 : decode cX11_late 18 = .ok (.iload_n 2, 1) := by decide +kernel
theorem dX11_late_19 : decode cX11_late 19 = .ok (.ifCond .lt 29, 3) := by decide +kernel
theorem dX11_late_22 : decode cX11_late 22 = .ok (.aload_n 0, 1) := by decide +kernel
theorem dX11_late_23 : decode cX11_late 23 = .ok (.getfield 41, 3) := by decide +kernel
theorem dX11_late_26 : decode cX11_late 26 = .ok (.iload_n 3, 1) := by decide +kernel
theorem dX11_late_27 : decode cX11_late 27 = .ok (.invokevirtual 319, 3) := by decide +kernel
theorem dX11_late_30 : decode cX11_late 30 = .ok (.ifCond .eq 12, 3) := by decide +kernel
theorem dX11_late_33 : decode cX11_late 33 = .ok (.iload_n 2, 1) := by decide +kernel
theorem dX11_late_34 : decode cX11_late 34 = .ok (.ifCond .ne 5, 3) := by decide +kernel
theorem dX11_late_37 : decode cX11_late 37 = .ok (.iload_n 3, 1) := by decide +kernel
theorem dX11_late_38 : decode cX11_late 38 = .ok (.ireturn, 1) := by decide +kernel
theorem dX11_late_39 : decode cX11_late 39 = .ok (.iinc 2 (-1), 3) := by decide +kernel
theorem dX11_late_42 : decode cX11_late 42 = .ok (.iinc 3 1, 3) := by decide +kernel
theorem dX11_late_45 : decode cX11_late 45 = .ok (.goto (-41), 3) := by decide +kernel
theorem dX11_late_48 : decode cX11_late 48 = .ok (.iconst (-1), 1) := by decide +kernel
theorem dX11_late_49 : decode cX11_late 49 = .ok (.ireturn, 1) := by decide +kernel
theorem dX11_parts_0 : decode cX11_parts 0 = .ok (.iload_n 1, 1) := by decide +kernel
theorem dX11_parts_1 : decode cX11_parts 1 = .ok (.istore_n 2, 1) := by decide +kernel
theorem dX11_parts_2 : decode cX11_parts 2 = .ok (.iconst 0, 1) := by decide +kernel
theorem dX11_parts_3 : decode cX11_parts 3 = .ok (.istore_n 3, 1) := by decide +kernel
theorem dX11_parts_4 : decode cX11_parts 4 = .ok (.iload_n 3, 1) := by decide +kernel
theorem dX11_parts_5 : decode cX11_parts 5 = .ok (.aload_n 0, 1) := by decide +kernel
theorem dX11_parts_6 : decode cX11_parts 6 = .ok (.getfield 12, 3) := by decide +kernel
theorem dX11_parts_9 : decode cX11_parts 9 = .ok (.getfield 89, 3) := by decide +kernel
theorem dX11_parts_12 : decode cX11_parts 12 = .ok (.getfield 325, 3) := by decide +kernel
theorem dX11_parts_15 : decode cX11_parts 15 = .ok (.if_icmp .ge 75, 3) := by decide +kernel
theorem dX11_parts_18 : decode cX11_parts 18 = .ok (.iload_n 2, 1) := by decide +kernel
theorem dX11_parts_19 : decode cX11_parts 19 = .ok (.ifCond .lt 71, 3) := by decide +kernel
theorem dX11_parts_22 : decode cX11_parts 22 = .ok (.iconst 0, 1) := by decide +kernel
theorem dX11_parts_23 : decode cX11_parts 23 = .ok (.istore 4, 2) := by decide +kernel
theorem dX11_parts_25 : decode cX11_parts 25 = .ok (.iload 4, 2) := by decide +kernel
theorem dX11_parts_27 : decode cX11_parts 27 = .ok (.aload_n 0, 1) := by decide +kernel
theorem dX11_parts_28 : decode cX11_parts 28 = .ok (.getfield 12, 3) := by decide +kernel
theorem dX11_parts_31 : decode cX11_parts 31 = .ok (.getfield 89, 3) := by decide +kernel
theorem dX11_parts_34 : decode cX11_parts 34 = .ok (.getfield 325, 3) := by decide +kernel
theorem dX11_parts_37 : decode cX11_parts 37 = .ok (.if_icmp .ge 47, 3) := by decide +kernel
theorem dX11_parts_40 : decode cX11_parts 40 = .ok (.aload_n 0, 1) := by decide +kernel
theorem dX11_parts_41 : decode cX11_parts 41 = .ok (.iload_n 3, 1) := by decide +kernel
theorem dX11_parts_42 : decode cX11_parts 42 = .ok (.iload 4, 2) := by decide +kernel
theorem dX11_parts_44 : decode cX11_parts 44 = .ok (.invokevirtual 230, 3) := by decide +kernel
theorem dX11_parts_47 : decode cX11_parts 47 = .ok (.ifCond .eq 31, 3) := by decide +kernel
theorem dX11_parts_50 : decode cX11_parts 50 = .ok (.aload_n 0, 1) := by decide +kernel
theorem dX11_parts_51 : decode cX11_parts 51 = .ok (.getfield 41, 3) := by decide +kernel
theorem dX11_parts_54 : decode cX11_parts 54 = .ok (.iload_n 3, 1) := by decide +kernel
theorem dX11_parts_55 : decode cX11_parts 55 = .ok (.iload 4, 2) := by decide +kernel
theorem dX11_parts_57 : decode cX11_parts 57 = .ok (.invokevirtual 326, 3) := by decide +kernel
theorem dX11_parts_60 : decode cX11_parts 60 = .ok (.ifCond .eq 18, 3) := by decide +kernel
theorem dX11_parts_63 : decode cX11_parts 63 = .ok (.iload_n 2, 1) := by decide +kernel
theorem dX11_parts_64 : decode cX11_parts 64 = .ok (.ifCond .ne 11, 3) := by decide +kernel
theorem dX11_parts_67 : decode cX11_parts 67 = .ok (.bipush 100, 2) := by decide +kernel
theorem dX11_parts_69 : decode cX11_parts 69 = .ok (.iload_n 3, 1) := by decide +kernel
theorem dX11_parts_70 : decode cX11_parts 70 = .ok (.imul, 1) := by decide +kernel
theorem dX11_parts_71 : decode cX11_parts 71 = .ok (.iload 4, 2) := by decide +kernel
theorem dX11_parts_73 : decode cX11_parts 73 = .ok (.iadd, 1) := by decide +kernel
theorem dX11_parts_74 : decode cX11_parts 74 = .ok (.ireturn, 1) := by decide +kernel
theorem dX11_parts_75 : decode cX11_parts 75 = .ok (.iinc 2 (-1), 3) := by decide +kernel
theorem dX11_parts_78 : decode cX11_parts 78 = .ok (.iinc 4 1, 3) := by decide +kernel
theorem dX11_parts_81 : decode cX11_parts 81 = .ok (.goto (-56), 3) := by decide +kernel
theorem dX11_parts_84 : decode cX11_parts 84 = .ok (.iinc 3 1, 3) := by decide +kernel
theorem dX11_parts_87 : decode cX11_parts 87 = .ok (.goto (-83), 3) := by decide +kernel
theorem dX11_parts_90 : decode cX11_parts 90 = .ok (.iconst (-1), 1) := by decide +kernel
theorem dX11_parts_91 : decode cX11_parts 91 = .ok (.ireturn, 1) := by decide +kernel
theorem dX11_best_0 : decode cX11_best 0 = .ok (.iload_n 1, 1) := by decide +kernel
theorem dX11_best_1 : decode cX11_best 1 = .ok (.iconst 0, 1) := by decide +kernel
theorem dX11_best_2 : decode cX11_best 2 = .ok (.iconst 2, 1) := by decide +kernel
theorem dX11_best_3 : decode cX11_best 3 = .ok (.invokestatic 63, 3) := by decide +kernel
theorem dX11_best_6 : decode cX11_best 6 = .ok (.ifCond .ne 5, 3) := by decide +kernel
theorem dX11_best_9 : decode cX11_best 9 = .ok (.iconst (-1), 1) := by decide +kernel
theorem dX11_best_10 : decode cX11_best 10 = .ok (.ireturn, 1) := by decide +kernel
theorem dX11_best_11 : decode cX11_best 11 = .ok (.aload_n 0, 1) := by decide +kernel
theorem dX11_best_12 : decode cX11_best 12 = .ok (.getfield 50, 3) := by decide +kernel
theorem dX11_best_15 : decode cX11_best 15 = .ok (.invokevirtual 329, 3) := by decide +kernel
theorem dX11_best_18 : decode cX11_best 18 = .ok (.aload_n 0, 1) := by decide +kernel
theorem dX11_best_19 : decode cX11_best 19 = .ok (.getfield 50, 3) := by decide +kernel
theorem dX11_best_22 : decode cX11_best 22 = .ok (.invokevirtual 332, 3) := by decide +kernel
theorem dX11_best_25 : decode cX11_best 25 = .ok (.iload_n 1, 1) := by decide +kernel
theorem dX11_best_26 : decode cX11_best 26 = .ok (.lookupswitch 42 #[(0, 26), (1, 34)], 26) := by decide +kernel
theorem dX11_best_52 : decode cX11_best 52 = .ok (.aload_n 0, 1) := by decide +kernel
theorem dX11_best_53 : decode cX11_best 53 = .ok (.getfield 50, 3) := by decide +kernel
theorem dX11_best_56 : decode cX11_best 56 = .ok (.invokevirtual 335, 3) := by decide +kernel
theorem dX11_best_59 : decode cX11_best 59 = .ok (.ireturn, 1) := by decide +kernel
theorem dX11_best_60 : decode cX11_best 60 = .ok (.aload_n 0, 1) := by decide +kernel
theorem dX11_best_61 : decode cX11_best 61 = .ok (.getfield 50, 3) := by decide +kernel
theorem dX11_best_64 : decode cX11_best 64 = .ok (.invokevirtual 339, 3) := by decide +kernel
theorem dX11_best_67 : decode cX11_best 67 = .ok (.ireturn, 1) := by decide +kernel
theorem dX11_best_68 : decode cX11_best 68 = .ok (.aload_n 0, 1) := by decide +kernel
theorem dX11_best_69 : decode cX11_best 69 = .ok (.getfield 50, 3) := by decide +kernel
theorem dX11_best_72 : decode cX11_best 72 = .ok (.invokevirtual 342, 3) := by decide +kernel
theorem dX11_best_75 : decode cX11_best 75 = .ok (.ireturn, 1) := by decide +kernel
theorem dX11_bestFor_0 : decode cX11_bestFor 0 = .ok (.aload_n 0, 1) := by decide +kernel
theorem dX11_bestFor_1 : decode cX11_bestFor 1 = .ok (.getfield 12, 3) := by decide +kernel
theorem dX11_bestFor_4 : decode cX11_bestFor 4 = .ok (.getfield 89, 3) := by decide +kernel
theorem dX11_bestFor_7 : decode cX11_bestFor 7 = .ok (.iload_n 1, 1) := by decide +kernel
theorem dX11_bestFor_8 : decode cX11_bestFor 8 = .ok (.invokevirtual 123, 3) := by decide +kernel
theorem dX11_bestFor_11 : decode cX11_bestFor 11 = .ok (.ifCond .ne 5, 3) := by decide +kernel
theorem dX11_bestFor_14 : decode cX11_bestFor 14 = .ok (.iconst (-1), 1) := by decide +kernel
theorem dX11_bestFor_15 : decode cX11_bestFor 15 = .ok (.ireturn, 1) := by decide +kernel
theorem dX11_bestFor_16 : decode cX11_bestFor 16 = .ok (.aload_n 0, 1) := by decide +kernel
theorem dX11_bestFor_17 : decode cX11_bestFor 17 = .ok (.getfield 50, 3) := by decide +kernel
theorem dX11_bestFor_20 : decode cX11_bestFor 20 = .ok (.invokevirtual 329, 3) := by decide +kernel
theorem dX11_bestFor_23 : decode cX11_bestFor 23 = .ok (.aload_n 0, 1) := by decide +kernel
theorem dX11_bestFor_24 : decode cX11_bestFor 24 = .ok (.getfield 50, 3) := by decide +kernel
theorem dX11_bestFor_27 : decode cX11_bestFor 27 = .ok (.invokevirtual 332, 3) := by decide +kernel
theorem dX11_bestFor_30 : decode cX11_bestFor 30 = .ok (.aload_n 0, 1) := by decide +kernel
theorem dX11_bestFor_31 : decode cX11_bestFor 31 = .ok (.getfield 50, 3) := by decide +kernel
theorem dX11_bestFor_34 : decode cX11_bestFor 34 = .ok (.iload_n 1, 1) := by decide +kernel
theorem dX11_bestFor_35 : decode cX11_bestFor 35 = .ok (.invokevirtual 345, 3) := by decide +kernel
theorem dX11_bestFor_38 : decode cX11_bestFor 38 = .ok (.ireturn, 1) := by decide +kernel
theorem dX11_stable_0 : decode cX11_stable 0 = .ok (.aload_n 0, 1) := by decide +kernel
theorem dX11_stable_1 : decode cX11_stable 1 = .ok (.getfield 12, 3) := by decide +kernel
theorem dX11_stable_4 : decode cX11_stable 4 = .ok (.getfield 89, 3) := by decide +kernel
theorem dX11_stable_7 : decode cX11_stable 7 = .ok (.iload_n 1, 1) := by decide +kernel
theorem dX11_stable_8 : decode cX11_stable 8 = .ok (.invokevirtual 123, 3) := by decide +kernel
theorem dX11_stable_11 : decode cX11_stable 11 = .ok (.ifCond .ne 5, 3) := by decide +kernel
theorem dX11_stable_14 : decode cX11_stable 14 = .ok (.iconst (-1), 1) := by decide +kernel
theorem dX11_stable_15 : decode cX11_stable 15 = .ok (.ireturn, 1) := by decide +kernel
theorem dX11_stable_16 : decode cX11_stable 16 = .ok (.aload_n 0, 1) := by decide +kernel
theorem dX11_stable_17 : decode cX11_stable 17 = .ok (.getfield 50, 3) := by decide +kernel
theorem dX11_stable_20 : decode cX11_stable 20 = .ok (.invokevirtual 329, 3) := by decide +kernel
theorem dX11_stable_23 : decode cX11_stable 23 = .ok (.aload_n 0, 1) := by decide +kernel
theorem dX11_stable_24 : decode cX11_stable 24 = .ok (.getfield 50, 3) := by decide +kernel
theorem dX11_stable_27 : decode cX11_stable 27 = .ok (.invokevirtual 348, 3) := by decide +kernel
theorem dX11_stable_30 : decode cX11_stable 30 = .ok (.aload_n 0, 1) := by decide +kernel
theorem dX11_stable_31 : decode cX11_stable 31 = .ok (.getfield 50, 3) := by decide +kernel
theorem dX11_stable_34 : decode cX11_stable 34 = .ok (.invokevirtual 351, 3) := by decide +kernel
theorem dX11_stable_37 : decode cX11_stable 37 = .ok (.aload_n 0, 1) := by decide +kernel
theorem dX11_stable_38 : decode cX11_stable 38 = .ok (.getfield 50, 3) := by decide +kernel
theorem dX11_stable_41 : decode cX11_stable 41 = .ok (.iload_n 1, 1) := by decide +kernel
theorem dX11_stable_42 : decode cX11_stable 42 = .ok (.invokevirtual 345, 3) := by decide +kernel
theorem dX11_stable_45 : decode cX11_stable 45 = .ok (.ireturn, 1) := by decide +kernel
theorem dX11_ring_0 : decode cX11_ring 0 = .ok (.iload_n 1, 1) := by decide +kernel
theorem dX11_ring_1 : decode cX11_ring 1 = .ok (.iconst 0, 1) := by decide +kernel
theorem dX11_ring_2 : decode cX11_ring 2 = .ok (.iconst 1, 1) := by decide +kernel
theorem dX11_ring_3 : decode cX11_ring 3 = .ok (.invokestatic 63, 3) := by decide +kernel
theorem dX11_ring_6 : decode cX11_ring 6 = .ok (.ifCond .ne 5, 3) := by decide +kernel
theorem dX11_ring_9 : decode cX11_ring 9 = .ok (.iconst (-1), 1) := by decide +kernel
theorem dX11_ring_10 : decode cX11_ring 10 = .ok (.ireturn, 1) := by decide +kernel
theorem dX11_ring_11 : decode cX11_ring 11 = .ok (.aload_n 0, 1) := by decide +kernel
theorem dX11_ring_12 : decode cX11_ring 12 = .ok (.getfield 50, 3) := by decide +kernel
theorem dX11_ring_15 : decode cX11_ring 15 = .ok (.invokevirtual 329, 3) := by decide +kernel
theorem dX11_ring_18 : decode cX11_ring 18 = .ok (.aload_n 0, 1) := by decide +kernel
theorem dX11_ring_19 : decode cX11_ring 19 = .ok (.getfield 59, 3) := by decide +kernel
theorem dX11_ring_22 : decode cX11_ring 22 = .ok (.invokevirtual 354, 3) := by decide +kernel
theorem dX11_ring_25 : decode cX11_ring 25 = .ok (.aload_n 0, 1) := by decide +kernel
theorem dX11_ring_26 : decode cX11_ring 26 = .ok (.getfield 59, 3) := by decide +kernel
theorem dX11_ring_29 : decode cX11_ring 29 = .ok (.getfield 357, 3) := by decide +kernel
theorem dX11_ring_32 : decode cX11_ring 32 = .ok (.ifCond .ne 5, 3) := by decide +kernel
theorem dX11_ring_35 : decode cX11_ring 35 = .ok (.iconst (-1), 1) := by decide +kernel
theorem dX11_ring_36 : decode cX11_ring 36 = .ok (.ireturn, 1) := by decide +kernel
theorem dX11_ring_37 : decode cX11_ring 37 = .ok (.iload_n 1, 1) := by decide +kernel
theorem dX11_ring_38 : decode cX11_ring 38 = .ok (.ifCond .ne 13, 3) := by decide +kernel
theorem dX11_ring_41 : decode cX11_ring 41 = .ok (.aload_n 0, 1) := by decide +kernel
theorem dX11_ring_42 : decode cX11_ring 42 = .ok (.getfield 59, 3) := by decide +kernel
theorem dX11_ring_45 : decode cX11_ring 45 = .ok (.getfield 357, 3) := by decide +kernel
theorem dX11_ring_48 : decode cX11_ring 48 = .ok (.goto 10, 3) := by decide +kernel
theorem dX11_ring_51 : decode cX11_ring 51 = .ok (.aload_n 0, 1) := by decide +kernel
theorem dX11_ring_52 : decode cX11_ring 52 = .ok (.getfield 59, 3) := by decide +kernel
theorem dX11_ring_55 : decode cX11_ring 55 = .ok (.getfield 360, 3) := by decide +kernel
theorem dX11_ring_58 : decode cX11_ring 58 = .ok (.ireturn, 1) := by decide +kernel
theorem dX11_ringed_0 : decode cX11_ringed 0 = .ok (.iload_n 1, 1) := by decide +kernel
theorem dX11_ringed_1 : decode cX11_ringed 1 = .ok (.iconst 0, 1) := by decide +kernel
theorem dX11_ringed_2 : decode cX11_ringed 2 = .ok (.iconst 3, 1) := by decide +kernel
theorem dX11_ringed_3 : decode cX11_ringed 3 = .ok (.invokestatic 63, 3) := by decide +kernel
theorem dX11_ringed_6 : decode cX11_ringed 6 = .ok (.ifCond .eq 12, 3) := by decide +kernel
theorem dX11_ringed_9 : decode cX11_ringed 9 = .ok (.iload_n 2, 1) := by decide +kernel
theorem dX11_ringed_10 : decode cX11_ringed 10 = .ok (.iconst 0, 1) := by decide +kernel
theorem dX11_ringed_11 : decode cX11_ringed 11 = .ok (.iconst 2, 1) := by decide +kernel
theorem dX11_ringed_12 : decode cX11_ringed 12 = .ok (.invokestatic 63, 3) := by decide +kernel
theorem dX11_ringed_15 : decode cX11_ringed 15 = .ok (.ifCond .ne 5, 3) := by decide +kernel
theorem dX11_ringed_18 : decode cX11_ringed 18 = .ok (.iconst (-1), 1) := by decide +kernel
theorem dX11_ringed_19 : decode cX11_ringed 19 = .ok (.ireturn, 1) := by decide +kernel
theorem dX11_ringed_20 : decode cX11_ringed 20 = .ok (.aload_n 0, 1) := by decide +kernel
theorem dX11_ringed_21 : decode cX11_ringed 21 = .ok (.getfield 50, 3) := by decide +kernel
theorem dX11_ringed_24 : decode cX11_ringed 24 = .ok (.invokevirtual 329, 3) := by decide +kernel
theorem dX11_ringed_27 : decode cX11_ringed 27 = .ok (.aload_n 0, 1) := by decide +kernel
theorem dX11_ringed_28 : decode cX11_ringed 28 = .ok (.getfield 59, 3) := by decide +kernel
theorem dX11_ringed_31 : decode cX11_ringed 31 = .ok (.invokevirtual 354, 3) := by decide +kernel
theorem dX11_ringed_34 : decode cX11_ringed 34 = .ok (.iload_n 1, 1) := by decide +kernel
theorem dX11_ringed_35 : decode cX11_ringed 35 = .ok (.aload_n 0, 1) := by decide +kernel
theorem dX11_ringed_36 : decode cX11_ringed 36 = .ok (.getfield 59, 3) := by decide +kernel
theorem dX11_ringed_39 : decode cX11_ringed 39 = .ok (.getfield 357, 3) := by decide +kernel
theorem dX11_ringed_42 : decode cX11_ringed 42 = .ok (.if_icmp .lt 5, 3) := by decide +kernel
theorem dX11_ringed_45 : decode cX11_ringed 45 = .ok (.iconst (-1), 1) := by decide +kernel
theorem dX11_ringed_46 : decode cX11_ringed 46 = .ok (.ireturn, 1) := by decide +kernel
theorem dX11_ringed_47 : decode cX11_ringed 47 = .ok (.iload_n 2, 1) := by decide +kernel
theorem dX11_ringed_48 : decode cX11_ringed 48 = .ok (.lookupswitch 47 #[(0, 28), (1, 38)], 28) := by decide +kernel
theorem dX11_ringed_76 : decode cX11_ringed 76 = .ok (.aload_n 0, 1) := by decide +kernel
theorem dX11_ringed_77 : decode cX11_ringed 77 = .ok (.getfield 59, 3) := by decide +kernel
theorem dX11_ringed_80 : decode cX11_ringed 80 = .ok (.getfield 363, 3) := by decide +kernel
theorem dX11_ringed_83 : decode cX11_ringed 83 = .ok (.iload_n 1, 1) := by decide +kernel
theorem dX11_ringed_84 : decode cX11_ringed 84 = .ok (.iaload, 1) := by decide +kernel
theorem dX11_ringed_85 : decode cX11_ringed 85 = .ok (.ireturn, 1) := by decide +kernel
theorem dX11_ringed_86 : decode cX11_ringed 86 = .ok (.aload_n 0, 1) := by decide +kernel
theorem dX11_ringed_87 : decode cX11_ringed 87 = .ok (.getfield 59, 3) := by decide +kernel
theorem dX11_ringed_90 : decode cX11_ringed 90 = .ok (.iload_n 1, 1) := by decide +kernel
theorem dX11_ringed_91 : decode cX11_ringed 91 = .ok (.invokevirtual 366, 3) := by decide +kernel
theorem dX11_ringed_94 : decode cX11_ringed 94 = .ok (.ireturn, 1) := by decide +kernel
theorem dX11_ringed_95 : decode cX11_ringed 95 = .ok (.aload_n 0, 1) := by decide +kernel
theorem dX11_ringed_96 : decode cX11_ringed 96 = .ok (.getfield 59, 3) := by decide +kernel
theorem dX11_ringed_99 : decode cX11_ringed 99 = .ok (.iload_n 1, 1) := by decide +kernel
theorem dX11_ringed_100 : decode cX11_ringed 100 = .ok (.invokevirtual 369, 3) := by decide +kernel
theorem dX11_ringed_103 : decode cX11_ringed 103 = .ok (.ireturn, 1) := by decide +kernel
theorem dX11_count_0 : decode cX11_count 0 = .ok (.iload_n 1, 1) := by decide +kernel
theorem dX11_count_1 : decode cX11_count 1 = .ok (.tableswitch 205 0 11 #[63, 74, 85, 96, 104, 115, 139, 151, 162, 173, 185, 197], 63) := by decide +kernel
theorem dX11_count_64 : decode cX11_count 64 = .ok (.aload_n 0, 1) := by decide +kernel
theorem dX11_count_65 : decode cX11_count 65 = .ok (.getfield 12, 3) := by decide +kernel
theorem dX11_count_68 : decode cX11_count 68 = .ok (.getfield 72, 3) := by decide +kernel
theorem dX11_count_71 : decode cX11_count 71 = .ok (.getfield 372, 3) := by decide +kernel
theorem dX11_count_74 : decode cX11_count 74 = .ok (.ireturn, 1) := by decide +kernel
theorem dX11_count_75 : decode cX11_count 75 = .ok (.aload_n 0, 1) := by decide +kernel
theorem dX11_count_76 : decode cX11_count 76 = .ok (.getfield 12, 3) := by decide +kernel
theorem dX11_count_79 : decode cX11_count 79 = .ok (.getfield 89, 3) := by decide +kernel
theorem dX11_count_82 : decode cX11_count 82 = .ok (.getfield 325, 3) := by decide +kernel
theorem dX11_count_85 : decode cX11_count 85 = .ok (.ireturn, 1) := by decide +kernel
theorem dX11_count_86 : decode cX11_count 86 = .ok (.aload_n 0, 1) := by decide +kernel
theorem dX11_count_87 : decode cX11_count 87 = .ok (.getfield 12, 3) := by decide +kernel
theorem dX11_count_90 : decode cX11_count 90 = .ok (.getfield 98, 3) := by decide +kernel
theorem dX11_count_93 : decode cX11_count 93 = .ok (.getfield 373, 3) := by decide +kernel
theorem dX11_count_96 : decode cX11_count 96 = .ok (.ireturn, 1) := by decide +kernel
theorem dX11_count_97 : decode cX11_count 97 = .ok (.aload_n 0, 1) := by decide +kernel
theorem dX11_count_98 : decode cX11_count 98 = .ok (.getfield 12, 3) := by decide +kernel
theorem dX11_count_101 : decode cX11_count 101 = .ok (.getfield 85, 3) := by decide +kernel
theorem dX11_count_104 : decode cX11_count 104 = .ok (.ireturn, 1) := by decide +kernel
theorem dX11_count_105 : decode cX11_count 105 = .ok (.aload_n 0, 1) := by decide +kernel
theorem dX11_count_106 : decode cX11_count 106 = .ok (.getfield 12, 3) := by decide +kernel
theorem dX11_count_109 : decode cX11_count 109 = .ok (.getfield 140, 3) := by decide +kernel
theorem dX11_count_112 : decode cX11_count 112 = .ok (.getfield 322, 3) := by decide +kernel
theorem dX11_count_115 : decode cX11_count 115 = .ok (.ireturn, 1) := by decide +kernel
theorem dX11_count_116 : decode cX11_count 116 = .ok (.aload_n 0, 1) := by decide +kernel
theorem dX11_count_117 : decode cX11_count 117 = .ok (.getfield 12, 3) := by decide +kernel
theorem dX11_count_120 : decode cX11_count 120 = .ok (.getfield 140, 3) := by decide +kernel
theorem dX11_count_123 : decode cX11_count 123 = .ok (.iconst 0, 1) := by decide +kernel
theorem dX11_count_124 : decode cX11_count 124 = .ok (.invokevirtual 374, 3) := by decide +kernel
theorem dX11_count_127 : decode cX11_count 127 = .ok (.aload_n 0, 1) := by decide +kernel
theorem dX11_count_128 : decode cX11_count 128 = .ok (.getfield 12, 3) := by decide +kernel
theorem dX11_count_131 : decode cX11_count 131 = .ok (.getfield 140, 3) := by decide +kernel
theorem dX11_count_134 : decode cX11_count 134 = .ok (.iconst 1, 1) := by decide +kernel
theorem dX11_count_135 : decode cX11_count 135 = .ok (.invokevirtual 374, 3) := by decide +kernel
theorem dX11_count_138 : decode cX11_count 138 = .ok (.iadd, 1) := by decide +kernel
theorem dX11_count_139 : decode cX11_count 139 = .ok (.ireturn, 1) := by decide +kernel
theorem dX11_count_140 : decode cX11_count 140 = .ok (.aload_n 0, 1) := by decide +kernel
theorem dX11_count_141 : decode cX11_count 141 = .ok (.getfield 12, 3) := by decide +kernel
theorem dX11_count_144 : decode cX11_count 144 = .ok (.getfield 140, 3) := by decide +kernel
theorem dX11_count_147 : decode cX11_count 147 = .ok (.iconst 2, 1) := by decide +kernel
theorem dX11_count_148 : decode cX11_count 148 = .ok (.invokevirtual 374, 3) := by decide +kernel
theorem dX11_count_151 : decode cX11_count 151 = .ok (.ireturn, 1) := by decide +kernel
theorem dX11_count_152 : decode cX11_count 152 = .ok (.aload_n 0, 1) := by decide +kernel
theorem dX11_count_153 : decode cX11_count 153 = .ok (.getfield 12, 3) := by decide +kernel
theorem dX11_count_156 : decode cX11_count 156 = .ok (.getfield 72, 3) := by decide +kernel
theorem dX11_count_159 : decode cX11_count 159 = .ok (.invokevirtual 377, 3) := by decide +kernel
theorem dX11_count_162 : decode cX11_count 162 = .ok (.ireturn, 1) := by decide +kernel
theorem dX11_count_163 : decode cX11_count 163 = .ok (.aload_n 0, 1) := by decide +kernel
theorem dX11_count_164 : decode cX11_count 164 = .ok (.getfield 12, 3) := by decide +kernel
theorem dX11_count_167 : decode cX11_count 167 = .ok (.getfield 72, 3) := by decide +kernel
theorem dX11_count_170 : decode cX11_count 170 = .ok (.invokevirtual 380, 3) := by decide +kernel
theorem dX11_count_173 : decode cX11_count 173 = .ok (.ireturn, 1) := by decide +kernel
theorem dX11_count_174 : decode cX11_count 174 = .ok (.aload_n 0, 1) := by decide +kernel
theorem dX11_count_175 : decode cX11_count 175 = .ok (.getfield 12, 3) := by decide +kernel
theorem dX11_count_178 : decode cX11_count 178 = .ok (.getfield 89, 3) := by decide +kernel
theorem dX11_count_181 : decode cX11_count 181 = .ok (.iconst 0, 1) := by decide +kernel
theorem dX11_count_182 : decode cX11_count 182 = .ok (.invokevirtual 383, 3) := by decide +kernel
theorem dX11_count_185 : decode cX11_count 185 = .ok (.ireturn, 1) := by decide +kernel
theorem dX11_count_186 : decode cX11_count 186 = .ok (.aload_n 0, 1) := by decide +kernel
theorem dX11_count_187 : decode cX11_count 187 = .ok (.getfield 12, 3) := by decide +kernel
theorem dX11_count_190 : decode cX11_count 190 = .ok (.getfield 89, 3) := by decide +kernel
theorem dX11_count_193 : decode cX11_count 193 = .ok (.iconst 1, 1) := by decide +kernel
theorem dX11_count_194 : decode cX11_count 194 = .ok (.invokevirtual 383, 3) := by decide +kernel
theorem dX11_count_197 : decode cX11_count 197 = .ok (.ireturn, 1) := by decide +kernel
theorem dX11_count_198 : decode cX11_count 198 = .ok (.aload_n 0, 1) := by decide +kernel
theorem dX11_count_199 : decode cX11_count 199 = .ok (.getfield 41, 3) := by decide +kernel
theorem dX11_count_202 : decode cX11_count 202 = .ok (.invokevirtual 386, 3) := by decide +kernel
theorem dX11_count_205 : decode cX11_count 205 = .ok (.ireturn, 1) := by decide +kernel
theorem dX11_count_206 : decode cX11_count 206 = .ok (.bipush (-100), 2) := by decide +kernel
theorem dX11_count_208 : decode cX11_count 208 = .ok (.ireturn, 1) := by decide +kernel
theorem dX11_image_0 : decode cX11_image 0 = .ok (.iload_n 1, 1) := by decide +kernel
theorem dX11_image_1 : decode cX11_image 1 = .ok (.iconst 0, 1) := by decide +kernel
theorem dX11_image_2 : decode cX11_image 2 = .ok (.iconst 2, 1) := by decide +kernel
theorem dX11_image_3 : decode cX11_image 3 = .ok (.invokestatic 63, 3) := by decide +kernel
theorem dX11_image_6 : decode cX11_image 6 = .ok (.ifCond .ne 5, 3) := by decide +kernel
theorem dX11_image_9 : decode cX11_image 9 = .ok (.iconst 0, 1) := by decide +kernel
theorem dX11_image_10 : decode cX11_image 10 = .ok (.ireturn, 1) := by decide +kernel
theorem dX11_image_11 : decode cX11_image 11 = .ok (.aload_n 0, 1) := by decide +kernel
theorem dX11_image_12 : decode cX11_image 12 = .ok (.getfield 16, 3) := by decide +kernel
theorem dX11_image_15 : decode cX11_image 15 = .ok (.iload_n 1, 1) := by decide +kernel
theorem dX11_image_16 : decode cX11_image 16 = .ok (.aaload, 1) := by decide +kernel
theorem dX11_image_17 : decode cX11_image 17 = .ok (.astore_n 2, 1) := by decide +kernel
theorem dX11_image_18 : decode cX11_image 18 = .ok (.aload_n 2, 1) := by decide +kernel
theorem dX11_image_19 : decode cX11_image 19 = .ok (.ifnonnull 18, 3) := by decide +kernel
theorem dX11_image_22 : decode cX11_image 22 = .ok (.new 9, 3) := by decide +kernel
theorem dX11_image_25 : decode cX11_image 25 = .ok (.dup, 1) := by decide +kernel
theorem dX11_image_26 : decode cX11_image 26 = .ok (.invokespecial 11, 3) := by decide +kernel
theorem dX11_image_29 : decode cX11_image 29 = .ok (.astore_n 2, 1) := by decide +kernel
theorem dX11_image_30 : decode cX11_image 30 = .ok (.aload_n 0, 1) := by decide +kernel
theorem dX11_image_31 : decode cX11_image 31 = .ok (.getfield 16, 3) := by decide +kernel
theorem dX11_image_34 : decode cX11_image 34 = .ok (.iload_n 1, 1) := by decide +kernel
theorem dX11_image_35 : decode cX11_image 35 = .ok (.aload_n 2, 1) := by decide +kernel
theorem dX11_image_36 : decode cX11_image 36 = .ok (.aastore, 1) := by decide +kernel
theorem dX11_image_37 : decode cX11_image 37 = .ok (.aload_n 2, 1) := by decide +kernel
theorem dX11_image_38 : decode cX11_image 38 = .ok (.aload_n 0, 1) := by decide +kernel
theorem dX11_image_39 : decode cX11_image 39 = .ok (.getfield 12, 3) := by decide +kernel
theorem dX11_image_42 : decode cX11_image 42 = .ok (.invokevirtual 389, 3) := by decide +kernel
theorem dX11_image_45 : decode cX11_image 45 = .ok (.iconst 1, 1) := by decide +kernel
theorem dX11_image_46 : decode cX11_image 46 = .ok (.ireturn, 1) := by decide +kernel
theorem dX11_again_0 : decode cX11_again 0 = .ok (.iload_n 1, 1) := by decide +kernel
theorem dX11_again_1 : decode cX11_again 1 = .ok (.iconst 0, 1) := by decide +kernel
theorem dX11_again_2 : decode cX11_again 2 = .ok (.iconst 2, 1) := by decide +kernel
theorem dX11_again_3 : decode cX11_again 3 = .ok (.invokestatic 63, 3) := by decide +kernel
theorem dX11_again_6 : decode cX11_again 6 = .ok (.ifCond .ne 5, 3) := by decide +kernel
theorem dX11_again_9 : decode cX11_again 9 = .ok (.iconst 0, 1) := by decide +kernel
theorem dX11_again_10 : decode cX11_again 10 = .ok (.ireturn, 1) := by decide +kernel
theorem dX11_again_11 : decode cX11_again 11 = .ok (.aload_n 0, 1) := by decide +kernel
theorem dX11_again_12 : decode cX11_again 12 = .ok (.getfield 16, 3) := by decide +kernel
theorem dX11_again_15 : decode cX11_again 15 = .ok (.iload_n 1, 1) := by decide +kernel
theorem dX11_again_16 : decode cX11_again 16 = .ok (.aaload, 1) := by decide +kernel
theorem dX11_again_17 : decode cX11_again 17 = .ok (.astore_n 2, 1) := by decide +kernel
theorem dX11_again_18 : decode cX11_again 18 = .ok (.aload_n 2, 1) := by decide +kernel
theorem dX11_again_19 : decode cX11_again 19 = .ok (.ifnonnull 5, 3) := by decide +kernel
theorem dX11_again_22 : decode cX11_again 22 = .ok (.iconst 0, 1) := by decide +kernel
theorem dX11_again_23 : decode cX11_again 23 = .ok (.ireturn, 1) := by decide +kernel
theorem dX11_again_24 : decode cX11_again 24 = .ok (.aload_n 0, 1) := by decide +kernel
theorem dX11_again_25 : decode cX11_again 25 = .ok (.getfield 12, 3) := by decide +kernel
theorem dX11_again_28 : decode cX11_again 28 = .ok (.aload_n 2, 1) := by decide +kernel
theorem dX11_again_29 : decode cX11_again 29 = .ok (.invokevirtual 389, 3) := by decide +kernel
theorem dX11_again_32 : decode cX11_again 32 = .ok (.aload_n 0, 1) := by decide +kernel
theorem dX11_again_33 : decode cX11_again 33 = .ok (.getfield 32, 3) := by decide +kernel
theorem dX11_again_36 : decode cX11_again 36 = .ok (.invokevirtual 108, 3) := by decide +kernel
theorem dX11_again_39 : decode cX11_again 39 = .ok (.iconst 1, 1) := by decide +kernel
theorem dX11_again_40 : decode cX11_again 40 = .ok (.ireturn, 1) := by decide +kernel
theorem dX11_isKinAsked_0 : decode cX11_isKinAsked 0 = .ok (.aload_n 0, 1) := by decide +kernel
theorem dX11_isKinAsked_1 : decode cX11_isKinAsked 1 = .ok (.getfield 12, 3) := by decide +kernel
theorem dX11_isKinAsked_4 : decode cX11_isKinAsked 4 = .ok (.getfield 89, 3) := by decide +kernel
theorem dX11_isKinAsked_7 : decode cX11_isKinAsked 7 = .ok (.iload_n 1, 1) := by decide +kernel
theorem dX11_isKinAsked_8 : decode cX11_isKinAsked 8 = .ok (.invokevirtual 123, 3) := by decide +kernel
theorem dX11_isKinAsked_11 : decode cX11_isKinAsked 11 = .ok (.ifCond .eq 40, 3) := by decide +kernel
theorem dX11_isKinAsked_14 : decode cX11_isKinAsked 14 = .ok (.aload_n 0, 1) := by decide +kernel
theorem dX11_isKinAsked_15 : decode cX11_isKinAsked 15 = .ok (.getfield 12, 3) := by decide +kernel
theorem dX11_isKinAsked_18 : decode cX11_isKinAsked 18 = .ok (.getfield 89, 3) := by decide +kernel
theorem dX11_isKinAsked_21 : decode cX11_isKinAsked 21 = .ok (.iload_n 2, 1) := by decide +kernel
theorem dX11_isKinAsked_22 : decode cX11_isKinAsked 22 = .ok (.invokevirtual 123, 3) := by decide +kernel
theorem dX11_isKinAsked_25 : decode cX11_isKinAsked 25 = .ok (.ifCond .eq 26, 3) := by decide +kernel
theorem dX11_isKinAsked_28 : decode cX11_isKinAsked 28 = .ok (.iload_n 3, 1) := by decide +kernel
theorem dX11_isKinAsked_29 : decode cX11_isKinAsked 29 = .ok (.invokestatic 67, 3) := by decide +kernel
theorem dX11_isKinAsked_32 : decode cX11_isKinAsked 32 = .ok (.ifCond .eq 19, 3) := by decide +kernel
theorem dX11_isKinAsked_35 : decode cX11_isKinAsked 35 = .ok (.iload 4, 2) := by decide +kernel
theorem dX11_isKinAsked_37 : decode cX11_isKinAsked 37 = .ok (.iconst 0, 1) := by decide +kernel
theorem dX11_isKinAsked_38 : decode cX11_isKinAsked 38 = .ok (.sipush 300, 3) := by decide +kernel
theorem dX11_isKinAsked_41 : decode cX11_isKinAsked 41 = .ok (.invokestatic 63, 3) := by decide +kernel
theorem dX11_isKinAsked_44 : decode cX11_isKinAsked 44 = .ok (.ifCond .eq 7, 3) := by decide +kernel
theorem dX11_isKinAsked_47 : decode cX11_isKinAsked 47 = .ok (.iconst 1, 1) := by decide +kernel
theorem dX11_isKinAsked_48 : decode cX11_isKinAsked 48 = .ok (.goto 4, 3) := by decide +kernel
theorem dX11_isKinAsked_51 : decode cX11_isKinAsked 51 = .ok (.iconst 0, 1) := by decide +kernel
theorem dX11_isKinAsked_52 : decode cX11_isKinAsked 52 = .ok (.ireturn, 1) := by decide +kernel
theorem dX11_isCouple_0 : decode cX11_isCouple 0 = .ok (.aload_n 0, 1) := by decide +kernel
theorem dX11_isCouple_1 : decode cX11_isCouple 1 = .ok (.getfield 12, 3) := by decide +kernel
theorem dX11_isCouple_4 : decode cX11_isCouple 4 = .ok (.getfield 89, 3) := by decide +kernel
theorem dX11_isCouple_7 : decode cX11_isCouple 7 = .ok (.iload_n 1, 1) := by decide +kernel
theorem dX11_isCouple_8 : decode cX11_isCouple 8 = .ok (.iconst 0, 1) := by decide +kernel
theorem dX11_isCouple_9 : decode cX11_isCouple 9 = .ok (.invokevirtual 392, 3) := by decide +kernel
theorem dX11_isCouple_12 : decode cX11_isCouple 12 = .ok (.ifCond .eq 22, 3) := by decide +kernel
theorem dX11_isCouple_15 : decode cX11_isCouple 15 = .ok (.aload_n 0, 1) := by decide +kernel
theorem dX11_isCouple_16 : decode cX11_isCouple 16 = .ok (.getfield 12, 3) := by decide +kernel
theorem dX11_isCouple_19 : decode cX11_isCouple 19 = .ok (.getfield 89, 3) := by decide +kernel
theorem dX11_isCouple_22 : decode cX11_isCouple 22 = .ok (.iload_n 2, 1) := by decide +kernel
theorem dX11_isCouple_23 : decode cX11_isCouple 23 = .ok (.iconst 1, 1) := by decide +kernel
theorem dX11_isCouple_24 : decode cX11_isCouple 24 = .ok (.invokevirtual 392, 3) := by decide +kernel
theorem dX11_isCouple_27 : decode cX11_isCouple 27 = .ok (.ifCond .eq 7, 3) := by decide +kernel
theorem dX11_isCouple_30 : decode cX11_isCouple 30 = .ok (.iconst 1, 1) := by decide +kernel
theorem dX11_isCouple_31 : decode cX11_isCouple 31 = .ok (.goto 4, 3) := by decide +kernel
theorem dX11_isCouple_34 : decode cX11_isCouple 34 = .ok (.iconst 0, 1) := by decide +kernel
theorem dX11_isCouple_35 : decode cX11_isCouple 35 = .ok (.ireturn, 1) := by decide +kernel
theorem dX11_herHouse_0 : decode cX11_herHouse 0 = .ok (.aload_n 0, 1) := by decide +kernel
theorem dX11_herHouse_1 : decode cX11_herHouse 1 = .ok (.getfield 12, 3) := by decide +kernel
theorem dX11_herHouse_4 : decode cX11_herHouse 4 = .ok (.getfield 89, 3) := by decide +kernel
theorem dX11_herHouse_7 : decode cX11_herHouse 7 = .ok (.getfield 168, 3) := by decide +kernel
theorem dX11_herHouse_10 : decode cX11_herHouse 10 = .ok (.aload_n 0, 1) := by decide +kernel
theorem dX11_herHouse_11 : decode cX11_herHouse 11 = .ok (.getfield 12, 3) := by decide +kernel
theorem dX11_herHouse_14 : decode cX11_herHouse 14 = .ok (.getfield 140, 3) := by decide +kernel
theorem dX11_herHouse_17 : decode cX11_herHouse 17 = .ok (.getfield 289, 3) := by decide +kernel
theorem dX11_herHouse_20 : decode cX11_herHouse 20 = .ok (.iload_n 1, 1) := by decide +kernel
theorem dX11_herHouse_21 : decode cX11_herHouse 21 = .ok (.iaload, 1) := by decide +kernel
theorem dX11_herHouse_22 : decode cX11_herHouse 22 = .ok (.iaload, 1) := by decide +kernel
theorem dX11_herHouse_23 : decode cX11_herHouse 23 = .ok (.ireturn, 1) := by decide +kernel
theorem dX11_hisHouse_0 : decode cX11_hisHouse 0 = .ok (.aload_n 0, 1) := by decide +kernel
theorem dX11_hisHouse_1 : decode cX11_hisHouse 1 = .ok (.getfield 12, 3) := by decide +kernel
theorem dX11_hisHouse_4 : decode cX11_hisHouse 4 = .ok (.getfield 89, 3) := by decide +kernel
theorem dX11_hisHouse_7 : decode cX11_hisHouse 7 = .ok (.getfield 168, 3) := by decide +kernel
theorem dX11_hisHouse_10 : decode cX11_hisHouse 10 = .ok (.aload_n 0, 1) := by decide +kernel
theorem dX11_hisHouse_11 : decode cX11_hisHouse 11 = .ok (.getfield 12, 3) := by decide +kernel
theorem dX11_hisHouse_14 : decode cX11_hisHouse 14 = .ok (.getfield 140, 3) := by decide +kernel
theorem dX11_hisHouse_17 : decode cX11_hisHouse 17 = .ok (.getfield 292, 3) := by decide +kernel
theorem dX11_hisHouse_20 : decode cX11_hisHouse 20 = .ok (.iload_n 1, 1) := by decide +kernel
theorem dX11_hisHouse_21 : decode cX11_hisHouse 21 = .ok (.iaload, 1) := by decide +kernel
theorem dX11_hisHouse_22 : decode cX11_hisHouse 22 = .ok (.iaload, 1) := by decide +kernel
theorem dX11_hisHouse_23 : decode cX11_hisHouse 23 = .ok (.ireturn, 1) := by decide +kernel
theorem dX11_closeMatch_0 : decode cX11_closeMatch 0 = .ok (.aload_n 0, 1) := by decide +kernel
theorem dX11_closeMatch_1 : decode cX11_closeMatch 1 = .ok (.getfield 12, 3) := by decide +kernel
theorem dX11_closeMatch_4 : decode cX11_closeMatch 4 = .ok (.getfield 89, 3) := by decide +kernel
theorem dX11_closeMatch_7 : decode cX11_closeMatch 7 = .ok (.getfield 137, 3) := by decide +kernel
theorem dX11_closeMatch_10 : decode cX11_closeMatch 10 = .ok (.aload_n 0, 1) := by decide +kernel
theorem dX11_closeMatch_11 : decode cX11_closeMatch 11 = .ok (.getfield 12, 3) := by decide +kernel
theorem dX11_closeMatch_14 : decode cX11_closeMatch 14 = .ok (.getfield 140, 3) := by decide +kernel
theorem dX11_closeMatch_17 : decode cX11_closeMatch 17 = .ok (.getfield 289, 3) := by decide +kernel
theorem dX11_closeMatch_20 : decode cX11_closeMatch 20 = .ok (.iload_n 1, 1) := by decide +kernel
theorem dX11_closeMatch_21 : decode cX11_closeMatch 21 = .ok (.iaload, 1) := by decide +kernel
theorem dX11_closeMatch_22 : decode cX11_closeMatch 22 = .ok (.iconst (-1), 1) := by decide +kernel
theorem dX11_closeMatch_23 : decode cX11_closeMatch 23 = .ok (.iastore, 1) := by decide +kernel
theorem dX11_closeMatch_24 : decode cX11_closeMatch 24 = .ok (.aload_n 0, 1) := by decide +kernel
theorem dX11_closeMatch_25 : decode cX11_closeMatch 25 = .ok (.getfield 12, 3) := by decide +kernel
theorem dX11_closeMatch_28 : decode cX11_closeMatch 28 = .ok (.getfield 89, 3) := by decide +kernel
theorem dX11_closeMatch_31 : decode cX11_closeMatch 31 = .ok (.getfield 137, 3) := by decide +kernel
theorem dX11_closeMatch_34 : decode cX11_closeMatch 34 = .ok (.aload_n 0, 1) := by decide +kernel
theorem dX11_closeMatch_35 : decode cX11_closeMatch 35 = .ok (.getfield 12, 3) := by decide +kernel
theorem dX11_closeMatch_38 : decode cX11_closeMatch 38 = .ok (.getfield 140, 3) := by decide +kernel
theorem dX11_closeMatch_41 : decode cX11_closeMatch 41 = .ok (.getfield 292, 3) := by decide +kernel
theorem dX11_closeMatch_44 : decode cX11_closeMatch 44 = .ok (.iload_n 1, 1) := by decide +kernel
theorem dX11_closeMatch_45 : decode cX11_closeMatch 45 = .ok (.iaload, 1) := by decide +kernel
theorem dX11_closeMatch_46 : decode cX11_closeMatch 46 = .ok (.iconst (-1), 1) := by decide +kernel
theorem dX11_closeMatch_47 : decode cX11_closeMatch 47 = .ok (.iastore, 1) := by decide +kernel
theorem dX11_closeMatch_48 : decode cX11_closeMatch 48 = .ok (.aload_n 0, 1) := by decide +kernel
theorem dX11_closeMatch_49 : decode cX11_closeMatch 49 = .ok (.getfield 12, 3) := by decide +kernel
theorem dX11_closeMatch_52 : decode cX11_closeMatch 52 = .ok (.getfield 140, 3) := by decide +kernel
theorem dX11_closeMatch_55 : decode cX11_closeMatch 55 = .ok (.iload_n 1, 1) := by decide +kernel
theorem dX11_closeMatch_56 : decode cX11_closeMatch 56 = .ok (.iload_n 2, 1) := by decide +kernel
theorem dX11_closeMatch_57 : decode cX11_closeMatch 57 = .ok (.aload_n 0, 1) := by decide +kernel
theorem dX11_closeMatch_58 : decode cX11_closeMatch 58 = .ok (.getfield 12, 3) := by decide +kernel
theorem dX11_closeMatch_61 : decode cX11_closeMatch 61 = .ok (.getfield 85, 3) := by decide +kernel
theorem dX11_closeMatch_64 : decode cX11_closeMatch 64 = .ok (.invokevirtual 286, 3) := by decide +kernel
theorem dX11_closeMatch_67 : decode cX11_closeMatch 67 = .ok (.return_, 1) := by decide +kernel
theorem dX11_within_0 : decode cX11_within 0 = .ok (.iload_n 0, 1) := by decide +kernel
theorem dX11_within_1 : decode cX11_within 1 = .ok (.iload_n 1, 1) := by decide +kernel
theorem dX11_within_2 : decode cX11_within 2 = .ok (.if_icmp .lt 12, 3) := by decide +kernel
theorem dX11_within_5 : decode cX11_within 5 = .ok (.iload_n 0, 1) := by decide +kernel
theorem dX11_within_6 : decode cX11_within 6 = .ok (.iload_n 2, 1) := by decide +kernel
theorem dX11_within_7 : decode cX11_within 7 = .ok (.if_icmp .gt 7, 3) := by decide +kernel
theorem dX11_within_10 : decode cX11_within 10 = .ok (.iconst 1, 1) := by decide +kernel
theorem dX11_within_11 : decode cX11_within 11 = .ok (.goto 4, 3) := by decide +kernel
theorem dX11_within_14 : decode cX11_within 14 = .ok (.iconst 0, 1) := by decide +kernel
theorem dX11_within_15 : decode cX11_within 15 = .ok (.ireturn, 1) := by decide +kernel
theorem dX11_isVillage_0 : decode cX11_isVillage 0 = .ok (.iload_n 0, 1) := by decide +kernel
theorem dX11_isVillage_1 : decode cX11_isVillage 1 = .ok (.iconst 0, 1) := by decide +kernel
theorem dX11_isVillage_2 : decode cX11_isVillage 2 = .ok (.iconst 4, 1) := by decide +kernel
theorem dX11_isVillage_3 : decode cX11_isVillage 3 = .ok (.invokestatic 63, 3) := by decide +kernel
theorem dX11_isVillage_6 : decode cX11_isVillage 6 = .ok (.ireturn, 1) := by decide +kernel
theorem dX11_bit_0 : decode cX11_bit 0 = .ok (.iload_n 0, 1) := by decide +kernel
theorem dX11_bit_1 : decode cX11_bit 1 = .ok (.ifCond .eq 7, 3) := by decide +kernel
theorem dX11_bit_4 : decode cX11_bit 4 = .ok (.iconst 1, 1) := by decide +kernel
theorem dX11_bit_5 : decode cX11_bit 5 = .ok (.goto 4, 3) := by decide +kernel
theorem dX11_bit_8 : decode cX11_bit 8 = .ok (.iconst 0, 1) := by decide +kernel
theorem dX11_bit_9 : decode cX11_bit 9 = .ok (.ireturn, 1) := by decide +kernel
theorem dX11_copy_0 : decode cX11_copy 0 = .ok (.aload_n 0, 1) := by decide +kernel
theorem dX11_copy_1 : decode cX11_copy 1 = .ok (.iconst 0, 1) := by decide +kernel
theorem dX11_copy_2 : decode cX11_copy 2 = .ok (.aload_n 1, 1) := by decide +kernel
theorem dX11_copy_3 : decode cX11_copy 3 = .ok (.iconst 0, 1) := by decide +kernel
theorem dX11_copy_4 : decode cX11_copy 4 = .ok (.aload_n 0, 1) := by decide +kernel
theorem dX11_copy_5 : decode cX11_copy 5 = .ok (.arraylength, 1) := by decide +kernel
theorem dX11_copy_6 : decode cX11_copy 6 = .ok (.aload_n 1, 1) := by decide +kernel
theorem dX11_copy_7 : decode cX11_copy 7 = .ok (.arraylength, 1) := by decide +kernel
theorem dX11_copy_8 : decode cX11_copy 8 = .ok (.invokestatic 395, 3) := by decide +kernel
theorem dX11_copy_11 : decode cX11_copy 11 = .ok (.invokestatic 400, 3) := by decide +kernel
theorem dX11_copy_14 : decode cX11_copy 14 = .ok (.return_, 1) := by decide +kernel
theorem dX11_copyFlags_0 : decode cX11_copyFlags 0 = .ok (.iconst 0, 1) := by decide +kernel
theorem dX11_copyFlags_1 : decode cX11_copyFlags 1 = .ok (.istore_n 2, 1) := by decide +kernel
theorem dX11_copyFlags_2 : decode cX11_copyFlags 2 = .ok (.iload_n 2, 1) := by decide +kernel
theorem dX11_copyFlags_3 : decode cX11_copyFlags 3 = .ok (.aload_n 0, 1) := by decide +kernel
theorem dX11_copyFlags_4 : decode cX11_copyFlags 4 = .ok (.arraylength, 1) := by decide +kernel
theorem dX11_copyFlags_5 : decode cX11_copyFlags 5 = .ok (.if_icmp .ge 21, 3) := by decide +kernel
theorem dX11_copyFlags_8 : decode cX11_copyFlags 8 = .ok (.iload_n 2, 1) := by decide +kernel
theorem dX11_copyFlags_9 : decode cX11_copyFlags 9 = .ok (.aload_n 1, 1) := by decide +kernel
theorem dX11_copyFlags_10 : decode cX11_copyFlags 10 = .ok (.arraylength, 1) := by decide +kernel
theorem dX11_copyFlags_11 : decode cX11_copyFlags 11 = .ok (.if_icmp .ge 15, 3) := by decide +kernel
theorem dX11_copyFlags_14 : decode cX11_copyFlags 14 = .ok (.aload_n 1, 1) := by decide +kernel
theorem dX11_copyFlags_15 : decode cX11_copyFlags 15 = .ok (.iload_n 2, 1) := by decide +kernel
theorem dX11_copyFlags_16 : decode cX11_copyFlags 16 = .ok (.aload_n 0, 1) := by decide +kernel
theorem dX11_copyFlags_17 : decode cX11_copyFlags 17 = .ok (.iload_n 2, 1) := by decide +kernel
theorem dX11_copyFlags_18 : decode cX11_copyFlags 18 = .ok (.baload, 1) := by decide +kernel
theorem dX11_copyFlags_19 : decode cX11_copyFlags 19 = .ok (.bastore, 1) := by decide +kernel
theorem dX11_copyFlags_20 : decode cX11_copyFlags 20 = .ok (.iinc 2 1, 3) := by decide +kernel
theorem dX11_copyFlags_23 : decode cX11_copyFlags 23 = .ok (.goto (-21), 3) := by decide +kernel
theorem dX11_copyFlags_26 : decode cX11_copyFlags 26 = .ok (.return_, 1) := by decide +kernel
theorem dX11_copyTexts_0 : decode cX11_copyTexts 0 = .ok (.iconst 0, 1) := by decide +kernel
theorem dX11_copyTexts_1 : decode cX11_copyTexts 1 = .ok (.istore_n 2, 1) := by decide +kernel
theorem dX11_copyTexts_2 : decode cX11_copyTexts 2 = .ok (.iload_n 2, 1) := by decide +kernel
theorem dX11_copyTexts_3 : decode cX11_copyTexts 3 = .ok (.aload_n 0, 1) := by decide +kernel
theorem dX11_copyTexts_4 : decode cX11_copyTexts 4 = .ok (.arraylength, 1) := by decide +kernel
theorem dX11_copyTexts_5 : decode cX11_copyTexts 5 = .ok (.if_icmp .ge 21, 3) := by decide +kernel
theorem dX11_copyTexts_8 : decode cX11_copyTexts 8 = .ok (.iload_n 2, 1) := by decide +kernel
theorem dX11_copyTexts_9 : decode cX11_copyTexts 9 = .ok (.aload_n 1, 1) := by decide +kernel
theorem dX11_copyTexts_10 : decode cX11_copyTexts 10 = .ok (.arraylength, 1) := by decide +kernel
theorem dX11_copyTexts_11 : decode cX11_copyTexts 11 = .ok (.if_icmp .ge 15, 3) := by decide +kernel
theorem dX11_copyTexts_14 : decode cX11_copyTexts 14 = .ok (.aload_n 1, 1) := by decide +kernel
theorem dX11_copyTexts_15 : decode cX11_copyTexts 15 = .ok (.iload_n 2, 1) := by decide +kernel
theorem dX11_copyTexts_16 : decode cX11_copyTexts 16 = .ok (.aload_n 0, 1) := by decide +kernel
theorem dX11_copyTexts_17 : decode cX11_copyTexts 17 = .ok (.iload_n 2, 1) := by decide +kernel
theorem dX11_copyTexts_18 : decode cX11_copyTexts 18 = .ok (.aaload, 1) := by decide +kernel
theorem dX11_copyTexts_19 : decode cX11_copyTexts 19 = .ok (.aastore, 1) := by decide +kernel
theorem dX11_copyTexts_20 : decode cX11_copyTexts 20 = .ok (.iinc 2 1, 3) := by decide +kernel
theorem dX11_copyTexts_23 : decode cX11_copyTexts 23 = .ok (.goto (-21), 3) := by decide +kernel
theorem dX11_copyTexts_26 : decode cX11_copyTexts 26 = .ok (.return_, 1) := by decide +kernel
theorem dX11_clearRow_0 : decode cX11_clearRow 0 = .ok (.iload_n 1, 1) := by decide +kernel
theorem dX11_clearRow_1 : decode cX11_clearRow 1 = .ok (.istore_n 3, 1) := by decide +kernel
theorem dX11_clearRow_2 : decode cX11_clearRow 2 = .ok (.iload_n 3, 1) := by decide +kernel
theorem dX11_clearRow_3 : decode cX11_clearRow 3 = .ok (.iload_n 1, 1) := by decide +kernel
theorem dX11_clearRow_4 : decode cX11_clearRow 4 = .ok (.iload_n 2, 1) := by decide +kernel
theorem dX11_clearRow_5 : decode cX11_clearRow 5 = .ok (.iadd, 1) := by decide +kernel
theorem dX11_clearRow_6 : decode cX11_clearRow 6 = .ok (.if_icmp .ge 19, 3) := by decide +kernel
theorem dX11_clearRow_9 : decode cX11_clearRow 9 = .ok (.iload_n 3, 1) := by decide +kernel
theorem dX11_clearRow_10 : decode cX11_clearRow 10 = .ok (.aload_n 0, 1) := by decide +kernel
theorem dX11_clearRow_11 : decode cX11_clearRow 11 = .ok (.arraylength, 1) := by decide +kernel
theorem dX11_clearRow_12 : decode cX11_clearRow 12 = .ok (.if_icmp .ge 13, 3) := by decide +kernel
theorem dX11_clearRow_15 : decode cX11_clearRow 15 = .ok (.aload_n 0, 1) := by decide +kernel
theorem dX11_clearRow_16 : decode cX11_clearRow 16 = .ok (.iload_n 3, 1) := by decide +kernel
theorem dX11_clearRow_17 : decode cX11_clearRow 17 = .ok (.iconst (-1), 1) := by decide +kernel
theorem dX11_clearRow_18 : decode cX11_clearRow 18 = .ok (.iastore, 1) := by decide +kernel
theorem dX11_clearRow_19 : decode cX11_clearRow 19 = .ok (.iinc 3 1, 3) := by decide +kernel
theorem dX11_clearRow_22 : decode cX11_clearRow 22 = .ok (.goto (-20), 3) := by decide +kernel
theorem dX11_clearRow_25 : decode cX11_clearRow 25 = .ok (.return_, 1) := by decide +kernel
theorem dX12_init_0 : decode cX12_init 0 = .ok (.aload_n 0, 1) := by decide +kernel
theorem dX12_init_1 : decode cX12_init 1 = .ok (.invokespecial 1, 3) := by decide +kernel
theorem dX12_init_4 : decode cX12_init 4 = .ok (.aload_n 0, 1) := by decide +kernel
theorem dX12_init_5 : decode cX12_init 5 = .ok (.sipush 2000, 3) := by decide +kernel
theorem dX12_init_8 : decode cX12_init 8 = .ok (.newarray .byte, 2) := by decide +kernel
theorem dX12_init_10 : decode cX12_init 10 = .ok (.putfield 7, 3) := by decide +kernel
theorem dX12_init_13 : decode cX12_init 13 = .ok (.aload_n 0, 1) := by decide +kernel
theorem dX12_init_14 : decode cX12_init 14 = .ok (.iconst 4, 1) := by decide +kernel
theorem dX12_init_15 : decode cX12_init 15 = .ok (.newarray .int, 2) := by decide +kernel
theorem dX12_init_17 : decode cX12_init 17 = .ok (.putfield 13, 3) := by decide +kernel
theorem dX12_init_20 : decode cX12_init 20 = .ok (.aload_n 0, 1) := by decide +kernel
theorem dX12_init_21 : decode cX12_init 21 = .ok (.iconst 4, 1) := by decide +kernel
theorem dX12_init_22 : decode cX12_init 22 = .ok (.newarray .int, 2) := by decide +kernel
theorem dX12_init_24 : decode cX12_init 24 = .ok (.putfield 17, 3) := by decide +kernel
theorem dX12_init_27 : decode cX12_init 27 = .ok (.aload_n 0, 1) := by decide +kernel
theorem dX12_init_28 : decode cX12_init 28 = .ok (.iconst 4, 1) := by decide +kernel
theorem dX12_init_29 : decode cX12_init 29 = .ok (.newarray .int, 2) := by decide +kernel
theorem dX12_init_31 : decode cX12_init 31 = .ok (.putfield 20, 3) := by decide +kernel
theorem dX12_init_34 : decode cX12_init 34 = .ok (.aload_n 0, 1) := by decide +kernel
theorem dX12_init_35 : decode cX12_init 35 = .ok (.iconst 4, 1) := by decide +kernel
theorem dX12_init_36 : decode cX12_init 36 = .ok (.newarray .int, 2) := by decide +kernel
theorem dX12_init_38 : decode cX12_init 38 = .ok (.putfield 23, 3) := by decide +kernel
theorem dX12_init_41 : decode cX12_init 41 = .ok (.aload_n 0, 1) := by decide +kernel
theorem dX12_init_42 : decode cX12_init 42 = .ok (.bipush 100, 2) := by decide +kernel
theorem dX12_init_44 : decode cX12_init 44 = .ok (.newarray .int, 2) := by decide +kernel
theorem dX12_init_46 : decode cX12_init 46 = .ok (.putfield 26, 3) := by decide +kernel
theorem dX12_init_49 : decode cX12_init 49 = .ok (.aload_n 0, 1) := by decide +kernel
theorem dX12_init_50 : decode cX12_init 50 = .ok (.iconst 4, 1) := by decide +kernel
theorem dX12_init_51 : decode cX12_init 51 = .ok (.newarray .int, 2) := by decide +kernel
theorem dX12_init_53 : decode cX12_init 53 = .ok (.putfield 29, 3) := by decide +kernel
theorem dX12_init_56 : decode cX12_init 56 = .ok (.aload_n 0, 1) := by decide +kernel
theorem dX12_init_57 : decode cX12_init 57 = .ok (.bipush 32, 2) := by decide +kernel
theorem dX12_init_59 : decode cX12_init 59 = .ok (.newarray .int, 2) := by decide +kernel
theorem dX12_init_61 : decode cX12_init 61 = .ok (.putfield 32, 3) := by decide +kernel
theorem dX12_init_64 : decode cX12_init 64 = .ok (.aload_n 0, 1) := by decide +kernel
theorem dX12_init_65 : decode cX12_init 65 = .ok (.bipush 32, 2) := by decide +kernel
theorem dX12_init_67 : decode cX12_init 67 = .ok (.newarray .int, 2) := by decide +kernel
theorem dX12_init_69 : decode cX12_init 69 = .ok (.putfield 35, 3) := by decide +kernel
theorem dX12_init_72 : decode cX12_init 72 = .ok (.aload_n 0, 1) := by decide +kernel
theorem dX12_init_73 : decode cX12_init 73 = .ok (.bipush 32, 2) := by decide +kernel
theorem dX12_init_75 : decode cX12_init 75 = .ok (.newarray .int, 2) := by decide +kernel
theorem dX12_init_77 : decode cX12_init 77 = .ok (.putfield 38, 3) := by decide +kernel
theorem dX12_init_80 : decode cX12_init 80 = .ok (.aload_n 0, 1) := by decide +kernel
theorem dX12_init_81 : decode cX12_init 81 = .ok (.bipush 32, 2) := by decide +kernel
theorem dX12_init_83 : decode cX12_init 83 = .ok (.newarray .int, 2) := by decide +kernel
theorem dX12_init_85 : decode cX12_init 85 = .ok (.putfield 41, 3) := by decide +kernel
theorem dX12_init_88 : decode cX12_init 88 = .ok (.aload_n 0, 1) := by decide +kernel
theorem dX12_init_89 : decode cX12_init 89 = .ok (.iconst 4, 1) := by decide +kernel
theorem dX12_init_90 : decode cX12_init 90 = .ok (.newarray .int, 2) := by decide +kernel
theorem dX12_init_92 : decode cX12_init 92 = .ok (.putfield 44, 3) := by decide +kernel
theorem dX12_init_95 : decode cX12_init 95 = .ok (.aload_n 0, 1) := by decide +kernel
theorem dX12_init_96 : decode cX12_init 96 = .ok (.bipush 80, 2) := by decide +kernel
theorem dX12_init_98 : decode cX12_init 98 = .ok (.newarray .int, 2) := by decide +kernel
theorem dX12_init_100 : decode cX12_init 100 = .ok (.putfield 47, 3) := by decide +kernel
theorem dX12_init_103 : decode cX12_init 103 = .ok (.aload_n 0, 1) := by decide +kernel
theorem dX12_init_104 : decode cX12_init 104 = .ok (.bipush 80, 2) := by decide +kernel
theorem dX12_init_106 : decode cX12_init 106 = .ok (.newarray .int, 2) := by decide +kernel
theorem dX12_init_108 : decode cX12_init 108 = .ok (.putfield 50, 3) := by decide +kernel
theorem dX12_init_111 : decode cX12_init 111 = .ok (.aload_n 0, 1) := by decide +kernel
theorem dX12_init_112 : decode cX12_init 112 = .ok (.bipush 80, 2) := by decide +kernel
theorem dX12_init_114 : decode cX12_init 114 = .ok (.newarray .int, 2) := by decide +kernel
theorem dX12_init_116 : decode cX12_init 116 = .ok (.putfield 53, 3) := by decide +kernel
theorem dX12_init_119 : decode cX12_init 119 = .ok (.aload_n 0, 1) := by decide +kernel
theorem dX12_init_120 : decode cX12_init 120 = .ok (.bipush 80, 2) := by decide +kernel
theorem dX12_init_122 : decode cX12_init 122 = .ok (.newarray .int, 2) := by decide +kernel
theorem dX12_init_124 : decode cX12_init 124 = .ok (.putfield 56, 3) := by decide +kernel
theorem dX12_init_127 : decode cX12_init 127 = .ok (.aload_n 0, 1) := by decide +kernel
theorem dX12_init_128 : decode cX12_init 128 = .ok (.bipush 80, 2) := by decide +kernel
theorem dX12_init_130 : decode cX12_init 130 = .ok (.newarray .boolean, 2) := by decide +kernel
theorem dX12_init_132 : decode cX12_init 132 = .ok (.putfield 59, 3) := by decide +kernel
theorem dX12_init_135 : decode cX12_init 135 = .ok (.aload_n 0, 1) := by decide +kernel
theorem dX12_init_136 : decode cX12_init 136 = .ok (.bipush 80, 2) := by decide +kernel
theorem dX12_init_138 : decode cX12_init 138 = .ok (.newarray .int, 2) := by decide +kernel
theorem dX12_init_140 : decode cX12_init 140 = .ok (.putfield 63, 3) := by decide +kernel
theorem dX12_init_143 : decode cX12_init 143 = .ok (.aload_n 0, 1) := by decide +kernel
theorem dX12_init_144 : decode cX12_init 144 = .ok (.bipush 80, 2) := by decide +kernel
theorem dX12_init_146 : decode cX12_init 146 = .ok (.newarray .boolean, 2) := by decide +kernel
theorem dX12_init_148 : decode cX12_init 148 = .ok (.putfield 66, 3) := by decide +kernel
theorem dX12_init_151 : decode cX12_init 151 = .ok (.aload_n 0, 1) := by decide +kernel
theorem dX12_init_152 : decode cX12_init 152 = .ok (.bipush 80, 2) := by decide +kernel
theorem dX12_init_154 : decode cX12_init 154 = .ok (.newarray .boolean, 2) := by decide +kernel
theorem dX12_init_156 : decode cX12_init 156 = .ok (.putfield 69, 3) := by decide +kernel
theorem dX12_init_159 : decode cX12_init 159 = .ok (.aload_n 0, 1) := by decide +kernel
theorem dX12_init_160 : decode cX12_init 160 = .ok (.iconst 4, 1) := by decide +kernel
theorem dX12_init_161 : decode cX12_init 161 = .ok (.newarray .int, 2) := by decide +kernel
theorem dX12_init_163 : decode cX12_init 163 = .ok (.putfield 72, 3) := by decide +kernel
theorem dX12_init_166 : decode cX12_init 166 = .ok (.aload_n 0, 1) := by decide +kernel
theorem dX12_init_167 : decode cX12_init 167 = .ok (.sipush 960, 3) := by decide +kernel
theorem dX12_init_170 : decode cX12_init 170 = .ok (.newarray .int, 2) := by decide +kernel
theorem dX12_init_172 : decode cX12_init 172 = .ok (.putfield 75, 3) := by decide +kernel
theorem dX12_init_175 : decode cX12_init 175 = .ok (.aload_n 0, 1) := by decide +kernel
theorem dX12_init_176 : decode cX12_init 176 = .ok (.iconst 4, 1) := by decide +kernel
theorem dX12_init_177 : decode cX12_init 177 = .ok (.newarray .int, 2) := by decide +kernel
theorem dX12_init_179 : decode cX12_init 179 = .ok (.putfield 78, 3) := by decide +kernel
theorem dX12_init_182 : decode cX12_init 182 = .ok (.aload_n 0, 1) := by decide +kernel
theorem dX12_init_183 : decode cX12_init 183 = .ok (.bipush 120, 2) := by decide +kernel
theorem dX12_init_185 : decode cX12_init 185 = .ok (.newarray .int, 2) := by decide +kernel
theorem dX12_init_187 : decode cX12_init 187 = .ok (.putfield 81, 3) := by decide +kernel
theorem dX12_init_190 : decode cX12_init 190 = .ok (.aload_n 0, 1) := by decide +kernel
theorem dX12_init_191 : decode cX12_init 191 = .ok (.bipush 120, 2) := by decide +kernel
theorem dX12_init_193 : decode cX12_init 193 = .ok (.newarray .int, 2) := by decide +kernel
theorem dX12_init_195 : decode cX12_init 195 = .ok (.putfield 84, 3) := by decide +kernel
theorem dX12_init_198 : decode cX12_init 198 = .ok (.aload_n 0, 1) := by decide +kernel
theorem dX12_init_199 : decode cX12_init 199 = .ok (.bipush 120, 2) := by decide +kernel
theorem dX12_init_201 : decode cX12_init 201 = .ok (.newarray .int, 2) := by decide +kernel
theorem dX12_init_203 : decode cX12_init 203 = .ok (.putfield 87, 3) := by decide +kernel
theorem dX12_init_206 : decode cX12_init 206 = .ok (.aload_n 0, 1) := by decide +kernel
theorem dX12_init_207 : decode cX12_init 207 = .ok (.bipush 120, 2) := by decide +kernel
theorem dX12_init_209 : decode cX12_init 209 = .ok (.newarray .int, 2) := by decide +kernel
theorem dX12_init_211 : decode cX12_init 211 = .ok (.putfield 90, 3) := by decide +kernel
theorem dX12_init_214 : decode cX12_init 214 = .ok (.aload_n 0, 1) := by decide +kernel
theorem dX12_init_215 : decode cX12_init 215 = .ok (.bipush 120, 2) := by decide +kernel
theorem dX12_init_217 : decode cX12_init 217 = .ok (.newarray .int, 2) := by decide +kernel
theorem dX12_init_219 : decode cX12_init 219 = .ok (.putfield 93, 3) := by decide +kernel
theorem dX12_init_222 : decode cX12_init 222 = .ok (.aload_n 0, 1) := by decide +kernel
theorem dX12_init_223 : decode cX12_init 223 = .ok (.bipush 120, 2) := by decide +kernel
theorem dX12_init_225 : decode cX12_init 225 = .ok (.newarray .int, 2) := by decide +kernel
theorem dX12_init_227 : decode cX12_init 227 = .ok (.putfield 96, 3) := by decide +kernel
theorem dX12_init_230 : decode cX12_init 230 = .ok (.aload_n 0, 1) := by decide +kernel
theorem dX12_init_231 : decode cX12_init 231 = .ok (.bipush 120, 2) := by decide +kernel
theorem dX12_init_233 : decode cX12_init 233 = .ok (.newarray .int, 2) := by decide +kernel
theorem dX12_init_235 : decode cX12_init 235 = .ok (.putfield 99, 3) := by decide +kernel
theorem dX12_init_238 : decode cX12_init 238 = .ok (.aload_n 0, 1) := by decide +kernel
theorem dX12_init_239 : decode cX12_init 239 = .ok (.bipush 120, 2) := by decide +kernel
theorem dX12_init_241 : decode cX12_init 241 = .ok (.newarray .int, 2) := by decide +kernel
theorem dX12_init_243 : decode cX12_init 243 = .ok (.putfield 102, 3) := by decide +kernel
theorem dX12_init_246 : decode cX12_init 246 = .ok (.aload_n 0, 1) := by decide +kernel
theorem dX12_init_247 : decode cX12_init 247 = .ok (.sipush 1320, 3) := by decide +kernel
theorem dX12_init_250 : decode cX12_init 250 = .ok (.newarray .int, 2) := by decide +kernel
theorem dX12_init_252 : decode cX12_init 252 = .ok (.putfield 105, 3) := by decide +kernel
theorem dX12_init_255 : decode cX12_init 255 = .ok (.aload_n 0, 1) := by decide +kernel
theorem dX12_init_256 : decode cX12_init 256 = .ok (.sipush 268, 3) := by decide +kernel
theorem dX12_init_259 : decode cX12_init 259 = .ok (.newarray .int, 2) := by decide +kernel
theorem dX12_init_261 : decode cX12_init 261 = .ok (.putfield 108, 3) := by decide +kernel
theorem dX12_init_264 : decode cX12_init 264 = .ok (.aload_n 0, 1) := by decide +kernel
theorem dX12_init_265 : decode cX12_init 265 = .ok (.sipush 4288, 3) := by decide +kernel
theorem dX12_init_268 : decode cX12_init 268 = .ok (.newarray .int, 2) := by decide +kernel
theorem dX12_init_270 : decode cX12_init 270 = .ok (.putfield 111, 3) := by decide +kernel
theorem dX12_init_273 : decode cX12_init 273 = .ok (.aload_n 0, 1) := by decide +kernel
theorem dX12_init_274 : decode cX12_init 274 = .ok (.sipush 4288, 3) := by decide +kernel
theorem dX12_init_277 : decode cX12_init 277 = .ok (.newarray .int, 2) := by decide +kernel
