theorem dX12_readBy_112 : decode cX12_readBy 112 = .ok (.aload_n 0, 1) := by decide +kernel
theorem dX12_readBy_113 : decode cX12_readBy 113 = .ok (.aload_n 0, 1) := by decide +kernel
theorem dX12_readBy_114 : decode cX12_readBy 114 = .ok (.getfield 114, 3) := by decide +kernel
theorem dX12_readBy_117 : decode cX12_readBy 117 = .ok (.iload_n 3, 1) := by decide +kernel
theorem dX12_readBy_118 : decode cX12_readBy 118 = .ok (.iaload, 1) := by decide +kernel
theorem dX12_readBy_119 : decode cX12_readBy 119 = .ok (.iconst 2, 1) := by decide +kernel
theorem dX12_readBy_120 : decode cX12_readBy 120 = .ok (.if_icmp .ne 8, 3) := by decide +kernel
theorem dX12_readBy_123 : decode cX12_readBy 123 = .ok (.iload 4, 2) := by decide +kernel
theorem dX12_readBy_125 : decode cX12_readBy 125 = .ok (.goto 7, 3) := by decide +kernel
theorem dX12_readBy_128 : decode cX12_readBy 128 = .ok (.aload_n 0, 1) := by decide +kernel
theorem dX12_readBy_129 : decode cX12_readBy 129 = .ok (.getfield 401, 3) := by decide +kernel
theorem dX12_readBy_132 : decode cX12_readBy 132 = .ok (.putfield 401, 3) := by decide +kernel
theorem dX12_readBy_135 : decode cX12_readBy 135 = .ok (.aload_n 0, 1) := by decide +kernel
theorem dX12_readBy_136 : decode cX12_readBy 136 = .ok (.dup, 1) := by decide +kernel
theorem dX12_readBy_137 : decode cX12_readBy 137 = .ok (.getfield 404, 3) := by decide +kernel
theorem dX12_readBy_140 : decode cX12_readBy 140 = .ok (.aload_n 0, 1) := by decide +kernel
theorem dX12_readBy_141 : decode cX12_readBy 141 = .ok (.getfield 114, 3) := by decide +kernel
theorem dX12_readBy_144 : decode cX12_readBy 144 = .ok (.iload_n 3, 1) := by decide +kernel
theorem dX12_readBy_145 : decode cX12_readBy 145 = .ok (.iaload, 1) := by decide +kernel
theorem dX12_readBy_146 : decode cX12_readBy 146 = .ok (.iconst 3, 1) := by decide +kernel
theorem dX12_readBy_147 : decode cX12_readBy 147 = .ok (.if_icmp .ne 8, 3) := by decide +kernel
theorem dX12_readBy_150 : decode cX12_readBy 150 = .ok (.iload 4, 2) := by decide +kernel
theorem dX12_readBy_152 : decode cX12_readBy 152 = .ok (.goto 20, 3) := by decide +kernel
theorem dX12_readBy_155 : decode cX12_readBy 155 = .ok (.aload_n 0, 1) := by decide +kernel
theorem dX12_readBy_156 : decode cX12_readBy 156 = .ok (.getfield 114, 3) := by decide +kernel
theorem dX12_readBy_159 : decode cX12_readBy 159 = .ok (.iload_n 3, 1) := by decide +kernel
theorem dX12_readBy_160 : decode cX12_readBy 160 = .ok (.iaload, 1) := by decide +kernel
theorem dX12_readBy_161 : decode cX12_readBy 161 = .ok (.iconst 4, 1) := by decide +kernel
theorem dX12_readBy_162 : decode cX12_readBy 162 = .ok (.if_icmp .ne 9, 3) := by decide +kernel
theorem dX12_readBy_165 : decode cX12_readBy 165 = .ok (.iload 4, 2) := by decide +kernel
theorem dX12_readBy_167 : decode cX12_readBy 167 = .ok (.ineg, 1) := by decide +kernel
theorem dX12_readBy_168 : decode cX12_readBy 168 = .ok (.goto 4, 3) := by decide +kernel
theorem dX12_readBy_171 : decode cX12_readBy 171 = .ok (.iconst 0, 1) := by decide +kernel
theorem dX12_readBy_172 : decode cX12_readBy 172 = .ok (.iadd, 1) := by decide +kernel
theorem dX12_readBy_173 : decode cX12_readBy 173 = .ok (.putfield 404, 3) := by decide +kernel
theorem dX12_readBy_176 : decode cX12_readBy 176 = .ok (.iinc 2 1, 3) := by decide +kernel
theorem dX12_readBy_179 : decode cX12_readBy 179 = .ok (.goto (-157), 3) := by decide +kernel
theorem dX12_readBy_182 : decode cX12_readBy 182 = .ok (.return_, 1) := by decide +kernel
theorem dX12_read_0 : decode cX12_read 0 = .ok (.aload_n 0, 1) := by decide +kernel
theorem dX12_read_1 : decode cX12_read 1 = .ok (.iconst 0, 1) := by decide +kernel
theorem dX12_read_2 : decode cX12_read 2 = .ok (.putfield 202, 3) := by decide +kernel
theorem dX12_read_5 : decode cX12_read 5 = .ok (.aload_n 0, 1) := by decide +kernel
theorem dX12_read_6 : decode cX12_read 6 = .ok (.iload_n 1, 1) := by decide +kernel
theorem dX12_read_7 : decode cX12_read 7 = .ok (.iload_n 2, 1) := by decide +kernel
theorem dX12_read_8 : decode cX12_read 8 = .ok (.invokevirtual 410, 3) := by decide +kernel
theorem dX12_read_11 : decode cX12_read 11 = .ok (.ifCond .eq 20, 3) := by decide +kernel
theorem dX12_read_14 : decode cX12_read 14 = .ok (.iload_n 3, 1) := by decide +kernel
theorem dX12_read_15 : decode cX12_read 15 = .ok (.invokestatic 226, 3) := by decide +kernel
theorem dX12_read_18 : decode cX12_read 18 = .ok (.ifCond .eq 13, 3) := by decide +kernel
theorem dX12_read_21 : decode cX12_read 21 = .ok (.iload 4, 2) := by decide +kernel
theorem dX12_read_23 : decode cX12_read 23 = .ok (.iconst 0, 1) := by decide +kernel
theorem dX12_read_24 : decode cX12_read 24 = .ok (.iconst 3, 1) := by decide +kernel
theorem dX12_read_25 : decode cX12_read 25 = .ok (.invokestatic 218, 3) := by decide +kernel
theorem dX12_read_28 : decode cX12_read 28 = .ok (.ifCond .ne 6, 3) := by decide +kernel
theorem dX12_read_31 : decode cX12_read 31 = .ok (.bipush (-100), 2) := by decide +kernel
theorem dX12_read_33 : decode cX12_read 33 = .ok (.ireturn, 1) := by decide +kernel
theorem dX12_read_34 : decode cX12_read 34 = .ok (.aload_n 0, 1) := by decide +kernel
theorem dX12_read_35 : decode cX12_read 35 = .ok (.iload_n 1, 1) := by decide +kernel
theorem dX12_read_36 : decode cX12_read 36 = .ok (.iload_n 2, 1) := by decide +kernel
theorem dX12_read_37 : decode cX12_read 37 = .ok (.iload_n 3, 1) := by decide +kernel
theorem dX12_read_38 : decode cX12_read 38 = .ok (.invokevirtual 413, 3) := by decide +kernel
theorem dX12_read_41 : decode cX12_read 41 = .ok (.aload_n 0, 1) := by decide +kernel
theorem dX12_read_42 : decode cX12_read 42 = .ok (.iload_n 3, 1) := by decide +kernel
theorem dX12_read_43 : decode cX12_read 43 = .ok (.invokevirtual 417, 3) := by decide +kernel
theorem dX12_read_46 : decode cX12_read 46 = .ok (.iload 4, 2) := by decide +kernel
theorem dX12_read_48 : decode cX12_read 48 = .ok (.ifCond .ne 19, 3) := by decide +kernel
theorem dX12_read_51 : decode cX12_read 51 = .ok (.aload_n 0, 1) := by decide +kernel
theorem dX12_read_52 : decode cX12_read 52 = .ok (.getfield 395, 3) := by decide +kernel
theorem dX12_read_55 : decode cX12_read 55 = .ok (.iconst (-1), 1) := by decide +kernel
theorem dX12_read_56 : decode cX12_read 56 = .ok (.if_icmp .ne 7, 3) := by decide +kernel
theorem dX12_read_59 : decode cX12_read 59 = .ok (.iconst 0, 1) := by decide +kernel
theorem dX12_read_60 : decode cX12_read 60 = .ok (.goto 37, 3) := by decide +kernel
theorem dX12_read_63 : decode cX12_read 63 = .ok (.iconst 1, 1) := by decide +kernel
theorem dX12_read_64 : decode cX12_read 64 = .ok (.goto 33, 3) := by decide +kernel
theorem dX12_read_67 : decode cX12_read 67 = .ok (.iload 4, 2) := by decide +kernel
theorem dX12_read_69 : decode cX12_read 69 = .ok (.iconst 1, 1) := by decide +kernel
theorem dX12_read_70 : decode cX12_read 70 = .ok (.if_icmp .ne 10, 3) := by decide +kernel
theorem dX12_read_73 : decode cX12_read 73 = .ok (.aload_n 0, 1) := by decide +kernel
theorem dX12_read_74 : decode cX12_read 74 = .ok (.getfield 395, 3) := by decide +kernel
theorem dX12_read_77 : decode cX12_read 77 = .ok (.goto 20, 3) := by decide +kernel
theorem dX12_read_80 : decode cX12_read 80 = .ok (.iload 4, 2) := by decide +kernel
theorem dX12_read_82 : decode cX12_read 82 = .ok (.iconst 2, 1) := by decide +kernel
theorem dX12_read_83 : decode cX12_read 83 = .ok (.if_icmp .ne 10, 3) := by decide +kernel
theorem dX12_read_86 : decode cX12_read 86 = .ok (.aload_n 0, 1) := by decide +kernel
theorem dX12_read_87 : decode cX12_read 87 = .ok (.getfield 398, 3) := by decide +kernel
theorem dX12_read_90 : decode cX12_read 90 = .ok (.goto 7, 3) := by decide +kernel
theorem dX12_read_93 : decode cX12_read 93 = .ok (.aload_n 0, 1) := by decide +kernel
theorem dX12_read_94 : decode cX12_read 94 = .ok (.getfield 401, 3) := by decide +kernel
theorem dX12_read_97 : decode cX12_read 97 = .ok (.ireturn, 1) := by decide +kernel
theorem dX12_mayWed_0 : decode cX12_mayWed 0 = .ok (.aload_n 0, 1) := by decide +kernel
theorem dX12_mayWed_1 : decode cX12_mayWed 1 = .ok (.getfield 47, 3) := by decide +kernel
theorem dX12_mayWed_4 : decode cX12_mayWed 4 = .ok (.iload_n 1, 1) := by decide +kernel
theorem dX12_mayWed_5 : decode cX12_mayWed 5 = .ok (.iaload, 1) := by decide +kernel
theorem dX12_mayWed_6 : decode cX12_mayWed 6 = .ok (.aload_n 0, 1) := by decide +kernel
theorem dX12_mayWed_7 : decode cX12_mayWed 7 = .ok (.getfield 47, 3) := by decide +kernel
theorem dX12_mayWed_10 : decode cX12_mayWed 10 = .ok (.iload_n 2, 1) := by decide +kernel
theorem dX12_mayWed_11 : decode cX12_mayWed 11 = .ok (.iaload, 1) := by decide +kernel
theorem dX12_mayWed_12 : decode cX12_mayWed 12 = .ok (.if_icmp .ne 5, 3) := by decide +kernel
theorem dX12_mayWed_15 : decode cX12_mayWed 15 = .ok (.iconst 0, 1) := by decide +kernel
theorem dX12_mayWed_16 : decode cX12_mayWed 16 = .ok (.ireturn, 1) := by decide +kernel
theorem dX12_mayWed_17 : decode cX12_mayWed 17 = .ok (.aload_n 0, 1) := by decide +kernel
theorem dX12_mayWed_18 : decode cX12_mayWed 18 = .ok (.getfield 35, 3) := by decide +kernel
theorem dX12_mayWed_21 : decode cX12_mayWed 21 = .ok (.aload_n 0, 1) := by decide +kernel
theorem dX12_mayWed_22 : decode cX12_mayWed 22 = .ok (.getfield 47, 3) := by decide +kernel
theorem dX12_mayWed_25 : decode cX12_mayWed 25 = .ok (.iload_n 1, 1) := by decide +kernel
theorem dX12_mayWed_26 : decode cX12_mayWed 26 = .ok (.iaload, 1) := by decide +kernel
theorem dX12_mayWed_27 : decode cX12_mayWed 27 = .ok (.iaload, 1) := by decide +kernel
theorem dX12_mayWed_28 : decode cX12_mayWed 28 = .ok (.istore_n 3, 1) := by decide +kernel
theorem dX12_mayWed_29 : decode cX12_mayWed 29 = .ok (.aload_n 0, 1) := by decide +kernel
theorem dX12_mayWed_30 : decode cX12_mayWed 30 = .ok (.getfield 35, 3) := by decide +kernel
theorem dX12_mayWed_33 : decode cX12_mayWed 33 = .ok (.aload_n 0, 1) := by decide +kernel
theorem dX12_mayWed_34 : decode cX12_mayWed 34 = .ok (.getfield 47, 3) := by decide +kernel
theorem dX12_mayWed_37 : decode cX12_mayWed 37 = .ok (.iload_n 2, 1) := by decide +kernel
theorem dX12_mayWed_38 : decode cX12_mayWed 38 = .ok (.iaload, 1) := by decide +kernel
theorem dX12_mayWed_39 : decode cX12_mayWed 39 = .ok (.iaload, 1) := by decide +kernel
theorem dX12_mayWed_40 : decode cX12_mayWed 40 = .ok (.istore 4, 2) := by decide +kernel
theorem dX12_mayWed_42 : decode cX12_mayWed 42 = .ok (.aload_n 0, 1) := by decide +kernel
theorem dX12_mayWed_43 : decode cX12_mayWed 43 = .ok (.iload_n 1, 1) := by decide +kernel
theorem dX12_mayWed_44 : decode cX12_mayWed 44 = .ok (.iload_n 2, 1) := by decide +kernel
theorem dX12_mayWed_45 : decode cX12_mayWed 45 = .ok (.iload_n 3, 1) := by decide +kernel
theorem dX12_mayWed_46 : decode cX12_mayWed 46 = .ok (.invokevirtual 413, 3) := by decide +kernel
theorem dX12_mayWed_49 : decode cX12_mayWed 49 = .ok (.aload_n 0, 1) := by decide +kernel
theorem dX12_mayWed_50 : decode cX12_mayWed 50 = .ok (.iload_n 3, 1) := by decide +kernel
theorem dX12_mayWed_51 : decode cX12_mayWed 51 = .ok (.invokevirtual 417, 3) := by decide +kernel
theorem dX12_mayWed_54 : decode cX12_mayWed 54 = .ok (.aload_n 0, 1) := by decide +kernel
theorem dX12_mayWed_55 : decode cX12_mayWed 55 = .ok (.getfield 395, 3) := by decide +kernel
theorem dX12_mayWed_58 : decode cX12_mayWed 58 = .ok (.iconst (-1), 1) := by decide +kernel
theorem dX12_mayWed_59 : decode cX12_mayWed 59 = .ok (.if_icmp .ne 7, 3) := by decide +kernel
theorem dX12_mayWed_62 : decode cX12_mayWed 62 = .ok (.iconst 1, 1) := by decide +kernel
theorem dX12_mayWed_63 : decode cX12_mayWed 63 = .ok (.goto 4, 3) := by decide +kernel
theorem dX12_mayWed_66 : decode cX12_mayWed 66 = .ok (.iconst 0, 1) := by decide +kernel
theorem dX12_mayWed_67 : decode cX12_mayWed 67 = .ok (.istore 5, 2) := by decide +kernel
theorem dX12_mayWed_69 : decode cX12_mayWed 69 = .ok (.aload_n 0, 1) := by decide +kernel
theorem dX12_mayWed_70 : decode cX12_mayWed 70 = .ok (.aload_n 0, 1) := by decide +kernel
theorem dX12_mayWed_71 : decode cX12_mayWed 71 = .ok (.getfield 398, 3) := by decide +kernel
theorem dX12_mayWed_74 : decode cX12_mayWed 74 = .ok (.putfield 420, 3) := by decide +kernel
theorem dX12_mayWed_77 : decode cX12_mayWed 77 = .ok (.aload_n 0, 1) := by decide +kernel
theorem dX12_mayWed_78 : decode cX12_mayWed 78 = .ok (.aload_n 0, 1) := by decide +kernel
theorem dX12_mayWed_79 : decode cX12_mayWed 79 = .ok (.getfield 401, 3) := by decide +kernel
theorem dX12_mayWed_82 : decode cX12_mayWed 82 = .ok (.putfield 423, 3) := by decide +kernel
theorem dX12_mayWed_85 : decode cX12_mayWed 85 = .ok (.aload_n 0, 1) := by decide +kernel
theorem dX12_mayWed_86 : decode cX12_mayWed 86 = .ok (.iload_n 1, 1) := by decide +kernel
theorem dX12_mayWed_87 : decode cX12_mayWed 87 = .ok (.iload_n 2, 1) := by decide +kernel
theorem dX12_mayWed_88 : decode cX12_mayWed 88 = .ok (.iload 4, 2) := by decide +kernel
theorem dX12_mayWed_90 : decode cX12_mayWed 90 = .ok (.invokevirtual 413, 3) := by decide +kernel
theorem dX12_mayWed_93 : decode cX12_mayWed 93 = .ok (.aload_n 0, 1) := by decide +kernel
theorem dX12_mayWed_94 : decode cX12_mayWed 94 = .ok (.iload 4, 2) := by decide +kernel
theorem dX12_mayWed_96 : decode cX12_mayWed 96 = .ok (.invokevirtual 417, 3) := by decide +kernel
theorem dX12_mayWed_99 : decode cX12_mayWed 99 = .ok (.aload_n 0, 1) := by decide +kernel
theorem dX12_mayWed_100 : decode cX12_mayWed 100 = .ok (.aload_n 0, 1) := by decide +kernel
theorem dX12_mayWed_101 : decode cX12_mayWed 101 = .ok (.getfield 398, 3) := by decide +kernel
theorem dX12_mayWed_104 : decode cX12_mayWed 104 = .ok (.aload_n 0, 1) := by decide +kernel
theorem dX12_mayWed_105 : decode cX12_mayWed 105 = .ok (.getfield 420, 3) := by decide +kernel
theorem dX12_mayWed_108 : decode cX12_mayWed 108 = .ok (.if_icmp .le 10, 3) := by decide +kernel
theorem dX12_mayWed_111 : decode cX12_mayWed 111 = .ok (.aload_n 0, 1) := by decide +kernel
theorem dX12_mayWed_112 : decode cX12_mayWed 112 = .ok (.getfield 398, 3) := by decide +kernel
theorem dX12_mayWed_115 : decode cX12_mayWed 115 = .ok (.goto 7, 3) := by decide +kernel
theorem dX12_mayWed_118 : decode cX12_mayWed 118 = .ok (.aload_n 0, 1) := by decide +kernel
theorem dX12_mayWed_119 : decode cX12_mayWed 119 = .ok (.getfield 420, 3) := by decide +kernel
theorem dX12_mayWed_122 : decode cX12_mayWed 122 = .ok (.putfield 420, 3) := by decide +kernel
theorem dX12_mayWed_125 : decode cX12_mayWed 125 = .ok (.iload 5, 2) := by decide +kernel
theorem dX12_mayWed_127 : decode cX12_mayWed 127 = .ok (.ifCond .eq 15, 3) := by decide +kernel
theorem dX12_mayWed_130 : decode cX12_mayWed 130 = .ok (.aload_n 0, 1) := by decide +kernel
theorem dX12_mayWed_131 : decode cX12_mayWed 131 = .ok (.getfield 395, 3) := by decide +kernel
theorem dX12_mayWed_134 : decode cX12_mayWed 134 = .ok (.iconst (-1), 1) := by decide +kernel
theorem dX12_mayWed_135 : decode cX12_mayWed 135 = .ok (.if_icmp .ne 7, 3) := by decide +kernel
theorem dX12_mayWed_138 : decode cX12_mayWed 138 = .ok (.iconst 1, 1) := by decide +kernel
theorem dX12_mayWed_139 : decode cX12_mayWed 139 = .ok (.goto 4, 3) := by decide +kernel
theorem dX12_mayWed_142 : decode cX12_mayWed 142 = .ok (.iconst 0, 1) := by decide +kernel
theorem dX12_mayWed_143 : decode cX12_mayWed 143 = .ok (.ireturn, 1) := by decide +kernel
theorem dX12_may_0 : decode cX12_may 0 = .ok (.aload_n 0, 1) := by decide +kernel
theorem dX12_may_1 : decode cX12_may 1 = .ok (.iconst 0, 1) := by decide +kernel
theorem dX12_may_2 : decode cX12_may 2 = .ok (.putfield 202, 3) := by decide +kernel
theorem dX12_may_5 : decode cX12_may 5 = .ok (.aload_n 0, 1) := by decide +kernel
theorem dX12_may_6 : decode cX12_may 6 = .ok (.iload_n 1, 1) := by decide +kernel
theorem dX12_may_7 : decode cX12_may 7 = .ok (.iload_n 2, 1) := by decide +kernel
theorem dX12_may_8 : decode cX12_may 8 = .ok (.invokevirtual 410, 3) := by decide +kernel
theorem dX12_may_11 : decode cX12_may 11 = .ok (.ifCond .eq 16, 3) := by decide +kernel
theorem dX12_may_14 : decode cX12_may 14 = .ok (.aload_n 0, 1) := by decide +kernel
theorem dX12_may_15 : decode cX12_may 15 = .ok (.iload_n 1, 1) := by decide +kernel
theorem dX12_may_16 : decode cX12_may 16 = .ok (.iload_n 2, 1) := by decide +kernel
theorem dX12_may_17 : decode cX12_may 17 = .ok (.invokevirtual 426, 3) := by decide +kernel
theorem dX12_may_20 : decode cX12_may 20 = .ok (.ifCond .eq 7, 3) := by decide +kernel
theorem dX12_may_23 : decode cX12_may 23 = .ok (.iconst 1, 1) := by decide +kernel
theorem dX12_may_24 : decode cX12_may 24 = .ok (.goto 4, 3) := by decide +kernel
theorem dX12_may_27 : decode cX12_may 27 = .ok (.iconst 0, 1) := by decide +kernel
theorem dX12_may_28 : decode cX12_may 28 = .ok (.ireturn, 1) := by decide +kernel
theorem dX12_likingOf_0 : decode cX12_likingOf 0 = .ok (.aload_n 0, 1) := by decide +kernel
theorem dX12_likingOf_1 : decode cX12_likingOf 1 = .ok (.getfield 50, 3) := by decide +kernel
theorem dX12_likingOf_4 : decode cX12_likingOf 4 = .ok (.iload_n 1, 1) := by decide +kernel
theorem dX12_likingOf_5 : decode cX12_likingOf 5 = .ok (.iaload, 1) := by decide +kernel
theorem dX12_likingOf_6 : decode cX12_likingOf 6 = .ok (.ifCond .ne 7, 3) := by decide +kernel
theorem dX12_likingOf_9 : decode cX12_likingOf 9 = .ok (.iload_n 1, 1) := by decide +kernel
theorem dX12_likingOf_10 : decode cX12_likingOf 10 = .ok (.goto 4, 3) := by decide +kernel
theorem dX12_likingOf_13 : decode cX12_likingOf 13 = .ok (.iload_n 2, 1) := by decide +kernel
theorem dX12_likingOf_14 : decode cX12_likingOf 14 = .ok (.istore_n 3, 1) := by decide +kernel
theorem dX12_likingOf_15 : decode cX12_likingOf 15 = .ok (.aload_n 0, 1) := by decide +kernel
theorem dX12_likingOf_16 : decode cX12_likingOf 16 = .ok (.getfield 50, 3) := by decide +kernel
theorem dX12_likingOf_19 : decode cX12_likingOf 19 = .ok (.iload_n 1, 1) := by decide +kernel
theorem dX12_likingOf_20 : decode cX12_likingOf 20 = .ok (.iaload, 1) := by decide +kernel
theorem dX12_likingOf_21 : decode cX12_likingOf 21 = .ok (.ifCond .ne 7, 3) := by decide +kernel
theorem dX12_likingOf_24 : decode cX12_likingOf 24 = .ok (.iload_n 2, 1) := by decide +kernel
theorem dX12_likingOf_25 : decode cX12_likingOf 25 = .ok (.goto 4, 3) := by decide +kernel
theorem dX12_likingOf_28 : decode cX12_likingOf 28 = .ok (.iload_n 1, 1) := by decide +kernel
theorem dX12_likingOf_29 : decode cX12_likingOf 29 = .ok (.istore 4, 2) := by decide +kernel
theorem dX12_likingOf_31 : decode cX12_likingOf 31 = .ok (.aload_n 0, 1) := by decide +kernel
theorem dX12_likingOf_32 : decode cX12_likingOf 32 = .ok (.iload_n 3, 1) := by decide +kernel
theorem dX12_likingOf_33 : decode cX12_likingOf 33 = .ok (.iload 4, 2) := by decide +kernel
theorem dX12_likingOf_35 : decode cX12_likingOf 35 = .ok (.aload_n 0, 1) := by decide +kernel
theorem dX12_likingOf_36 : decode cX12_likingOf 36 = .ok (.getfield 35, 3) := by decide +kernel
theorem dX12_likingOf_39 : decode cX12_likingOf 39 = .ok (.aload_n 0, 1) := by decide +kernel
theorem dX12_likingOf_40 : decode cX12_likingOf 40 = .ok (.getfield 47, 3) := by decide +kernel
theorem dX12_likingOf_43 : decode cX12_likingOf 43 = .ok (.iload_n 1, 1) := by decide +kernel
theorem dX12_likingOf_44 : decode cX12_likingOf 44 = .ok (.iaload, 1) := by decide +kernel
theorem dX12_likingOf_45 : decode cX12_likingOf 45 = .ok (.iaload, 1) := by decide +kernel
theorem dX12_likingOf_46 : decode cX12_likingOf 46 = .ok (.invokevirtual 413, 3) := by decide +kernel
theorem dX12_likingOf_49 : decode cX12_likingOf 49 = .ok (.aload_n 0, 1) := by decide +kernel
theorem dX12_likingOf_50 : decode cX12_likingOf 50 = .ok (.getfield 159, 3) := by decide +kernel
theorem dX12_likingOf_53 : decode cX12_likingOf 53 = .ok (.bipush 10, 2) := by decide +kernel
theorem dX12_likingOf_55 : decode cX12_likingOf 55 = .ok (.aload_n 0, 1) := by decide +kernel
theorem dX12_likingOf_56 : decode cX12_likingOf 56 = .ok (.getfield 38, 3) := by decide +kernel
theorem dX12_likingOf_59 : decode cX12_likingOf 59 = .ok (.aload_n 0, 1) := by decide +kernel
theorem dX12_likingOf_60 : decode cX12_likingOf 60 = .ok (.getfield 47, 3) := by decide +kernel
theorem dX12_likingOf_63 : decode cX12_likingOf 63 = .ok (.iload_n 2, 1) := by decide +kernel
theorem dX12_likingOf_64 : decode cX12_likingOf 64 = .ok (.iaload, 1) := by decide +kernel
theorem dX12_likingOf_65 : decode cX12_likingOf 65 = .ok (.iaload, 1) := by decide +kernel
theorem dX12_likingOf_66 : decode cX12_likingOf 66 = .ok (.iastore, 1) := by decide +kernel
theorem dX12_likingOf_67 : decode cX12_likingOf 67 = .ok (.aload_n 0, 1) := by decide +kernel
theorem dX12_likingOf_68 : decode cX12_likingOf 68 = .ok (.iconst 5, 1) := by decide +kernel
theorem dX12_likingOf_69 : decode cX12_likingOf 69 = .ok (.aload_n 0, 1) := by decide +kernel
theorem dX12_likingOf_70 : decode cX12_likingOf 70 = .ok (.getfield 50, 3) := by decide +kernel
theorem dX12_likingOf_73 : decode cX12_likingOf 73 = .ok (.iload_n 1, 1) := by decide +kernel
theorem dX12_likingOf_74 : decode cX12_likingOf 74 = .ok (.iaload, 1) := by decide +kernel
theorem dX12_likingOf_75 : decode cX12_likingOf 75 = .ok (.iadd, 1) := by decide +kernel
theorem dX12_likingOf_76 : decode cX12_likingOf 76 = .ok (.invokevirtual 417, 3) := by decide +kernel
theorem dX12_likingOf_79 : decode cX12_likingOf 79 = .ok (.aload_n 0, 1) := by decide +kernel
theorem dX12_likingOf_80 : decode cX12_likingOf 80 = .ok (.getfield 404, 3) := by decide +kernel
theorem dX12_likingOf_83 : decode cX12_likingOf 83 = .ok (.ireturn, 1) := by decide +kernel
theorem dX12_liking_0 : decode cX12_liking 0 = .ok (.aload_n 0, 1) := by decide +kernel
theorem dX12_liking_1 : decode cX12_liking 1 = .ok (.iconst 0, 1) := by decide +kernel
theorem dX12_liking_2 : decode cX12_liking 2 = .ok (.putfield 202, 3) := by decide +kernel
theorem dX12_liking_5 : decode cX12_liking 5 = .ok (.aload_n 0, 1) := by decide +kernel
theorem dX12_liking_6 : decode cX12_liking 6 = .ok (.iload_n 1, 1) := by decide +kernel
theorem dX12_liking_7 : decode cX12_liking 7 = .ok (.invokevirtual 222, 3) := by decide +kernel
theorem dX12_liking_10 : decode cX12_liking 10 = .ok (.ifCond .eq 35, 3) := by decide +kernel
theorem dX12_liking_13 : decode cX12_liking 13 = .ok (.aload_n 0, 1) := by decide +kernel
theorem dX12_liking_14 : decode cX12_liking 14 = .ok (.iload_n 2, 1) := by decide +kernel
theorem dX12_liking_15 : decode cX12_liking 15 = .ok (.invokevirtual 222, 3) := by decide +kernel
theorem dX12_liking_18 : decode cX12_liking 18 = .ok (.ifCond .eq 27, 3) := by decide +kernel
theorem dX12_liking_21 : decode cX12_liking 21 = .ok (.aload_n 0, 1) := by decide +kernel
theorem dX12_liking_22 : decode cX12_liking 22 = .ok (.getfield 50, 3) := by decide +kernel
theorem dX12_liking_25 : decode cX12_liking 25 = .ok (.iload_n 1, 1) := by decide +kernel
theorem dX12_liking_26 : decode cX12_liking 26 = .ok (.iaload, 1) := by decide +kernel
theorem dX12_liking_27 : decode cX12_liking 27 = .ok (.aload_n 0, 1) := by decide +kernel
theorem dX12_liking_28 : decode cX12_liking 28 = .ok (.getfield 50, 3) := by decide +kernel
theorem dX12_liking_31 : decode cX12_liking 31 = .ok (.iload_n 2, 1) := by decide +kernel
theorem dX12_liking_32 : decode cX12_liking 32 = .ok (.iaload, 1) := by decide +kernel
theorem dX12_liking_33 : decode cX12_liking 33 = .ok (.if_icmp .eq 12, 3) := by decide +kernel
theorem dX12_liking_36 : decode cX12_liking 36 = .ok (.aload_n 0, 1) := by decide +kernel
theorem dX12_liking_37 : decode cX12_liking 37 = .ok (.iload_n 1, 1) := by decide +kernel
theorem dX12_liking_38 : decode cX12_liking 38 = .ok (.iload_n 2, 1) := by decide +kernel
theorem dX12_liking_39 : decode cX12_liking 39 = .ok (.invokevirtual 429, 3) := by decide +kernel
theorem dX12_liking_42 : decode cX12_liking 42 = .ok (.goto 6, 3) := by decide +kernel
theorem dX12_liking_45 : decode cX12_liking 45 = .ok (.ldc_w 432, 3) := by decide +kernel
theorem dX12_liking_48 : decode cX12_liking 48 = .ok (.ireturn, 1) := by decide +kernel
theorem dX12_ask_0 : decode cX12_ask 0 = .ok (.aload_n 0, 1) := by decide +kernel
theorem dX12_ask_1 : decode cX12_ask 1 = .ok (.iconst 0, 1) := by decide +kernel
theorem dX12_ask_2 : decode cX12_ask 2 = .ok (.putfield 202, 3) := by decide +kernel
theorem dX12_ask_5 : decode cX12_ask 5 = .ok (.aload_n 0, 1) := by decide +kernel
theorem dX12_ask_6 : decode cX12_ask 6 = .ok (.getfield 78, 3) := by decide +kernel
theorem dX12_ask_9 : decode cX12_ask 9 = .ok (.iconst 0, 1) := by decide +kernel
theorem dX12_ask_10 : decode cX12_ask 10 = .ok (.iaload, 1) := by decide +kernel
theorem dX12_ask_11 : decode cX12_ask 11 = .ok (.bipush 30, 2) := by decide +kernel
theorem dX12_ask_13 : decode cX12_ask 13 = .ok (.if_icmp .eq 37, 3) := by decide +kernel
theorem dX12_ask_16 : decode cX12_ask 16 = .ok (.aload_n 0, 1) := by decide +kernel
theorem dX12_ask_17 : decode cX12_ask 17 = .ok (.iload_n 1, 1) := by decide +kernel
theorem dX12_ask_18 : decode cX12_ask 18 = .ok (.iload_n 2, 1) := by decide +kernel
theorem dX12_ask_19 : decode cX12_ask 19 = .ok (.invokevirtual 410, 3) := by decide +kernel
theorem dX12_ask_22 : decode cX12_ask 22 = .ok (.ifCond .eq 28, 3) := by decide +kernel
theorem dX12_ask_25 : decode cX12_ask 25 = .ok (.aload_n 0, 1) := by decide +kernel
theorem dX12_ask_26 : decode cX12_ask 26 = .ok (.iload_n 1, 1) := by decide +kernel
theorem dX12_ask_27 : decode cX12_ask 27 = .ok (.invokevirtual 278, 3) := by decide +kernel
theorem dX12_ask_30 : decode cX12_ask 30 = .ok (.ifCond .eq 20, 3) := by decide +kernel
theorem dX12_ask_33 : decode cX12_ask 33 = .ok (.aload_n 0, 1) := by decide +kernel
theorem dX12_ask_34 : decode cX12_ask 34 = .ok (.iload_n 2, 1) := by decide +kernel
theorem dX12_ask_35 : decode cX12_ask 35 = .ok (.invokevirtual 278, 3) := by decide +kernel
theorem dX12_ask_38 : decode cX12_ask 38 = .ok (.ifCond .eq 12, 3) := by decide +kernel
theorem dX12_ask_41 : decode cX12_ask 41 = .ok (.aload_n 0, 1) := by decide +kernel
theorem dX12_ask_42 : decode cX12_ask 42 = .ok (.iload_n 1, 1) := by decide +kernel
theorem dX12_ask_43 : decode cX12_ask 43 = .ok (.iload_n 2, 1) := by decide +kernel
theorem dX12_ask_44 : decode cX12_ask 44 = .ok (.invokevirtual 426, 3) := by decide +kernel
theorem dX12_ask_47 : decode cX12_ask 47 = .ok (.ifCond .ne 5, 3) := by decide +kernel
theorem dX12_ask_50 : decode cX12_ask 50 = .ok (.iconst (-1), 1) := by decide +kernel
theorem dX12_ask_51 : decode cX12_ask 51 = .ok (.ireturn, 1) := by decide +kernel
theorem dX12_ask_52 : decode cX12_ask 52 = .ok (.aload_n 0, 1) := by decide +kernel
theorem dX12_ask_53 : decode cX12_ask 53 = .ok (.getfield 78, 3) := by decide +kernel
theorem dX12_ask_56 : decode cX12_ask 56 = .ok (.iconst 0, 1) := by decide +kernel
theorem dX12_ask_57 : decode cX12_ask 57 = .ok (.iaload, 1) := by decide +kernel
theorem dX12_ask_58 : decode cX12_ask 58 = .ok (.istore_n 3, 1) := by decide +kernel
theorem dX12_ask_59 : decode cX12_ask 59 = .ok (.aload_n 0, 1) := by decide +kernel
theorem dX12_ask_60 : decode cX12_ask 60 = .ok (.getfield 78, 3) := by decide +kernel
theorem dX12_ask_63 : decode cX12_ask 63 = .ok (.iconst 0, 1) := by decide +kernel
theorem dX12_ask_64 : decode cX12_ask 64 = .ok (.dup2, 1) := by decide +kernel
theorem dX12_ask_65 : decode cX12_ask 65 = .ok (.iaload, 1) := by decide +kernel
theorem dX12_ask_66 : decode cX12_ask 66 = .ok (.iconst 1, 1) := by decide +kernel
theorem dX12_ask_67 : decode cX12_ask 67 = .ok (.iadd, 1) := by decide +kernel
theorem dX12_ask_68 : decode cX12_ask 68 = .ok (.iastore, 1) := by decide +kernel
theorem dX12_ask_69 : decode cX12_ask 69 = .ok (.aload_n 0, 1) := by decide +kernel
theorem dX12_ask_70 : decode cX12_ask 70 = .ok (.getfield 81, 3) := by decide +kernel
theorem dX12_ask_73 : decode cX12_ask 73 = .ok (.iload_n 3, 1) := by decide +kernel
theorem dX12_ask_74 : decode cX12_ask 74 = .ok (.iload_n 1, 1) := by decide +kernel
theorem dX12_ask_75 : decode cX12_ask 75 = .ok (.iastore, 1) := by decide +kernel
theorem dX12_ask_76 : decode cX12_ask 76 = .ok (.aload_n 0, 1) := by decide +kernel
theorem dX12_ask_77 : decode cX12_ask 77 = .ok (.getfield 84, 3) := by decide +kernel
theorem dX12_ask_80 : decode cX12_ask 80 = .ok (.iload_n 3, 1) := by decide +kernel
theorem dX12_ask_81 : decode cX12_ask 81 = .ok (.iload_n 2, 1) := by decide +kernel
theorem dX12_ask_82 : decode cX12_ask 82 = .ok (.iastore, 1) := by decide +kernel
theorem dX12_ask_83 : decode cX12_ask 83 = .ok (.aload_n 0, 1) := by decide +kernel
theorem dX12_ask_84 : decode cX12_ask 84 = .ok (.getfield 90, 3) := by decide +kernel
theorem dX12_ask_87 : decode cX12_ask 87 = .ok (.iload_n 3, 1) := by decide +kernel
theorem dX12_ask_88 : decode cX12_ask 88 = .ok (.aload_n 0, 1) := by decide +kernel
theorem dX12_ask_89 : decode cX12_ask 89 = .ok (.getfield 420, 3) := by decide +kernel
theorem dX12_ask_92 : decode cX12_ask 92 = .ok (.iastore, 1) := by decide +kernel
theorem dX12_ask_93 : decode cX12_ask 93 = .ok (.aload_n 0, 1) := by decide +kernel
theorem dX12_ask_94 : decode cX12_ask 94 = .ok (.getfield 93, 3) := by decide +kernel
theorem dX12_ask_97 : decode cX12_ask 97 = .ok (.iload_n 3, 1) := by decide +kernel
theorem dX12_ask_98 : decode cX12_ask 98 = .ok (.aload_n 0, 1) := by decide +kernel
theorem dX12_ask_99 : decode cX12_ask 99 = .ok (.getfield 423, 3) := by decide +kernel
theorem dX12_ask_102 : decode cX12_ask 102 = .ok (.iastore, 1) := by decide +kernel
theorem dX12_ask_103 : decode cX12_ask 103 = .ok (.aload_n 0, 1) := by decide +kernel
theorem dX12_ask_104 : decode cX12_ask 104 = .ok (.getfield 96, 3) := by decide +kernel
theorem dX12_ask_107 : decode cX12_ask 107 = .ok (.iload_n 3, 1) := by decide +kernel
theorem dX12_ask_108 : decode cX12_ask 108 = .ok (.iconst 0, 1) := by decide +kernel
theorem dX12_ask_109 : decode cX12_ask 109 = .ok (.iastore, 1) := by decide +kernel
theorem dX12_ask_110 : decode cX12_ask 110 = .ok (.aload_n 0, 1) := by decide +kernel
theorem dX12_ask_111 : decode cX12_ask 111 = .ok (.getfield 99, 3) := by decide +kernel
theorem dX12_ask_114 : decode cX12_ask 114 = .ok (.iload_n 3, 1) := by decide +kernel
theorem dX12_ask_115 : decode cX12_ask 115 = .ok (.aload_n 0, 1) := by decide +kernel
theorem dX12_ask_116 : decode cX12_ask 116 = .ok (.getfield 23, 3) := by decide +kernel
theorem dX12_ask_119 : decode cX12_ask 119 = .ok (.iconst 0, 1) := by decide +kernel
theorem dX12_ask_120 : decode cX12_ask 120 = .ok (.iaload, 1) := by decide +kernel
theorem dX12_ask_121 : decode cX12_ask 121 = .ok (.iastore, 1) := by decide +kernel
theorem dX12_ask_122 : decode cX12_ask 122 = .ok (.aload_n 0, 1) := by decide +kernel
theorem dX12_ask_123 : decode cX12_ask 123 = .ok (.iload_n 3, 1) := by decide +kernel
theorem dX12_ask_124 : decode cX12_ask 124 = .ok (.iconst 0, 1) := by decide +kernel
theorem dX12_ask_125 : decode cX12_ask 125 = .ok (.invokevirtual 249, 3) := by decide +kernel
theorem dX12_ask_128 : decode cX12_ask 128 = .ok (.iload_n 3, 1) := by decide +kernel
theorem dX12_ask_129 : decode cX12_ask 129 = .ok (.ireturn, 1) := by decide +kernel
theorem dX12_isMatch_0 : decode cX12_isMatch 0 = .ok (.iload_n 1, 1) := by decide +kernel
theorem dX12_isMatch_1 : decode cX12_isMatch 1 = .ok (.iconst 0, 1) := by decide +kernel
theorem dX12_isMatch_2 : decode cX12_isMatch 2 = .ok (.aload_n 0, 1) := by decide +kernel
theorem dX12_isMatch_3 : decode cX12_isMatch 3 = .ok (.getfield 78, 3) := by decide +kernel
theorem dX12_isMatch_6 : decode cX12_isMatch 6 = .ok (.iconst 0, 1) := by decide +kernel
theorem dX12_isMatch_7 : decode cX12_isMatch 7 = .ok (.iaload, 1) := by decide +kernel
theorem dX12_isMatch_8 : decode cX12_isMatch 8 = .ok (.iconst 1, 1) := by decide +kernel
theorem dX12_isMatch_9 : decode cX12_isMatch 9 = .ok (.isub, 1) := by decide +kernel
theorem dX12_isMatch_10 : decode cX12_isMatch 10 = .ok (.invokestatic 218, 3) := by decide +kernel
theorem dX12_isMatch_13 : decode cX12_isMatch 13 = .ok (.ireturn, 1) := by decide +kernel
theorem dX12_pays_0 : decode cX12_pays 0 = .ok (.aload_n 0, 1) := by decide +kernel
theorem dX12_pays_1 : decode cX12_pays 1 = .ok (.getfield 47, 3) := by decide +kernel
theorem dX12_pays_4 : decode cX12_pays 4 = .ok (.aload_n 0, 1) := by decide +kernel
theorem dX12_pays_5 : decode cX12_pays 5 = .ok (.getfield 84, 3) := by decide +kernel
theorem dX12_pays_8 : decode cX12_pays 8 = .ok (.iload_n 1, 1) := by decide +kernel
theorem dX12_pays_9 : decode cX12_pays 9 = .ok (.iaload, 1) := by decide +kernel
theorem dX12_pays_10 : decode cX12_pays 10 = .ok (.iaload, 1) := by decide +kernel
theorem dX12_pays_11 : decode cX12_pays 11 = .ok (.istore_n 3, 1) := by decide +kernel
theorem dX12_pays_12 : decode cX12_pays 12 = .ok (.aload_n 0, 1) := by decide +kernel
theorem dX12_pays_13 : decode cX12_pays 13 = .ok (.getfield 38, 3) := by decide +kernel
theorem dX12_pays_16 : decode cX12_pays 16 = .ok (.iload_n 3, 1) := by decide +kernel
theorem dX12_pays_17 : decode cX12_pays 17 = .ok (.iaload, 1) := by decide +kernel
theorem dX12_pays_18 : decode cX12_pays 18 = .ok (.iload_n 2, 1) := by decide +kernel
theorem dX12_pays_19 : decode cX12_pays 19 = .ok (.if_icmp .ge 5, 3) := by decide +kernel
theorem dX12_pays_22 : decode cX12_pays 22 = .ok (.iconst 0, 1) := by decide +kernel
theorem dX12_pays_23 : decode cX12_pays 23 = .ok (.ireturn, 1) := by decide +kernel
theorem dX12_pays_24 : decode cX12_pays 24 = .ok (.aload_n 0, 1) := by decide +kernel
theorem dX12_pays_25 : decode cX12_pays 25 = .ok (.getfield 38, 3) := by decide +kernel
theorem dX12_pays_28 : decode cX12_pays 28 = .ok (.iload_n 3, 1) := by decide +kernel
theorem dX12_pays_29 : decode cX12_pays 29 = .ok (.dup2, 1) := by decide +kernel
theorem dX12_pays_30 : decode cX12_pays 30 = .ok (.iaload, 1) := by decide +kernel
theorem dX12_pays_31 : decode cX12_pays 31 = .ok (.iload_n 2, 1) := by decide +kernel
theorem dX12_pays_32 : decode cX12_pays 32 = .ok (.isub, 1) := by decide +kernel
theorem dX12_pays_33 : decode cX12_pays 33 = .ok (.iastore, 1) := by decide +kernel
theorem dX12_pays_34 : decode cX12_pays 34 = .ok (.aload_n 0, 1) := by decide +kernel
theorem dX12_pays_35 : decode cX12_pays 35 = .ok (.getfield 38, 3) := by decide +kernel
theorem dX12_pays_38 : decode cX12_pays 38 = .ok (.aload_n 0, 1) := by decide +kernel
theorem dX12_pays_39 : decode cX12_pays 39 = .ok (.getfield 47, 3) := by decide +kernel
theorem dX12_pays_42 : decode cX12_pays 42 = .ok (.aload_n 0, 1) := by decide +kernel
theorem dX12_pays_43 : decode cX12_pays 43 = .ok (.getfield 81, 3) := by decide +kernel
theorem dX12_pays_46 : decode cX12_pays 46 = .ok (.iload_n 1, 1) := by decide +kernel
theorem dX12_pays_47 : decode cX12_pays 47 = .ok (.iaload, 1) := by decide +kernel
theorem dX12_pays_48 : decode cX12_pays 48 = .ok (.iaload, 1) := by decide +kernel
theorem dX12_pays_49 : decode cX12_pays 49 = .ok (.dup2, 1) := by decide +kernel
theorem dX12_pays_50 : decode cX12_pays 50 = .ok (.iaload, 1) := by decide +kernel
theorem dX12_pays_51 : decode cX12_pays 51 = .ok (.iload_n 2, 1) := by decide +kernel
theorem dX12_pays_52 : decode cX12_pays 52 = .ok (.iadd, 1) := by decide +kernel
theorem dX12_pays_53 : decode cX12_pays 53 = .ok (.iastore, 1) := by decide +kernel
theorem dX12_pays_54 : decode cX12_pays 54 = .ok (.aload_n 0, 1) := by decide +kernel
theorem dX12_pays_55 : decode cX12_pays 55 = .ok (.getfield 96, 3) := by decide +kernel
theorem dX12_pays_58 : decode cX12_pays 58 = .ok (.iload_n 1, 1) := by decide +kernel
theorem dX12_pays_59 : decode cX12_pays 59 = .ok (.dup2, 1) := by decide +kernel
theorem dX12_pays_60 : decode cX12_pays 60 = .ok (.iaload, 1) := by decide +kernel
theorem dX12_pays_61 : decode cX12_pays 61 = .ok (.iload_n 2, 1) := by decide +kernel
theorem dX12_pays_62 : decode cX12_pays 62 = .ok (.iadd, 1) := by decide +kernel
theorem dX12_pays_63 : decode cX12_pays 63 = .ok (.iastore, 1) := by decide +kernel
theorem dX12_pays_64 : decode cX12_pays 64 = .ok (.iconst 1, 1) := by decide +kernel
theorem dX12_pays_65 : decode cX12_pays 65 = .ok (.ireturn, 1) := by decide +kernel
theorem dX12_promise_0 : decode cX12_promise 0 = .ok (.aload_n 0, 1) := by decide +kernel
theorem dX12_promise_1 : decode cX12_promise 1 = .ok (.iconst 0, 1) := by decide +kernel
theorem dX12_promise_2 : decode cX12_promise 2 = .ok (.putfield 202, 3) := by decide +kernel
theorem dX12_promise_5 : decode cX12_promise 5 = .ok (.aload_n 0, 1) := by decide +kernel
theorem dX12_promise_6 : decode cX12_promise 6 = .ok (.iload_n 1, 1) := by decide +kernel
theorem dX12_promise_7 : decode cX12_promise 7 = .ok (.invokevirtual 433, 3) := by decide +kernel
theorem dX12_promise_10 : decode cX12_promise 10 = .ok (.ifCond .eq 28, 3) := by decide +kernel
theorem dX12_promise_13 : decode cX12_promise 13 = .ok (.aload_n 0, 1) := by decide +kernel
theorem dX12_promise_14 : decode cX12_promise 14 = .ok (.getfield 87, 3) := by decide +kernel
theorem dX12_promise_17 : decode cX12_promise 17 = .ok (.iload_n 1, 1) := by decide +kernel
theorem dX12_promise_18 : decode cX12_promise 18 = .ok (.iaload, 1) := by decide +kernel
theorem dX12_promise_19 : decode cX12_promise 19 = .ok (.ifCond .ne 19, 3) := by decide +kernel
theorem dX12_promise_22 : decode cX12_promise 22 = .ok (.aload_n 0, 1) := by decide +kernel
theorem dX12_promise_23 : decode cX12_promise 23 = .ok (.iload_n 1, 1) := by decide +kernel
theorem dX12_promise_24 : decode cX12_promise 24 = .ok (.aload_n 0, 1) := by decide +kernel
theorem dX12_promise_25 : decode cX12_promise 25 = .ok (.getfield 90, 3) := by decide +kernel
theorem dX12_promise_28 : decode cX12_promise 28 = .ok (.iload_n 1, 1) := by decide +kernel
theorem dX12_promise_29 : decode cX12_promise 29 = .ok (.iaload, 1) := by decide +kernel
theorem dX12_promise_30 : decode cX12_promise 30 = .ok (.iconst 2, 1) := by decide +kernel
theorem dX12_promise_31 : decode cX12_promise 31 = .ok (.idiv, 1) := by decide +kernel
theorem dX12_promise_32 : decode cX12_promise 32 = .ok (.invokevirtual 436, 3) := by decide +kernel
theorem dX12_promise_35 : decode cX12_promise 35 = .ok (.ifCond .ne 5, 3) := by decide +kernel
theorem dX12_promise_38 : decode cX12_promise 38 = .ok (.iconst 0, 1) := by decide +kernel
theorem dX12_promise_39 : decode cX12_promise 39 = .ok (.ireturn, 1) := by decide +kernel
theorem dX12_promise_40 : decode cX12_promise 40 = .ok (.aload_n 0, 1) := by decide +kernel
theorem dX12_promise_41 : decode cX12_promise 41 = .ok (.iload_n 1, 1) := by decide +kernel
theorem dX12_promise_42 : decode cX12_promise 42 = .ok (.iconst 1, 1) := by decide +kernel
theorem dX12_promise_43 : decode cX12_promise 43 = .ok (.invokevirtual 249, 3) := by decide +kernel
theorem dX12_promise_46 : decode cX12_promise 46 = .ok (.iconst 1, 1) := by decide +kernel
theorem dX12_promise_47 : decode cX12_promise 47 = .ok (.ireturn, 1) := by decide +kernel
theorem dX12_copyText_0 : decode cX12_copyText 0 = .ok (.aload_n 0, 1) := by decide +kernel
theorem dX12_copyText_1 : decode cX12_copyText 1 = .ok (.getfield 108, 3) := by decide +kernel
theorem dX12_copyText_4 : decode cX12_copyText 4 = .ok (.iload_n 2, 1) := by decide +kernel
theorem dX12_copyText_5 : decode cX12_copyText 5 = .ok (.aload_n 0, 1) := by decide +kernel
theorem dX12_copyText_6 : decode cX12_copyText 6 = .ok (.getfield 108, 3) := by decide +kernel
theorem dX12_copyText_9 : decode cX12_copyText 9 = .ok (.iload_n 1, 1) := by decide +kernel
theorem dX12_copyText_10 : decode cX12_copyText 10 = .ok (.iaload, 1) := by decide +kernel
theorem dX12_copyText_11 : decode cX12_copyText 11 = .ok (.iastore, 1) := by decide +kernel
theorem dX12_copyText_12 : decode cX12_copyText 12 = .ok (.iconst 0, 1) := by decide +kernel
theorem dX12_copyText_13 : decode cX12_copyText 13 = .ok (.istore_n 3, 1) := by decide +kernel
theorem dX12_copyText_14 : decode cX12_copyText 14 = .ok (.iload_n 3, 1) := by decide +kernel
theorem dX12_copyText_15 : decode cX12_copyText 15 = .ok (.aload_n 0, 1) := by decide +kernel
theorem dX12_copyText_16 : decode cX12_copyText 16 = .ok (.getfield 108, 3) := by decide +kernel
theorem dX12_copyText_19 : decode cX12_copyText 19 = .ok (.iload_n 1, 1) := by decide +kernel
theorem dX12_copyText_20 : decode cX12_copyText 20 = .ok (.iaload, 1) := by decide +kernel
theorem dX12_copyText_21 : decode cX12_copyText 21 = .ok (.if_icmp .ge 154, 3) := by decide +kernel
theorem dX12_copyText_24 : decode cX12_copyText 24 = .ok (.bipush 16, 2) := by decide +kernel
theorem dX12_copyText_26 : decode cX12_copyText 26 = .ok (.iload_n 1, 1) := by decide +kernel
theorem dX12_copyText_27 : decode cX12_copyText 27 = .ok (.imul, 1) := by decide +kernel
theorem dX12_copyText_28 : decode cX12_copyText 28 = .ok (.iload_n 3, 1) := by decide +kernel
theorem dX12_copyText_29 : decode cX12_copyText 29 = .ok (.iadd, 1) := by decide +kernel
theorem dX12_copyText_30 : decode cX12_copyText 30 = .ok (.istore 4, 2) := by decide +kernel
theorem dX12_copyText_32 : decode cX12_copyText 32 = .ok (.bipush 16, 2) := by decide +kernel
theorem dX12_copyText_34 : decode cX12_copyText 34 = .ok (.iload_n 2, 1) := by decide +kernel
theorem dX12_copyText_35 : decode cX12_copyText 35 = .ok (.imul, 1) := by decide +kernel
theorem dX12_copyText_36 : decode cX12_copyText 36 = .ok (.iload_n 3, 1) := by decide +kernel
theorem dX12_copyText_37 : decode cX12_copyText 37 = .ok (.iadd, 1) := by decide +kernel
theorem dX12_copyText_38 : decode cX12_copyText 38 = .ok (.istore 5, 2) := by decide +kernel
theorem dX12_copyText_40 : decode cX12_copyText 40 = .ok (.aload_n 0, 1) := by decide +kernel
theorem dX12_copyText_41 : decode cX12_copyText 41 = .ok (.getfield 111, 3) := by decide +kernel
theorem dX12_copyText_44 : decode cX12_copyText 44 = .ok (.iload 5, 2) := by decide +kernel
theorem dX12_copyText_46 : decode cX12_copyText 46 = .ok (.aload_n 0, 1) := by decide +kernel
theorem dX12_copyText_47 : decode cX12_copyText 47 = .ok (.getfield 111, 3) := by decide +kernel
theorem dX12_copyText_50 : decode cX12_copyText 50 = .ok (.iload 4, 2) := by decide +kernel
theorem dX12_copyText_52 : decode cX12_copyText 52 = .ok (.iaload, 1) := by decide +kernel
theorem dX12_copyText_53 : decode cX12_copyText 53 = .ok (.iastore, 1) := by decide +kernel
theorem dX12_copyText_54 : decode cX12_copyText 54 = .ok (.aload_n 0, 1) := by decide +kernel
theorem dX12_copyText_55 : decode cX12_copyText 55 = .ok (.getfield 114, 3) := by decide +kernel
theorem dX12_copyText_58 : decode cX12_copyText 58 = .ok (.iload 5, 2) := by decide +kernel
theorem dX12_copyText_60 : decode cX12_copyText 60 = .ok (.aload_n 0, 1) := by decide +kernel
theorem dX12_copyText_61 : decode cX12_copyText 61 = .ok (.getfield 114, 3) := by decide +kernel
theorem dX12_copyText_64 : decode cX12_copyText 64 = .ok (.iload 4, 2) := by decide +kernel
theorem dX12_copyText_66 : decode cX12_copyText 66 = .ok (.iaload, 1) := by decide +kernel
theorem dX12_copyText_67 : decode cX12_copyText 67 = .ok (.iastore, 1) := by decide +kernel
theorem dX12_copyText_68 : decode cX12_copyText 68 = .ok (.aload_n 0, 1) := by decide +kernel
theorem dX12_copyText_69 : decode cX12_copyText 69 = .ok (.getfield 117, 3) := by decide +kernel
theorem dX12_copyText_72 : decode cX12_copyText 72 = .ok (.iload 5, 2) := by decide +kernel
theorem dX12_copyText_74 : decode cX12_copyText 74 = .ok (.aload_n 0, 1) := by decide +kernel
theorem dX12_copyText_75 : decode cX12_copyText 75 = .ok (.getfield 117, 3) := by decide +kernel
theorem dX12_copyText_78 : decode cX12_copyText 78 = .ok (.iload 4, 2) := by decide +kernel
theorem dX12_copyText_80 : decode cX12_copyText 80 = .ok (.iaload, 1) := by decide +kernel
theorem dX12_copyText_81 : decode cX12_copyText 81 = .ok (.iastore, 1) := by decide +kernel
theorem dX12_copyText_82 : decode cX12_copyText 82 = .ok (.iconst 0, 1) := by decide +kernel
theorem dX12_copyText_83 : decode cX12_copyText 83 = .ok (.istore 6, 2) := by decide +kernel
theorem dX12_copyText_85 : decode cX12_copyText 85 = .ok (.iload 6, 2) := by decide +kernel
theorem dX12_copyText_87 : decode cX12_copyText 87 = .ok (.iconst 4, 1) := by decide +kernel
theorem dX12_copyText_88 : decode cX12_copyText 88 = .ok (.if_icmp .ge 81, 3) := by decide +kernel
theorem dX12_copyText_91 : decode cX12_copyText 91 = .ok (.aload_n 0, 1) := by decide +kernel
theorem dX12_copyText_92 : decode cX12_copyText 92 = .ok (.getfield 120, 3) := by decide +kernel
theorem dX12_copyText_95 : decode cX12_copyText 95 = .ok (.iconst 4, 1) := by decide +kernel
theorem dX12_copyText_96 : decode cX12_copyText 96 = .ok (.iload 5, 2) := by decide +kernel
theorem dX12_copyText_98 : decode cX12_copyText 98 = .ok (.imul, 1) := by decide +kernel
theorem dX12_copyText_99 : decode cX12_copyText 99 = .ok (.iload 6, 2) := by decide +kernel
theorem dX12_copyText_101 : decode cX12_copyText 101 = .ok (.iadd, 1) := by decide +kernel
theorem dX12_copyText_102 : decode cX12_copyText 102 = .ok (.aload_n 0, 1) := by decide +kernel
theorem dX12_copyText_103 : decode cX12_copyText 103 = .ok (.getfield 120, 3) := by decide +kernel
theorem dX12_copyText_106 : decode cX12_copyText 106 = .ok (.iconst 4, 1) := by decide +kernel
theorem dX12_copyText_107 : decode cX12_copyText 107 = .ok (.iload 4, 2) := by decide +kernel
theorem dX12_copyText_109 : decode cX12_copyText 109 = .ok (.imul, 1) := by decide +kernel
theorem dX12_copyText_110 : decode cX12_copyText 110 = .ok (.iload 6, 2) := by decide +kernel
theorem dX12_copyText_112 : decode cX12_copyText 112 = .ok (.iadd, 1) := by decide +kernel
theorem dX12_copyText_113 : decode cX12_copyText 113 = .ok (.iaload, 1) := by decide +kernel
theorem dX12_copyText_114 : decode cX12_copyText 114 = .ok (.iastore, 1) := by decide +kernel
theorem dX12_copyText_115 : decode cX12_copyText 115 = .ok (.aload_n 0, 1) := by decide +kernel
theorem dX12_copyText_116 : decode cX12_copyText 116 = .ok (.getfield 123, 3) := by decide +kernel
theorem dX12_copyText_119 : decode cX12_copyText 119 = .ok (.iconst 4, 1) := by decide +kernel
theorem dX12_copyText_120 : decode cX12_copyText 120 = .ok (.iload 5, 2) := by decide +kernel
theorem dX12_copyText_122 : decode cX12_copyText 122 = .ok (.imul, 1) := by decide +kernel
theorem dX12_copyText_123 : decode cX12_copyText 123 = .ok (.iload 6, 2) := by decide +kernel
theorem dX12_copyText_125 : decode cX12_copyText 125 = .ok (.iadd, 1) := by decide +kernel
theorem dX12_copyText_126 : decode cX12_copyText 126 = .ok (.aload_n 0, 1) := by decide +kernel
theorem dX12_copyText_127 : decode cX12_copyText 127 = .ok (.getfield 123, 3) := by decide +kernel
theorem dX12_copyText_130 : decode cX12_copyText 130 = .ok (.iconst 4, 1) := by decide +kernel
theorem dX12_copyText_131 : decode cX12_copyText 131 = .ok (.iload 4, 2) := by decide +kernel
theorem dX12_copyText_133 : decode cX12_copyText 133 = .ok (.imul, 1) := by decide +kernel
theorem dX12_copyText_134 : decode cX12_copyText 134 = .ok (.iload 6, 2) := by decide +kernel
theorem dX12_copyText_136 : decode cX12_copyText 136 = .ok (.iadd, 1) := by decide +kernel
theorem dX12_copyText_137 : decode cX12_copyText 137 = .ok (.iaload, 1) := by decide +kernel
theorem dX12_copyText_138 : decode cX12_copyText 138 = .ok (.iastore, 1) := by decide +kernel
theorem dX12_copyText_139 : decode cX12_copyText 139 = .ok (.aload_n 0, 1) := by decide +kernel
theorem dX12_copyText_140 : decode cX12_copyText 140 = .ok (.getfield 126, 3) := by decide +kernel
theorem dX12_copyText_143 : decode cX12_copyText 143 = .ok (.iconst 4, 1) := by decide +kernel
theorem dX12_copyText_144 : decode cX12_copyText 144 = .ok (.iload 5, 2) := by decide +kernel
theorem dX12_copyText_146 : decode cX12_copyText 146 = .ok (.imul, 1) := by decide +kernel
theorem dX12_copyText_147 : decode cX12_copyText 147 = .ok (.iload 6, 2) := by decide +kernel
theorem dX12_copyText_149 : decode cX12_copyText 149 = .ok (.iadd, 1) := by decide +kernel
theorem dX12_copyText_150 : decode cX12_copyText 150 = .ok (.aload_n 0, 1) := by decide +kernel
theorem dX12_copyText_151 : decode cX12_copyText 151 = .ok (.getfield 126, 3) := by decide +kernel
theorem dX12_copyText_154 : decode cX12_copyText 154 = .ok (.iconst 4, 1) := by decide +kernel
theorem dX12_copyText_155 : decode cX12_copyText 155 = .ok (.iload 4, 2) := by decide +kernel
theorem dX12_copyText_157 : decode cX12_copyText 157 = .ok (.imul, 1) := by decide +kernel
theorem dX12_copyText_158 : decode cX12_copyText 158 = .ok (.iload 6, 2) := by decide +kernel
theorem dX12_copyText_160 : decode cX12_copyText 160 = .ok (.iadd, 1) := by decide +kernel
theorem dX12_copyText_161 : decode cX12_copyText 161 = .ok (.iaload, 1) := by decide +kernel
theorem dX12_copyText_162 : decode cX12_copyText 162 = .ok (.iastore, 1) := by decide +kernel
theorem dX12_copyText_163 : decode cX12_copyText 163 = .ok (.iinc 6 1, 3) := by decide +kernel
theorem dX12_copyText_166 : decode cX12_copyText 166 = .ok (.goto (-81), 3) := by decide +kernel
theorem dX12_copyText_169 : decode cX12_copyText 169 = .ok (.iinc 3 1, 3) := by decide +kernel
theorem dX12_copyText_172 : decode cX12_copyText 172 = .ok (.goto (-158), 3) := by decide +kernel
theorem dX12_copyText_175 : decode cX12_copyText 175 = .ok (.return_, 1) := by decide +kernel
theorem dX12_wed_0 : decode cX12_wed 0 = .ok (.aload_n 0, 1) := by decide +kernel
theorem dX12_wed_1 : decode cX12_wed 1 = .ok (.iconst 0, 1) := by decide +kernel
theorem dX12_wed_2 : decode cX12_wed 2 = .ok (.putfield 202, 3) := by decide +kernel
theorem dX12_wed_5 : decode cX12_wed 5 = .ok (.aload_n 0, 1) := by decide +kernel
theorem dX12_wed_6 : decode cX12_wed 6 = .ok (.iload_n 1, 1) := by decide +kernel
theorem dX12_wed_7 : decode cX12_wed 7 = .ok (.invokevirtual 433, 3) := by decide +kernel
theorem dX12_wed_10 : decode cX12_wed 10 = .ok (.ifCond .eq 13, 3) := by decide +kernel
theorem dX12_wed_13 : decode cX12_wed 13 = .ok (.aload_n 0, 1) := by decide +kernel
theorem dX12_wed_14 : decode cX12_wed 14 = .ok (.getfield 87, 3) := by decide +kernel
theorem dX12_wed_17 : decode cX12_wed 17 = .ok (.iload_n 1, 1) := by decide +kernel
theorem dX12_wed_18 : decode cX12_wed 18 = .ok (.iaload, 1) := by decide +kernel
theorem dX12_wed_19 : decode cX12_wed 19 = .ok (.iconst 1, 1) := by decide +kernel
theorem dX12_wed_20 : decode cX12_wed 20 = .ok (.if_icmp .eq 5, 3) := by decide +kernel
theorem dX12_wed_23 : decode cX12_wed 23 = .ok (.iconst 0, 1) := by decide +kernel
theorem dX12_wed_24 : decode cX12_wed 24 = .ok (.ireturn, 1) := by decide +kernel
theorem dX12_wed_25 : decode cX12_wed 25 = .ok (.aload_n 0, 1) := by decide +kernel
theorem dX12_wed_26 : decode cX12_wed 26 = .ok (.getfield 81, 3) := by decide +kernel
theorem dX12_wed_29 : decode cX12_wed 29 = .ok (.iload_n 1, 1) := by decide +kernel
theorem dX12_wed_30 : decode cX12_wed 30 = .ok (.iaload, 1) := by decide +kernel
theorem dX12_wed_31 : decode cX12_wed 31 = .ok (.istore_n 2, 1) := by decide +kernel
theorem dX12_wed_32 : decode cX12_wed 32 = .ok (.aload_n 0, 1) := by decide +kernel
theorem dX12_wed_33 : decode cX12_wed 33 = .ok (.getfield 84, 3) := by decide +kernel
theorem dX12_wed_36 : decode cX12_wed 36 = .ok (.iload_n 1, 1) := by decide +kernel
theorem dX12_wed_37 : decode cX12_wed 37 = .ok (.iaload, 1) := by decide +kernel
theorem dX12_wed_38 : decode cX12_wed 38 = .ok (.istore_n 3, 1) := by decide +kernel
theorem dX12_wed_39 : decode cX12_wed 39 = .ok (.aload_n 0, 1) := by decide +kernel
theorem dX12_wed_40 : decode cX12_wed 40 = .ok (.iload_n 2, 1) := by decide +kernel
theorem dX12_wed_41 : decode cX12_wed 41 = .ok (.iload_n 3, 1) := by decide +kernel
theorem dX12_wed_42 : decode cX12_wed 42 = .ok (.invokevirtual 426, 3) := by decide +kernel
theorem dX12_wed_45 : decode cX12_wed 45 = .ok (.ifCond .ne 5, 3) := by decide +kernel
theorem dX12_wed_48 : decode cX12_wed 48 = .ok (.iconst 0, 1) := by decide +kernel
theorem dX12_wed_49 : decode cX12_wed 49 = .ok (.ireturn, 1) := by decide +kernel
theorem dX12_wed_50 : decode cX12_wed 50 = .ok (.aload_n 0, 1) := by decide +kernel
theorem dX12_wed_51 : decode cX12_wed 51 = .ok (.iload_n 2, 1) := by decide +kernel
theorem dX12_wed_52 : decode cX12_wed 52 = .ok (.iload_n 3, 1) := by decide +kernel
theorem dX12_wed_53 : decode cX12_wed 53 = .ok (.aload_n 0, 1) := by decide +kernel
theorem dX12_wed_54 : decode cX12_wed 54 = .ok (.getfield 35, 3) := by decide +kernel
theorem dX12_wed_57 : decode cX12_wed 57 = .ok (.aload_n 0, 1) := by decide +kernel
theorem dX12_wed_58 : decode cX12_wed 58 = .ok (.getfield 47, 3) := by decide +kernel
theorem dX12_wed_61 : decode cX12_wed 61 = .ok (.iload_n 2, 1) := by decide +kernel
theorem dX12_wed_62 : decode cX12_wed 62 = .ok (.iaload, 1) := by decide +kernel
theorem dX12_wed_63 : decode cX12_wed 63 = .ok (.iaload, 1) := by decide +kernel
theorem dX12_wed_64 : decode cX12_wed 64 = .ok (.invokevirtual 413, 3) := by decide +kernel
theorem dX12_wed_67 : decode cX12_wed 67 = .ok (.aload_n 0, 1) := by decide +kernel
theorem dX12_wed_68 : decode cX12_wed 68 = .ok (.iload_n 1, 1) := by decide +kernel
theorem dX12_wed_69 : decode cX12_wed 69 = .ok (.aload_n 0, 1) := by decide +kernel
theorem dX12_wed_70 : decode cX12_wed 70 = .ok (.getfield 90, 3) := by decide +kernel
theorem dX12_wed_73 : decode cX12_wed 73 = .ok (.iload_n 1, 1) := by decide +kernel
theorem dX12_wed_74 : decode cX12_wed 74 = .ok (.iaload, 1) := by decide +kernel
theorem dX12_wed_75 : decode cX12_wed 75 = .ok (.aload_n 0, 1) := by decide +kernel
theorem dX12_wed_76 : decode cX12_wed 76 = .ok (.getfield 90, 3) := by decide +kernel
theorem dX12_wed_79 : decode cX12_wed 79 = .ok (.iload_n 1, 1) := by decide +kernel
theorem dX12_wed_80 : decode cX12_wed 80 = .ok (.iaload, 1) := by decide +kernel
theorem dX12_wed_81 : decode cX12_wed 81 = .ok (.iconst 2, 1) := by decide +kernel
theorem dX12_wed_82 : decode cX12_wed 82 = .ok (.idiv, 1) := by decide +kernel
theorem dX12_wed_83 : decode cX12_wed 83 = .ok (.isub, 1) := by decide +kernel
theorem dX12_wed_84 : decode cX12_wed 84 = .ok (.invokevirtual 436, 3) := by decide +kernel
theorem dX12_wed_87 : decode cX12_wed 87 = .ok (.ifCond .ne 5, 3) := by decide +kernel
theorem dX12_wed_90 : decode cX12_wed 90 = .ok (.iconst 0, 1) := by decide +kernel
theorem dX12_wed_91 : decode cX12_wed 91 = .ok (.ireturn, 1) := by decide +kernel
theorem dX12_wed_92 : decode cX12_wed 92 = .ok (.iconst 0, 1) := by decide +kernel
theorem dX12_wed_93 : decode cX12_wed 93 = .ok (.istore 4, 2) := by decide +kernel
theorem dX12_wed_95 : decode cX12_wed 95 = .ok (.iload 4, 2) := by decide +kernel
theorem dX12_wed_97 : decode cX12_wed 97 = .ok (.bipush 11, 2) := by decide +kernel
theorem dX12_wed_99 : decode cX12_wed 99 = .ok (.if_icmp .ge 28, 3) := by decide +kernel
theorem dX12_wed_102 : decode cX12_wed 102 = .ok (.aload_n 0, 1) := by decide +kernel
theorem dX12_wed_103 : decode cX12_wed 103 = .ok (.getfield 105, 3) := by decide +kernel
theorem dX12_wed_106 : decode cX12_wed 106 = .ok (.bipush 11, 2) := by decide +kernel
theorem dX12_wed_108 : decode cX12_wed 108 = .ok (.iload_n 1, 1) := by decide +kernel
theorem dX12_wed_109 : decode cX12_wed 109 = .ok (.imul, 1) := by decide +kernel
theorem dX12_wed_110 : decode cX12_wed 110 = .ok (.iload 4, 2) := by decide +kernel
theorem dX12_wed_112 : decode cX12_wed 112 = .ok (.iadd, 1) := by decide +kernel
theorem dX12_wed_113 : decode cX12_wed 113 = .ok (.aload_n 0, 1) := by decide +kernel
theorem dX12_wed_114 : decode cX12_wed 114 = .ok (.getfield 159, 3) := by decide +kernel
theorem dX12_wed_117 : decode cX12_wed 117 = .ok (.iload 4, 2) := by decide +kernel
theorem dX12_wed_119 : decode cX12_wed 119 = .ok (.iaload, 1) := by decide +kernel
theorem dX12_wed_120 : decode cX12_wed 120 = .ok (.iastore, 1) := by decide +kernel
theorem dX12_wed_121 : decode cX12_wed 121 = .ok (.iinc 4 1, 3) := by decide +kernel
theorem dX12_wed_124 : decode cX12_wed 124 = .ok (.goto (-29), 3) := by decide +kernel
theorem dX12_wed_127 : decode cX12_wed 127 = .ok (.aload_n 0, 1) := by decide +kernel
theorem dX12_wed_128 : decode cX12_wed 128 = .ok (.aload_n 0, 1) := by decide +kernel
theorem dX12_wed_129 : decode cX12_wed 129 = .ok (.getfield 35, 3) := by decide +kernel
theorem dX12_wed_132 : decode cX12_wed 132 = .ok (.aload_n 0, 1) := by decide +kernel
theorem dX12_wed_133 : decode cX12_wed 133 = .ok (.getfield 47, 3) := by decide +kernel
theorem dX12_wed_136 : decode cX12_wed 136 = .ok (.iload_n 2, 1) := by decide +kernel
theorem dX12_wed_137 : decode cX12_wed 137 = .ok (.iaload, 1) := by decide +kernel
theorem dX12_wed_138 : decode cX12_wed 138 = .ok (.iaload, 1) := by decide +kernel
theorem dX12_wed_139 : decode cX12_wed 139 = .ok (.bipush 7, 2) := by decide +kernel
theorem dX12_wed_141 : decode cX12_wed 141 = .ok (.iconst 2, 1) := by decide +kernel
theorem dX12_wed_142 : decode cX12_wed 142 = .ok (.iload_n 1, 1) := by decide +kernel
theorem dX12_wed_143 : decode cX12_wed 143 = .ok (.imul, 1) := by decide +kernel
theorem dX12_wed_144 : decode cX12_wed 144 = .ok (.iadd, 1) := by decide +kernel
theorem dX12_wed_145 : decode cX12_wed 145 = .ok (.invokevirtual 439, 3) := by decide +kernel
theorem dX12_wed_148 : decode cX12_wed 148 = .ok (.aload_n 0, 1) := by decide +kernel
theorem dX12_wed_149 : decode cX12_wed 149 = .ok (.aload_n 0, 1) := by decide +kernel
theorem dX12_wed_150 : decode cX12_wed 150 = .ok (.getfield 35, 3) := by decide +kernel
theorem dX12_wed_153 : decode cX12_wed 153 = .ok (.aload_n 0, 1) := by decide +kernel
theorem dX12_wed_154 : decode cX12_wed 154 = .ok (.getfield 47, 3) := by decide +kernel
theorem dX12_wed_157 : decode cX12_wed 157 = .ok (.iload_n 3, 1) := by decide +kernel
theorem dX12_wed_158 : decode cX12_wed 158 = .ok (.iaload, 1) := by decide +kernel
theorem dX12_wed_159 : decode cX12_wed 159 = .ok (.iaload, 1) := by decide +kernel
theorem dX12_wed_160 : decode cX12_wed 160 = .ok (.bipush 7, 2) := by decide +kernel
theorem dX12_wed_162 : decode cX12_wed 162 = .ok (.iconst 2, 1) := by decide +kernel
theorem dX12_wed_163 : decode cX12_wed 163 = .ok (.iload_n 1, 1) := by decide +kernel
theorem dX12_wed_164 : decode cX12_wed 164 = .ok (.imul, 1) := by decide +kernel
theorem dX12_wed_165 : decode cX12_wed 165 = .ok (.iadd, 1) := by decide +kernel
theorem dX12_wed_166 : decode cX12_wed 166 = .ok (.iconst 1, 1) := by decide +kernel
theorem dX12_wed_167 : decode cX12_wed 167 = .ok (.iadd, 1) := by decide +kernel
theorem dX12_wed_168 : decode cX12_wed 168 = .ok (.invokevirtual 439, 3) := by decide +kernel
theorem dX12_wed_171 : decode cX12_wed 171 = .ok (.aload_n 0, 1) := by decide +kernel
theorem dX12_wed_172 : decode cX12_wed 172 = .ok (.iload_n 1, 1) := by decide +kernel
theorem dX12_wed_173 : decode cX12_wed 173 = .ok (.iconst 2, 1) := by decide +kernel
theorem dX12_wed_174 : decode cX12_wed 174 = .ok (.invokevirtual 249, 3) := by decide +kernel
theorem dX12_wed_177 : decode cX12_wed 177 = .ok (.aload_n 0, 1) := by decide +kernel
theorem dX12_wed_178 : decode cX12_wed 178 = .ok (.getfield 63, 3) := by decide +kernel
theorem dX12_wed_181 : decode cX12_wed 181 = .ok (.iload_n 2, 1) := by decide +kernel
theorem dX12_wed_182 : decode cX12_wed 182 = .ok (.iload_n 3, 1) := by decide +kernel
theorem dX12_wed_183 : decode cX12_wed 183 = .ok (.iastore, 1) := by decide +kernel
theorem dX12_wed_184 : decode cX12_wed 184 = .ok (.aload_n 0, 1) := by decide +kernel
theorem dX12_wed_185 : decode cX12_wed 185 = .ok (.getfield 63, 3) := by decide +kernel
theorem dX12_wed_188 : decode cX12_wed 188 = .ok (.iload_n 3, 1) := by decide +kernel
theorem dX12_wed_189 : decode cX12_wed 189 = .ok (.iload_n 2, 1) := by decide +kernel
theorem dX12_wed_190 : decode cX12_wed 190 = .ok (.iastore, 1) := by decide +kernel
theorem dX12_wed_191 : decode cX12_wed 191 = .ok (.aload_n 0, 1) := by decide +kernel
theorem dX12_wed_192 : decode cX12_wed 192 = .ok (.getfield 69, 3) := by decide +kernel
theorem dX12_wed_195 : decode cX12_wed 195 = .ok (.iload_n 2, 1) := by decide +kernel
theorem dX12_wed_196 : decode cX12_wed 196 = .ok (.iconst 1, 1) := by decide +kernel
theorem dX12_wed_197 : decode cX12_wed 197 = .ok (.bastore, 1) := by decide +kernel
theorem dX12_wed_198 : decode cX12_wed 198 = .ok (.aload_n 0, 1) := by decide +kernel
theorem dX12_wed_199 : decode cX12_wed 199 = .ok (.getfield 69, 3) := by decide +kernel
theorem dX12_wed_202 : decode cX12_wed 202 = .ok (.iload_n 3, 1) := by decide +kernel
theorem dX12_wed_203 : decode cX12_wed 203 = .ok (.iconst 1, 1) := by decide +kernel
theorem dX12_wed_204 : decode cX12_wed 204 = .ok (.bastore, 1) := by decide +kernel
theorem dX12_wed_205 : decode cX12_wed 205 = .ok (.aload_n 0, 1) := by decide +kernel
theorem dX12_wed_206 : decode cX12_wed 206 = .ok (.getfield 66, 3) := by decide +kernel
theorem dX12_wed_209 : decode cX12_wed 209 = .ok (.iload_n 2, 1) := by decide +kernel
theorem dX12_wed_210 : decode cX12_wed 210 = .ok (.iconst 0, 1) := by decide +kernel
theorem dX12_wed_211 : decode cX12_wed 211 = .ok (.bastore, 1) := by decide +kernel
theorem dX12_wed_212 : decode cX12_wed 212 = .ok (.aload_n 0, 1) := by decide +kernel
theorem dX12_wed_213 : decode cX12_wed 213 = .ok (.aload_n 0, 1) := by decide +kernel
theorem dX12_wed_214 : decode cX12_wed 214 = .ok (.getfield 47, 3) := by decide +kernel
theorem dX12_wed_217 : decode cX12_wed 217 = .ok (.iload_n 2, 1) := by decide +kernel
theorem dX12_wed_218 : decode cX12_wed 218 = .ok (.iaload, 1) := by decide +kernel
theorem dX12_wed_219 : decode cX12_wed 219 = .ok (.aload_n 0, 1) := by decide +kernel
theorem dX12_wed_220 : decode cX12_wed 220 = .ok (.getfield 47, 3) := by decide +kernel
theorem dX12_wed_223 : decode cX12_wed 223 = .ok (.iload_n 3, 1) := by decide +kernel
theorem dX12_wed_224 : decode cX12_wed 224 = .ok (.iaload, 1) := by decide +kernel
theorem dX12_wed_225 : decode cX12_wed 225 = .ok (.iconst 0, 1) := by decide +kernel
theorem dX12_wed_226 : decode cX12_wed 226 = .ok (.invokevirtual 237, 3) := by decide +kernel
theorem dX12_wed_229 : decode cX12_wed 229 = .ok (.iconst 1, 1) := by decide +kernel
theorem dX12_wed_230 : decode cX12_wed 230 = .ok (.ireturn, 1) := by decide +kernel
theorem dX12_breaks_0 : decode cX12_breaks 0 = .ok (.aload_n 0, 1) := by decide +kernel
theorem dX12_breaks_1 : decode cX12_breaks 1 = .ok (.iconst 0, 1) := by decide +kernel
theorem dX12_breaks_2 : decode cX12_breaks 2 = .ok (.putfield 202, 3) := by decide +kernel
theorem dX12_breaks_5 : decode cX12_breaks 5 = .ok (.aload_n 0, 1) := by decide +kernel
theorem dX12_breaks_6 : decode cX12_breaks 6 = .ok (.iload_n 1, 1) := by decide +kernel
theorem dX12_breaks_7 : decode cX12_breaks 7 = .ok (.invokevirtual 433, 3) := by decide +kernel
theorem dX12_breaks_10 : decode cX12_breaks 10 = .ok (.ifCond .eq 11, 3) := by decide +kernel
theorem dX12_breaks_13 : decode cX12_breaks 13 = .ok (.aload_n 0, 1) := by decide +kernel
theorem dX12_breaks_14 : decode cX12_breaks 14 = .ok (.iload_n 1, 1) := by decide +kernel
theorem dX12_breaks_15 : decode cX12_breaks 15 = .ok (.invokevirtual 272, 3) := by decide +kernel
theorem dX12_breaks_18 : decode cX12_breaks 18 = .ok (.ifCond .ne 5, 3) := by decide +kernel
theorem dX12_breaks_21 : decode cX12_breaks 21 = .ok (.iconst 0, 1) := by decide +kernel
theorem dX12_breaks_22 : decode cX12_breaks 22 = .ok (.ireturn, 1) := by decide +kernel
theorem dX12_breaks_23 : decode cX12_breaks 23 = .ok (.iload_n 2, 1) := by decide +kernel
theorem dX12_breaks_24 : decode cX12_breaks 24 = .ok (.ifCond .eq 106, 3) := by decide +kernel
theorem dX12_breaks_27 : decode cX12_breaks 27 = .ok (.aload_n 0, 1) := by decide +kernel
theorem dX12_breaks_28 : decode cX12_breaks 28 = .ok (.getfield 87, 3) := by decide +kernel
theorem dX12_breaks_31 : decode cX12_breaks 31 = .ok (.iload_n 1, 1) := by decide +kernel
theorem dX12_breaks_32 : decode cX12_breaks 32 = .ok (.iaload, 1) := by decide +kernel
theorem dX12_breaks_33 : decode cX12_breaks 33 = .ok (.iconst 1, 1) := by decide +kernel
theorem dX12_breaks_34 : decode cX12_breaks 34 = .ok (.if_icmp .ne 96, 3) := by decide +kernel
theorem dX12_breaks_37 : decode cX12_breaks 37 = .ok (.aload_n 0, 1) := by decide +kernel
theorem dX12_breaks_38 : decode cX12_breaks 38 = .ok (.getfield 47, 3) := by decide +kernel
theorem dX12_breaks_41 : decode cX12_breaks 41 = .ok (.aload_n 0, 1) := by decide +kernel
theorem dX12_breaks_42 : decode cX12_breaks 42 = .ok (.getfield 81, 3) := by decide +kernel
theorem dX12_breaks_45 : decode cX12_breaks 45 = .ok (.iload_n 1, 1) := by decide +kernel
theorem dX12_breaks_46 : decode cX12_breaks 46 = .ok (.iaload, 1) := by decide +kernel
theorem dX12_breaks_47 : decode cX12_breaks 47 = .ok (.iaload, 1) := by decide +kernel
theorem dX12_breaks_48 : decode cX12_breaks 48 = .ok (.istore_n 3, 1) := by decide +kernel
theorem dX12_breaks_49 : decode cX12_breaks 49 = .ok (.aload_n 0, 1) := by decide +kernel
theorem dX12_breaks_50 : decode cX12_breaks 50 = .ok (.getfield 96, 3) := by decide +kernel
theorem dX12_breaks_53 : decode cX12_breaks 53 = .ok (.iload_n 1, 1) := by decide +kernel
theorem dX12_breaks_54 : decode cX12_breaks 54 = .ok (.iaload, 1) := by decide +kernel
theorem dX12_breaks_55 : decode cX12_breaks 55 = .ok (.aload_n 0, 1) := by decide +kernel
theorem dX12_breaks_56 : decode cX12_breaks 56 = .ok (.getfield 96, 3) := by decide +kernel
theorem dX12_breaks_59 : decode cX12_breaks 59 = .ok (.iload_n 1, 1) := by decide +kernel
theorem dX12_breaks_60 : decode cX12_breaks 60 = .ok (.iaload, 1) := by decide +kernel
theorem dX12_breaks_61 : decode cX12_breaks 61 = .ok (.i2l, 1) := by decide +kernel
theorem dX12_breaks_62 : decode cX12_breaks 62 = .ok (.aload_n 0, 1) := by decide +kernel
theorem dX12_breaks_63 : decode cX12_breaks 63 = .ok (.getfield 93, 3) := by decide +kernel
theorem dX12_breaks_66 : decode cX12_breaks 66 = .ok (.iload_n 1, 1) := by decide +kernel
theorem dX12_breaks_67 : decode cX12_breaks 67 = .ok (.iaload, 1) := by decide +kernel
theorem dX12_breaks_68 : decode cX12_breaks 68 = .ok (.i2l, 1) := by decide +kernel
theorem dX12_breaks_69 : decode cX12_breaks 69 = .ok (.lmul, 1) := by decide +kernel
theorem dX12_breaks_70 : decode cX12_breaks 70 = .ok (.ldc2_w 442, 3) := by decide +kernel
theorem dX12_breaks_73 : decode cX12_breaks 73 = .ok (.ldiv, 1) := by decide +kernel
theorem dX12_breaks_74 : decode cX12_breaks 74 = .ok (.l2i, 1) := by decide +kernel
theorem dX12_breaks_75 : decode cX12_breaks 75 = .ok (.iadd, 1) := by decide +kernel
theorem dX12_breaks_76 : decode cX12_breaks 76 = .ok (.istore 4, 2) := by decide +kernel
theorem dX12_breaks_78 : decode cX12_breaks 78 = .ok (.aload_n 0, 1) := by decide +kernel
theorem dX12_breaks_79 : decode cX12_breaks 79 = .ok (.getfield 38, 3) := by decide +kernel
theorem dX12_breaks_82 : decode cX12_breaks 82 = .ok (.iload_n 3, 1) := by decide +kernel
theorem dX12_breaks_83 : decode cX12_breaks 83 = .ok (.iaload, 1) := by decide +kernel
theorem dX12_breaks_84 : decode cX12_breaks 84 = .ok (.iload 4, 2) := by decide +kernel
theorem dX12_breaks_86 : decode cX12_breaks 86 = .ok (.if_icmp .ge 5, 3) := by decide +kernel
theorem dX12_breaks_89 : decode cX12_breaks 89 = .ok (.iconst 0, 1) := by decide +kernel
theorem dX12_breaks_90 : decode cX12_breaks 90 = .ok (.ireturn, 1) := by decide +kernel
theorem dX12_breaks_91 : decode cX12_breaks 91 = .ok (.aload_n 0, 1) := by decide +kernel
theorem dX12_breaks_92 : decode cX12_breaks 92 = .ok (.getfield 38, 3) := by decide +kernel
theorem dX12_breaks_95 : decode cX12_breaks 95 = .ok (.iload_n 3, 1) := by decide +kernel
theorem dX12_breaks_96 : decode cX12_breaks 96 = .ok (.dup2, 1) := by decide +kernel
theorem dX12_breaks_97 : decode cX12_breaks 97 = .ok (.iaload, 1) := by decide +kernel
theorem dX12_breaks_98 : decode cX12_breaks 98 = .ok (.iload 4, 2) := by decide +kernel
theorem dX12_breaks_100 : decode cX12_breaks 100 = .ok (.isub, 1) := by decide +kernel
theorem dX12_breaks_101 : decode cX12_breaks 101 = .ok (.iastore, 1) := by decide +kernel
theorem dX12_breaks_102 : decode cX12_breaks 102 = .ok (.aload_n 0, 1) := by decide +kernel
theorem dX12_breaks_103 : decode cX12_breaks 103 = .ok (.getfield 38, 3) := by decide +kernel
theorem dX12_breaks_106 : decode cX12_breaks 106 = .ok (.aload_n 0, 1) := by decide +kernel
theorem dX12_breaks_107 : decode cX12_breaks 107 = .ok (.getfield 47, 3) := by decide +kernel
theorem dX12_breaks_110 : decode cX12_breaks 110 = .ok (.aload_n 0, 1) := by decide +kernel
theorem dX12_breaks_111 : decode cX12_breaks 111 = .ok (.getfield 84, 3) := by decide +kernel
theorem dX12_breaks_114 : decode cX12_breaks 114 = .ok (.iload_n 1, 1) := by decide +kernel
theorem dX12_breaks_115 : decode cX12_breaks 115 = .ok (.iaload, 1) := by decide +kernel
theorem dX12_breaks_116 : decode cX12_breaks 116 = .ok (.iaload, 1) := by decide +kernel
theorem dX12_breaks_117 : decode cX12_breaks 117 = .ok (.dup2, 1) := by decide +kernel
theorem dX12_breaks_118 : decode cX12_breaks 118 = .ok (.iaload, 1) := by decide +kernel
theorem dX12_breaks_119 : decode cX12_breaks 119 = .ok (.iload 4, 2) := by decide +kernel
theorem dX12_breaks_121 : decode cX12_breaks 121 = .ok (.iadd, 1) := by decide +kernel
theorem dX12_breaks_122 : decode cX12_breaks 122 = .ok (.iastore, 1) := by decide +kernel
theorem dX12_breaks_123 : decode cX12_breaks 123 = .ok (.aload_n 0, 1) := by decide +kernel
theorem dX12_breaks_124 : decode cX12_breaks 124 = .ok (.getfield 96, 3) := by decide +kernel
theorem dX12_breaks_127 : decode cX12_breaks 127 = .ok (.iload_n 1, 1) := by decide +kernel
theorem dX12_breaks_128 : decode cX12_breaks 128 = .ok (.iconst 0, 1) := by decide +kernel
theorem dX12_breaks_129 : decode cX12_breaks 129 = .ok (.iastore, 1) := by decide +kernel
theorem dX12_breaks_130 : decode cX12_breaks 130 = .ok (.aload_n 0, 1) := by decide +kernel
theorem dX12_breaks_131 : decode cX12_breaks 131 = .ok (.iload_n 1, 1) := by decide +kernel
theorem dX12_breaks_132 : decode cX12_breaks 132 = .ok (.iconst 3, 1) := by decide +kernel
theorem dX12_breaks_133 : decode cX12_breaks 133 = .ok (.invokevirtual 249, 3) := by decide +kernel
theorem dX12_breaks_136 : decode cX12_breaks 136 = .ok (.iconst 1, 1) := by decide +kernel
theorem dX12_breaks_137 : decode cX12_breaks 137 = .ok (.ireturn, 1) := by decide +kernel
theorem dX12_isLate_0 : decode cX12_isLate 0 = .ok (.aload_n 0, 1) := by decide +kernel
theorem dX12_isLate_1 : decode cX12_isLate 1 = .ok (.getfield 87, 3) := by decide +kernel
theorem dX12_isLate_4 : decode cX12_isLate 4 = .ok (.iload_n 1, 1) := by decide +kernel
theorem dX12_isLate_5 : decode cX12_isLate 5 = .ok (.iaload, 1) := by decide +kernel
theorem dX12_isLate_6 : decode cX12_isLate 6 = .ok (.iconst 2, 1) := by decide +kernel
theorem dX12_isLate_7 : decode cX12_isLate 7 = .ok (.if_icmp .eq 5, 3) := by decide +kernel
theorem dX12_isLate_10 : decode cX12_isLate 10 = .ok (.iconst 0, 1) := by decide +kernel
theorem dX12_isLate_11 : decode cX12_isLate 11 = .ok (.ireturn, 1) := by decide +kernel
theorem dX12_isLate_12 : decode cX12_isLate 12 = .ok (.iconst 0, 1) := by decide +kernel
theorem dX12_isLate_13 : decode cX12_isLate 13 = .ok (.istore_n 2, 1) := by decide +kernel
theorem dX12_isLate_14 : decode cX12_isLate 14 = .ok (.iconst 0, 1) := by decide +kernel
theorem dX12_isLate_15 : decode cX12_isLate 15 = .ok (.istore_n 3, 1) := by decide +kernel
theorem dX12_isLate_16 : decode cX12_isLate 16 = .ok (.iload_n 3, 1) := by decide +kernel
theorem dX12_isLate_17 : decode cX12_isLate 17 = .ok (.iconst 2, 1) := by decide +kernel
theorem dX12_isLate_18 : decode cX12_isLate 18 = .ok (.if_icmp .ge 140, 3) := by decide +kernel
theorem dX12_isLate_21 : decode cX12_isLate 21 = .ok (.iload_n 3, 1) := by decide +kernel
theorem dX12_isLate_22 : decode cX12_isLate 22 = .ok (.ifCond .ne 12, 3) := by decide +kernel
theorem dX12_isLate_25 : decode cX12_isLate 25 = .ok (.aload_n 0, 1) := by decide +kernel
theorem dX12_isLate_26 : decode cX12_isLate 26 = .ok (.getfield 81, 3) := by decide +kernel
theorem dX12_isLate_29 : decode cX12_isLate 29 = .ok (.iload_n 1, 1) := by decide +kernel
theorem dX12_isLate_30 : decode cX12_isLate 30 = .ok (.iaload, 1) := by decide +kernel
theorem dX12_isLate_31 : decode cX12_isLate 31 = .ok (.goto 9, 3) := by decide +kernel
theorem dX12_isLate_34 : decode cX12_isLate 34 = .ok (.aload_n 0, 1) := by decide +kernel
theorem dX12_isLate_35 : decode cX12_isLate 35 = .ok (.getfield 84, 3) := by decide +kernel
theorem dX12_isLate_38 : decode cX12_isLate 38 = .ok (.iload_n 1, 1) := by decide +kernel
theorem dX12_isLate_39 : decode cX12_isLate 39 = .ok (.iaload, 1) := by decide +kernel
theorem dX12_isLate_40 : decode cX12_isLate 40 = .ok (.istore 4, 2) := by decide +kernel
theorem dX12_isLate_42 : decode cX12_isLate 42 = .ok (.aload_n 0, 1) := by decide +kernel
theorem dX12_isLate_43 : decode cX12_isLate 43 = .ok (.aload_n 0, 1) := by decide +kernel
theorem dX12_isLate_44 : decode cX12_isLate 44 = .ok (.getfield 81, 3) := by decide +kernel
theorem dX12_isLate_47 : decode cX12_isLate 47 = .ok (.iload_n 1, 1) := by decide +kernel
theorem dX12_isLate_48 : decode cX12_isLate 48 = .ok (.iaload, 1) := by decide +kernel
theorem dX12_isLate_49 : decode cX12_isLate 49 = .ok (.aload_n 0, 1) := by decide +kernel
theorem dX12_isLate_50 : decode cX12_isLate 50 = .ok (.getfield 84, 3) := by decide +kernel
theorem dX12_isLate_53 : decode cX12_isLate 53 = .ok (.iload_n 1, 1) := by decide +kernel
theorem dX12_isLate_54 : decode cX12_isLate 54 = .ok (.iaload, 1) := by decide +kernel
theorem dX12_isLate_55 : decode cX12_isLate 55 = .ok (.aload_n 0, 1) := by decide +kernel
theorem dX12_isLate_56 : decode cX12_isLate 56 = .ok (.getfield 35, 3) := by decide +kernel
theorem dX12_isLate_59 : decode cX12_isLate 59 = .ok (.aload_n 0, 1) := by decide +kernel
theorem dX12_isLate_60 : decode cX12_isLate 60 = .ok (.getfield 47, 3) := by decide +kernel
theorem dX12_isLate_63 : decode cX12_isLate 63 = .ok (.iload 4, 2) := by decide +kernel
theorem dX12_isLate_65 : decode cX12_isLate 65 = .ok (.iaload, 1) := by decide +kernel
theorem dX12_isLate_66 : decode cX12_isLate 66 = .ok (.iaload, 1) := by decide +kernel
theorem dX12_isLate_67 : decode cX12_isLate 67 = .ok (.aload_n 0, 1) := by decide +kernel
theorem dX12_isLate_68 : decode cX12_isLate 68 = .ok (.getfield 23, 3) := by decide +kernel
theorem dX12_isLate_71 : decode cX12_isLate 71 = .ok (.iconst 0, 1) := by decide +kernel
theorem dX12_isLate_72 : decode cX12_isLate 72 = .ok (.iaload, 1) := by decide +kernel
theorem dX12_isLate_73 : decode cX12_isLate 73 = .ok (.invokevirtual 265, 3) := by decide +kernel
theorem dX12_isLate_76 : decode cX12_isLate 76 = .ok (.istore 5, 2) := by decide +kernel
theorem dX12_isLate_78 : decode cX12_isLate 78 = .ok (.iconst 0, 1) := by decide +kernel
theorem dX12_isLate_79 : decode cX12_isLate 79 = .ok (.istore 6, 2) := by decide +kernel
theorem dX12_isLate_81 : decode cX12_isLate 81 = .ok (.iload 6, 2) := by decide +kernel
theorem dX12_isLate_83 : decode cX12_isLate 83 = .ok (.bipush 11, 2) := by decide +kernel
theorem dX12_isLate_85 : decode cX12_isLate 85 = .ok (.if_icmp .ge 28, 3) := by decide +kernel
theorem dX12_isLate_88 : decode cX12_isLate 88 = .ok (.aload_n 0, 1) := by decide +kernel
theorem dX12_isLate_89 : decode cX12_isLate 89 = .ok (.getfield 159, 3) := by decide +kernel
theorem dX12_isLate_92 : decode cX12_isLate 92 = .ok (.iload 6, 2) := by decide +kernel
theorem dX12_isLate_94 : decode cX12_isLate 94 = .ok (.aload_n 0, 1) := by decide +kernel
theorem dX12_isLate_95 : decode cX12_isLate 95 = .ok (.getfield 105, 3) := by decide +kernel
theorem dX12_isLate_98 : decode cX12_isLate 98 = .ok (.bipush 11, 2) := by decide +kernel
theorem dX12_isLate_100 : decode cX12_isLate 100 = .ok (.iload_n 1, 1) := by decide +kernel
theorem dX12_isLate_101 : decode cX12_isLate 101 = .ok (.imul, 1) := by decide +kernel
theorem dX12_isLate_102 : decode cX12_isLate 102 = .ok (.iload 6, 2) := by decide +kernel
theorem dX12_isLate_104 : decode cX12_isLate 104 = .ok (.iadd, 1) := by decide +kernel
theorem dX12_isLate_105 : decode cX12_isLate 105 = .ok (.iaload, 1) := by decide +kernel
theorem dX12_isLate_106 : decode cX12_isLate 106 = .ok (.iastore, 1) := by decide +kernel
theorem dX12_isLate_107 : decode cX12_isLate 107 = .ok (.iinc 6 1, 3) := by decide +kernel
theorem dX12_isLate_110 : decode cX12_isLate 110 = .ok (.goto (-29), 3) := by decide +kernel
theorem dX12_isLate_113 : decode cX12_isLate 113 = .ok (.aload_n 0, 1) := by decide +kernel
theorem dX12_isLate_114 : decode cX12_isLate 114 = .ok (.getfield 159, 3) := by decide +kernel
theorem dX12_isLate_117 : decode cX12_isLate 117 = .ok (.bipush 6, 2) := by decide +kernel
theorem dX12_isLate_119 : decode cX12_isLate 119 = .ok (.iload 5, 2) := by decide +kernel
theorem dX12_isLate_121 : decode cX12_isLate 121 = .ok (.iastore, 1) := by decide +kernel
theorem dX12_isLate_122 : decode cX12_isLate 122 = .ok (.aload_n 0, 1) := by decide +kernel
theorem dX12_isLate_123 : decode cX12_isLate 123 = .ok (.bipush 7, 2) := by decide +kernel
theorem dX12_isLate_125 : decode cX12_isLate 125 = .ok (.iconst 2, 1) := by decide +kernel
theorem dX12_isLate_126 : decode cX12_isLate 126 = .ok (.iload_n 1, 1) := by decide +kernel
theorem dX12_isLate_127 : decode cX12_isLate 127 = .ok (.imul, 1) := by decide +kernel
theorem dX12_isLate_128 : decode cX12_isLate 128 = .ok (.iadd, 1) := by decide +kernel
theorem dX12_isLate_129 : decode cX12_isLate 129 = .ok (.iload_n 3, 1) := by decide +kernel
theorem dX12_isLate_130 : decode cX12_isLate 130 = .ok (.iadd, 1) := by decide +kernel
theorem dX12_isLate_131 : decode cX12_isLate 131 = .ok (.invokevirtual 417, 3) := by decide +kernel
theorem dX12_isLate_134 : decode cX12_isLate 134 = .ok (.iload_n 2, 1) := by decide +kernel
theorem dX12_isLate_135 : decode cX12_isLate 135 = .ok (.ifCond .ne 11, 3) := by decide +kernel
theorem dX12_isLate_138 : decode cX12_isLate 138 = .ok (.aload_n 0, 1) := by decide +kernel
theorem dX12_isLate_139 : decode cX12_isLate 139 = .ok (.getfield 395, 3) := by decide +kernel
theorem dX12_isLate_142 : decode cX12_isLate 142 = .ok (.iconst (-1), 1) := by decide +kernel
theorem dX12_isLate_143 : decode cX12_isLate 143 = .ok (.if_icmp .eq 7, 3) := by decide +kernel
theorem dX12_isLate_146 : decode cX12_isLate 146 = .ok (.iconst 1, 1) := by decide +kernel
theorem dX12_isLate_147 : decode cX12_isLate 147 = .ok (.goto 4, 3) := by decide +kernel
theorem dX12_isLate_150 : decode cX12_isLate 150 = .ok (.iconst 0, 1) := by decide +kernel
theorem dX12_isLate_151 : decode cX12_isLate 151 = .ok (.istore_n 2, 1) := by decide +kernel
theorem dX12_isLate_152 : decode cX12_isLate 152 = .ok (.iinc 3 1, 3) := by decide +kernel
theorem dX12_isLate_155 : decode cX12_isLate 155 = .ok (.goto (-139), 3) := by decide +kernel
theorem dX12_isLate_158 : decode cX12_isLate 158 = .ok (.iload_n 2, 1) := by decide +kernel
theorem dX12_isLate_159 : decode cX12_isLate 159 = .ok (.ireturn, 1) := by decide +kernel
theorem dX12_match_0 : decode cX12_match 0 = .ok (.aload_n 0, 1) := by decide +kernel
theorem dX12_match_1 : decode cX12_match 1 = .ok (.iconst 0, 1) := by decide +kernel
theorem dX12_match_2 : decode cX12_match 2 = .ok (.putfield 202, 3) := by decide +kernel
theorem dX12_match_5 : decode cX12_match 5 = .ok (.aload_n 0, 1) := by decide +kernel
theorem dX12_match_6 : decode cX12_match 6 = .ok (.iload_n 1, 1) := by decide +kernel
theorem dX12_match_7 : decode cX12_match 7 = .ok (.invokevirtual 433, 3) := by decide +kernel
theorem dX12_match_10 : decode cX12_match 10 = .ok (.ifCond .ne 5, 3) := by decide +kernel
theorem dX12_match_13 : decode cX12_match 13 = .ok (.iconst (-1), 1) := by decide +kernel
theorem dX12_match_14 : decode cX12_match 14 = .ok (.ireturn, 1) := by decide +kernel
theorem dX12_match_15 : decode cX12_match 15 = .ok (.iload_n 2, 1) := by decide +kernel
theorem dX12_match_16 : decode cX12_match 16 = .ok (.tableswitch 122 0 8 #[52, 59, 66, 73, 80, 87, 94, 101, 108], 52) := by decide +kernel
theorem dX12_match_68 : decode cX12_match 68 = .ok (.aload_n 0, 1) := by decide +kernel
theorem dX12_match_69 : decode cX12_match 69 = .ok (.getfield 81, 3) := by decide +kernel
theorem dX12_match_72 : decode cX12_match 72 = .ok (.iload_n 1, 1) := by decide +kernel
theorem dX12_match_73 : decode cX12_match 73 = .ok (.iaload, 1) := by decide +kernel
theorem dX12_match_74 : decode cX12_match 74 = .ok (.ireturn, 1) := by decide +kernel
theorem dX12_match_75 : decode cX12_match 75 = .ok (.aload_n 0, 1) := by decide +kernel
theorem dX12_match_76 : decode cX12_match 76 = .ok (.getfield 84, 3) := by decide +kernel
theorem dX12_match_79 : decode cX12_match 79 = .ok (.iload_n 1, 1) := by decide +kernel
theorem dX12_match_80 : decode cX12_match 80 = .ok (.iaload, 1) := by decide +kernel
theorem dX12_match_81 : decode cX12_match 81 = .ok (.ireturn, 1) := by decide +kernel
theorem dX12_match_82 : decode cX12_match 82 = .ok (.aload_n 0, 1) := by decide +kernel
theorem dX12_match_83 : decode cX12_match 83 = .ok (.getfield 87, 3) := by decide +kernel
theorem dX12_match_86 : decode cX12_match 86 = .ok (.iload_n 1, 1) := by decide +kernel
theorem dX12_match_87 : decode cX12_match 87 = .ok (.iaload, 1) := by decide +kernel
theorem dX12_match_88 : decode cX12_match 88 = .ok (.ireturn, 1) := by decide +kernel
theorem dX12_match_89 : decode cX12_match 89 = .ok (.aload_n 0, 1) := by decide +kernel
theorem dX12_match_90 : decode cX12_match 90 = .ok (.getfield 90, 3) := by decide +kernel
theorem dX12_match_93 : decode cX12_match 93 = .ok (.iload_n 1, 1) := by decide +kernel
theorem dX12_match_94 : decode cX12_match 94 = .ok (.iaload, 1) := by decide +kernel
theorem dX12_match_95 : decode cX12_match 95 = .ok (.ireturn, 1) := by decide +kernel
theorem dX12_match_96 : decode cX12_match 96 = .ok (.aload_n 0, 1) := by decide +kernel
theorem dX12_match_97 : decode cX12_match 97 = .ok (.getfield 93, 3) := by decide +kernel
theorem dX12_match_100 : decode cX12_match 100 = .ok (.iload_n 1, 1) := by decide +kernel
theorem dX12_match_101 : decode cX12_match 101 = .ok (.iaload, 1) := by decide +kernel
theorem dX12_match_102 : decode cX12_match 102 = .ok (.ireturn, 1) := by decide +kernel
theorem dX12_match_103 : decode cX12_match 103 = .ok (.aload_n 0, 1) := by decide +kernel
theorem dX12_match_104 : decode cX12_match 104 = .ok (.getfield 96, 3) := by decide +kernel
theorem dX12_match_107 : decode cX12_match 107 = .ok (.iload_n 1, 1) := by decide +kernel
theorem dX12_match_108 : decode cX12_match 108 = .ok (.iaload, 1) := by decide +kernel
theorem dX12_match_109 : decode cX12_match 109 = .ok (.ireturn, 1) := by decide +kernel
theorem dX12_match_110 : decode cX12_match 110 = .ok (.aload_n 0, 1) := by decide +kernel
theorem dX12_match_111 : decode cX12_match 111 = .ok (.getfield 99, 3) := by decide +kernel
theorem dX12_match_114 : decode cX12_match 114 = .ok (.iload_n 1, 1) := by decide +kernel
theorem dX12_match_115 : decode cX12_match 115 = .ok (.iaload, 1) := by decide +kernel
theorem dX12_match_116 : decode cX12_match 116 = .ok (.ireturn, 1) := by decide +kernel
theorem dX12_match_117 : decode cX12_match 117 = .ok (.aload_n 0, 1) := by decide +kernel
theorem dX12_match_118 : decode cX12_match 118 = .ok (.getfield 102, 3) := by decide +kernel
theorem dX12_match_121 : decode cX12_match 121 = .ok (.iload_n 1, 1) := by decide +kernel
theorem dX12_match_122 : decode cX12_match 122 = .ok (.iaload, 1) := by decide +kernel
theorem dX12_match_123 : decode cX12_match 123 = .ok (.ireturn, 1) := by decide +kernel
theorem dX12_match_124 : decode cX12_match 124 = .ok (.aload_n 0, 1) := by decide +kernel
theorem dX12_match_125 : decode cX12_match 125 = .ok (.iload_n 1, 1) := by decide +kernel
theorem dX12_match_126 : decode cX12_match 126 = .ok (.invokevirtual 444, 3) := by decide +kernel
theorem dX12_match_129 : decode cX12_match 129 = .ok (.ifCond .eq 7, 3) := by decide +kernel
theorem dX12_match_132 : decode cX12_match 132 = .ok (.iconst 1, 1) := by decide +kernel
theorem dX12_match_133 : decode cX12_match 133 = .ok (.goto 4, 3) := by decide +kernel
theorem dX12_match_136 : decode cX12_match 136 = .ok (.iconst 0, 1) := by decide +kernel
theorem dX12_match_137 : decode cX12_match 137 = .ok (.ireturn, 1) := by decide +kernel
theorem dX12_match_138 : decode cX12_match 138 = .ok (.iconst (-1), 1) := by decide +kernel
theorem dX12_match_139 : decode cX12_match 139 = .ok (.ireturn, 1) := by decide +kernel
theorem dX12_late_0 : decode cX12_late 0 = .ok (.aload_n 0, 1) := by decide +kernel
theorem dX12_late_1 : decode cX12_late 1 = .ok (.iconst 0, 1) := by decide +kernel
theorem dX12_late_2 : decode cX12_late 2 = .ok (.putfield 202, 3) := by decide +kernel
theorem dX12_late_5 : decode cX12_late 5 = .ok (.iconst 0, 1) := by decide +kernel
theorem dX12_late_6 : decode cX12_late 6 = .ok (.istore_n 2, 1) := by decide +kernel
theorem dX12_late_7 : decode cX12_late 7 = .ok (.iconst 0, 1) := by decide +kernel
theorem dX12_late_8 : decode cX12_late 8 = .ok (.istore_n 3, 1) := by decide +kernel
theorem dX12_late_9 : decode cX12_late 9 = .ok (.iload_n 3, 1) := by decide +kernel
theorem dX12_late_10 : decode cX12_late 10 = .ok (.aload_n 0, 1) := by decide +kernel
theorem dX12_late_11 : decode cX12_late 11 = .ok (.getfield 78, 3) := by decide +kernel
theorem dX12_late_14 : decode cX12_late 14 = .ok (.iconst 0, 1) := by decide +kernel
theorem dX12_late_15 : decode cX12_late 15 = .ok (.iaload, 1) := by decide +kernel
theorem dX12_late_16 : decode cX12_late 16 = .ok (.if_icmp .ge 27, 3) := by decide +kernel
theorem dX12_late_19 : decode cX12_late 19 = .ok (.aload_n 0, 1) := by decide +kernel
theorem dX12_late_20 : decode cX12_late 20 = .ok (.iload_n 3, 1) := by decide +kernel
theorem dX12_late_21 : decode cX12_late 21 = .ok (.invokevirtual 444, 3) := by decide +kernel
theorem dX12_late_24 : decode cX12_late 24 = .ok (.ifCond .eq 13, 3) := by decide +kernel
theorem dX12_late_27 : decode cX12_late 27 = .ok (.iload_n 2, 1) := by decide +kernel
theorem dX12_late_28 : decode cX12_late 28 = .ok (.iload_n 1, 1) := by decide +kernel
theorem dX12_late_29 : decode cX12_late 29 = .ok (.if_icmp .ne 5, 3) := by decide +kernel
theorem dX12_late_32 : decode cX12_late 32 = .ok (.iload_n 3, 1) := by decide +kernel
theorem dX12_late_33 : decode cX12_late 33 = .ok (.ireturn, 1) := by decide +kernel
theorem dX12_late_34 : decode cX12_late 34 = .ok (.iinc 2 1, 3) := by decide +kernel
theorem dX12_late_37 : decode cX12_late 37 = .ok (.iinc 3 1, 3) := by decide +kernel
theorem dX12_late_40 : decode cX12_late 40 = .ok (.goto (-31), 3) := by decide +kernel
theorem dX12_late_43 : decode cX12_late 43 = .ok (.iconst (-1), 1) := by decide +kernel
theorem dX12_late_44 : decode cX12_late 44 = .ok (.ireturn, 1) := by decide +kernel
theorem dX12_wouldPart_0 : decode cX12_wouldPart 0 = .ok (.aload_n 0, 1) := by decide +kernel
theorem dX12_wouldPart_1 : decode cX12_wouldPart 1 = .ok (.iload_n 1, 1) := by decide +kernel
theorem dX12_wouldPart_2 : decode cX12_wouldPart 2 = .ok (.invokevirtual 245, 3) := by decide +kernel
theorem dX12_wouldPart_5 : decode cX12_wouldPart 5 = .ok (.istore_n 3, 1) := by decide +kernel
theorem dX12_wouldPart_6 : decode cX12_wouldPart 6 = .ok (.aload_n 0, 1) := by decide +kernel
theorem dX12_wouldPart_7 : decode cX12_wouldPart 7 = .ok (.iload_n 2, 1) := by decide +kernel
theorem dX12_wouldPart_8 : decode cX12_wouldPart 8 = .ok (.invokevirtual 245, 3) := by decide +kernel
theorem dX12_wouldPart_11 : decode cX12_wouldPart 11 = .ok (.istore 4, 2) := by decide +kernel
theorem dX12_wouldPart_13 : decode cX12_wouldPart 13 = .ok (.iload_n 3, 1) := by decide +kernel
theorem dX12_wouldPart_14 : decode cX12_wouldPart 14 = .ok (.iconst (-1), 1) := by decide +kernel
theorem dX12_wouldPart_15 : decode cX12_wouldPart 15 = .ok (.if_icmp .eq 24, 3) := by decide +kernel
theorem dX12_wouldPart_18 : decode cX12_wouldPart 18 = .ok (.iload 4, 2) := by decide +kernel
theorem dX12_wouldPart_20 : decode cX12_wouldPart 20 = .ok (.iconst (-1), 1) := by decide +kernel
theorem dX12_wouldPart_21 : decode cX12_wouldPart 21 = .ok (.if_icmp .eq 18, 3) := by decide +kernel
theorem dX12_wouldPart_24 : decode cX12_wouldPart 24 = .ok (.iload_n 3, 1) := by decide +kernel
theorem dX12_wouldPart_25 : decode cX12_wouldPart 25 = .ok (.iload 4, 2) := by decide +kernel
theorem dX12_wouldPart_27 : decode cX12_wouldPart 27 = .ok (.if_icmp .eq 12, 3) := by decide +kernel
theorem dX12_wouldPart_30 : decode cX12_wouldPart 30 = .ok (.aload_n 0, 1) := by decide +kernel
theorem dX12_wouldPart_31 : decode cX12_wouldPart 31 = .ok (.iload_n 1, 1) := by decide +kernel
theorem dX12_wouldPart_32 : decode cX12_wouldPart 32 = .ok (.iload_n 2, 1) := by decide +kernel
theorem dX12_wouldPart_33 : decode cX12_wouldPart 33 = .ok (.invokevirtual 426, 3) := by decide +kernel
theorem dX12_wouldPart_36 : decode cX12_wouldPart 36 = .ok (.ifCond .ne 5, 3) := by decide +kernel
theorem dX12_wouldPart_39 : decode cX12_wouldPart 39 = .ok (.iconst 0, 1) := by decide +kernel
theorem dX12_wouldPart_40 : decode cX12_wouldPart 40 = .ok (.ireturn, 1) := by decide +kernel
theorem dX12_wouldPart_41 : decode cX12_wouldPart 41 = .ok (.aload_n 0, 1) := by decide +kernel
theorem dX12_wouldPart_42 : decode cX12_wouldPart 42 = .ok (.iload_n 1, 1) := by decide +kernel
theorem dX12_wouldPart_43 : decode cX12_wouldPart 43 = .ok (.iload_n 2, 1) := by decide +kernel
theorem dX12_wouldPart_44 : decode cX12_wouldPart 44 = .ok (.invokevirtual 429, 3) := by decide +kernel
theorem dX12_wouldPart_47 : decode cX12_wouldPart 47 = .ok (.aload_n 0, 1) := by decide +kernel
theorem dX12_wouldPart_48 : decode cX12_wouldPart 48 = .ok (.iload_n 1, 1) := by decide +kernel
theorem dX12_wouldPart_49 : decode cX12_wouldPart 49 = .ok (.aload_n 0, 1) := by decide +kernel
theorem dX12_wouldPart_50 : decode cX12_wouldPart 50 = .ok (.getfield 84, 3) := by decide +kernel
theorem dX12_wouldPart_53 : decode cX12_wouldPart 53 = .ok (.iload_n 3, 1) := by decide +kernel
theorem dX12_wouldPart_54 : decode cX12_wouldPart 54 = .ok (.iaload, 1) := by decide +kernel
theorem dX12_wouldPart_55 : decode cX12_wouldPart 55 = .ok (.invokevirtual 429, 3) := by decide +kernel
theorem dX12_wouldPart_58 : decode cX12_wouldPart 58 = .ok (.if_icmp .le 28, 3) := by decide +kernel
theorem dX12_wouldPart_61 : decode cX12_wouldPart 61 = .ok (.aload_n 0, 1) := by decide +kernel
theorem dX12_wouldPart_62 : decode cX12_wouldPart 62 = .ok (.iload_n 2, 1) := by decide +kernel
theorem dX12_wouldPart_63 : decode cX12_wouldPart 63 = .ok (.iload_n 1, 1) := by decide +kernel
theorem dX12_wouldPart_64 : decode cX12_wouldPart 64 = .ok (.invokevirtual 429, 3) := by decide +kernel
theorem dX12_wouldPart_67 : decode cX12_wouldPart 67 = .ok (.aload_n 0, 1) := by decide +kernel
theorem dX12_wouldPart_68 : decode cX12_wouldPart 68 = .ok (.iload_n 2, 1) := by decide +kernel
theorem dX12_wouldPart_69 : decode cX12_wouldPart 69 = .ok (.aload_n 0, 1) := by decide +kernel
theorem dX12_wouldPart_70 : decode cX12_wouldPart 70 = .ok (.getfield 81, 3) := by decide +kernel
theorem dX12_wouldPart_73 : decode cX12_wouldPart 73 = .ok (.iload 4, 2) := by decide +kernel
theorem dX12_wouldPart_75 : decode cX12_wouldPart 75 = .ok (.iaload, 1) := by decide +kernel
theorem dX12_wouldPart_76 : decode cX12_wouldPart 76 = .ok (.invokevirtual 429, 3) := by decide +kernel
theorem dX12_wouldPart_79 : decode cX12_wouldPart 79 = .ok (.if_icmp .le 7, 3) := by decide +kernel
theorem dX12_wouldPart_82 : decode cX12_wouldPart 82 = .ok (.iconst 1, 1) := by decide +kernel
theorem dX12_wouldPart_83 : decode cX12_wouldPart 83 = .ok (.goto 4, 3) := by decide +kernel
theorem dX12_wouldPart_86 : decode cX12_wouldPart 86 = .ok (.iconst 0, 1) := by decide +kernel
theorem dX12_wouldPart_87 : decode cX12_wouldPart 87 = .ok (.ireturn, 1) := by decide +kernel
theorem dX12_parts_0 : decode cX12_parts 0 = .ok (.aload_n 0, 1) := by decide +kernel
theorem dX12_parts_1 : decode cX12_parts 1 = .ok (.iconst 0, 1) := by decide +kernel
theorem dX12_parts_2 : decode cX12_parts 2 = .ok (.putfield 202, 3) := by decide +kernel
theorem dX12_parts_5 : decode cX12_parts 5 = .ok (.iconst 0, 1) := by decide +kernel
theorem dX12_parts_6 : decode cX12_parts 6 = .ok (.istore_n 2, 1) := by decide +kernel
theorem dX12_parts_7 : decode cX12_parts 7 = .ok (.iconst 0, 1) := by decide +kernel
theorem dX12_parts_8 : decode cX12_parts 8 = .ok (.istore_n 3, 1) := by decide +kernel
theorem dX12_parts_9 : decode cX12_parts 9 = .ok (.iload_n 3, 1) := by decide +kernel
theorem dX12_parts_10 : decode cX12_parts 10 = .ok (.aload_n 0, 1) := by decide +kernel
theorem dX12_parts_11 : decode cX12_parts 11 = .ok (.getfield 44, 3) := by decide +kernel
theorem dX12_parts_14 : decode cX12_parts 14 = .ok (.iconst 0, 1) := by decide +kernel
theorem dX12_parts_15 : decode cX12_parts 15 = .ok (.iaload, 1) := by decide +kernel
theorem dX12_parts_16 : decode cX12_parts 16 = .ok (.if_icmp .ge 75, 3) := by decide +kernel
theorem dX12_parts_19 : decode cX12_parts 19 = .ok (.iconst 0, 1) := by decide +kernel
theorem dX12_parts_20 : decode cX12_parts 20 = .ok (.istore 4, 2) := by decide +kernel
theorem dX12_parts_22 : decode cX12_parts 22 = .ok (.iload 4, 2) := by decide +kernel
theorem dX12_parts_24 : decode cX12_parts 24 = .ok (.aload_n 0, 1) := by decide +kernel
theorem dX12_parts_25 : decode cX12_parts 25 = .ok (.getfield 44, 3) := by decide +kernel
theorem dX12_parts_28 : decode cX12_parts 28 = .ok (.iconst 0, 1) := by decide +kernel
theorem dX12_parts_29 : decode cX12_parts 29 = .ok (.iaload, 1) := by decide +kernel
theorem dX12_parts_30 : decode cX12_parts 30 = .ok (.if_icmp .ge 55, 3) := by decide +kernel
theorem dX12_parts_33 : decode cX12_parts 33 = .ok (.aload_n 0, 1) := by decide +kernel
theorem dX12_parts_34 : decode cX12_parts 34 = .ok (.getfield 50, 3) := by decide +kernel
theorem dX12_parts_37 : decode cX12_parts 37 = .ok (.iload_n 3, 1) := by decide +kernel
theorem dX12_parts_38 : decode cX12_parts 38 = .ok (.iaload, 1) := by decide +kernel
theorem dX12_parts_39 : decode cX12_parts 39 = .ok (.ifCond .ne 46, 3) := by decide +kernel
theorem dX12_parts_42 : decode cX12_parts 42 = .ok (.aload_n 0, 1) := by decide +kernel
theorem dX12_parts_43 : decode cX12_parts 43 = .ok (.getfield 50, 3) := by decide +kernel
theorem dX12_parts_46 : decode cX12_parts 46 = .ok (.iload 4, 2) := by decide +kernel
theorem dX12_parts_48 : decode cX12_parts 48 = .ok (.iaload, 1) := by decide +kernel
theorem dX12_parts_49 : decode cX12_parts 49 = .ok (.iconst 1, 1) := by decide +kernel
theorem dX12_parts_50 : decode cX12_parts 50 = .ok (.if_icmp .ne 29, 3) := by decide +kernel
theorem dX12_parts_53 : decode cX12_parts 53 = .ok (.aload_n 0, 1) := by decide +kernel
theorem dX12_parts_54 : decode cX12_parts 54 = .ok (.iload_n 3, 1) := by decide +kernel
theorem dX12_parts_55 : decode cX12_parts 55 = .ok (.iload 4, 2) := by decide +kernel
theorem dX12_parts_57 : decode cX12_parts 57 = .ok (.invokevirtual 447, 3) := by decide +kernel
theorem dX12_parts_60 : decode cX12_parts 60 = .ok (.ifCond .eq 19, 3) := by decide +kernel
theorem dX12_parts_63 : decode cX12_parts 63 = .ok (.iload_n 2, 1) := by decide +kernel
theorem dX12_parts_64 : decode cX12_parts 64 = .ok (.iload_n 1, 1) := by decide +kernel
theorem dX12_parts_65 : decode cX12_parts 65 = .ok (.if_icmp .ne 11, 3) := by decide +kernel
theorem dX12_parts_68 : decode cX12_parts 68 = .ok (.bipush 100, 2) := by decide +kernel
theorem dX12_parts_70 : decode cX12_parts 70 = .ok (.iload_n 3, 1) := by decide +kernel
theorem dX12_parts_71 : decode cX12_parts 71 = .ok (.imul, 1) := by decide +kernel
theorem dX12_parts_72 : decode cX12_parts 72 = .ok (.iload 4, 2) := by decide +kernel
theorem dX12_parts_74 : decode cX12_parts 74 = .ok (.iadd, 1) := by decide +kernel
theorem dX12_parts_75 : decode cX12_parts 75 = .ok (.ireturn, 1) := by decide +kernel
theorem dX12_parts_76 : decode cX12_parts 76 = .ok (.iinc 2 1, 3) := by decide +kernel
theorem dX12_parts_79 : decode cX12_parts 79 = .ok (.iinc 4 1, 3) := by decide +kernel
theorem dX12_parts_82 : decode cX12_parts 82 = .ok (.goto (-60), 3) := by decide +kernel
theorem dX12_parts_85 : decode cX12_parts 85 = .ok (.iinc 3 1, 3) := by decide +kernel
theorem dX12_parts_88 : decode cX12_parts 88 = .ok (.goto (-79), 3) := by decide +kernel
theorem dX12_parts_91 : decode cX12_parts 91 = .ok (.iconst (-1), 1) := by decide +kernel
theorem dX12_parts_92 : decode cX12_parts 92 = .ok (.ireturn, 1) := by decide +kernel
theorem dX12_findFree_0 : decode cX12_findFree 0 = .ok (.aload_n 0, 1) := by decide +kernel
theorem dX12_findFree_1 : decode cX12_findFree 1 = .ok (.getfield 162, 3) := by decide +kernel
theorem dX12_findFree_4 : decode cX12_findFree 4 = .ok (.iconst 0, 1) := by decide +kernel
theorem dX12_findFree_5 : decode cX12_findFree 5 = .ok (.iconst 0, 1) := by decide +kernel
theorem dX12_findFree_6 : decode cX12_findFree 6 = .ok (.iastore, 1) := by decide +kernel
theorem dX12_findFree_7 : decode cX12_findFree 7 = .ok (.aload_n 0, 1) := by decide +kernel
theorem dX12_findFree_8 : decode cX12_findFree 8 = .ok (.getfield 162, 3) := by decide +kernel
theorem dX12_findFree_11 : decode cX12_findFree 11 = .ok (.iconst 1, 1) := by decide +kernel
theorem dX12_findFree_12 : decode cX12_findFree 12 = .ok (.iconst 0, 1) := by decide +kernel
theorem dX12_findFree_13 : decode cX12_findFree 13 = .ok (.iastore, 1) := by decide +kernel
theorem dX12_findFree_14 : decode cX12_findFree 14 = .ok (.iconst 0, 1) := by decide +kernel
theorem dX12_findFree_15 : decode cX12_findFree 15 = .ok (.istore_n 1, 1) := by decide +kernel
theorem dX12_findFree_16 : decode cX12_findFree 16 = .ok (.iload_n 1, 1) := by decide +kernel
theorem dX12_findFree_17 : decode cX12_findFree 17 = .ok (.aload_n 0, 1) := by decide +kernel
theorem dX12_findFree_18 : decode cX12_findFree 18 = .ok (.getfield 44, 3) := by decide +kernel
theorem dX12_findFree_21 : decode cX12_findFree 21 = .ok (.iconst 0, 1) := by decide +kernel
theorem dX12_findFree_22 : decode cX12_findFree 22 = .ok (.iaload, 1) := by decide +kernel
theorem dX12_findFree_23 : decode cX12_findFree 23 = .ok (.if_icmp .ge 76, 3) := by decide +kernel
theorem dX12_findFree_26 : decode cX12_findFree 26 = .ok (.aload_n 0, 1) := by decide +kernel
theorem dX12_findFree_27 : decode cX12_findFree 27 = .ok (.getfield 50, 3) := by decide +kernel
theorem dX12_findFree_30 : decode cX12_findFree 30 = .ok (.iload_n 1, 1) := by decide +kernel
theorem dX12_findFree_31 : decode cX12_findFree 31 = .ok (.iaload, 1) := by decide +kernel
theorem dX12_findFree_32 : decode cX12_findFree 32 = .ok (.istore_n 2, 1) := by decide +kernel
theorem dX12_findFree_33 : decode cX12_findFree 33 = .ok (.aload_n 0, 1) := by decide +kernel
theorem dX12_findFree_34 : decode cX12_findFree 34 = .ok (.getfield 162, 3) := by decide +kernel
theorem dX12_findFree_37 : decode cX12_findFree 37 = .ok (.iload_n 2, 1) := by decide +kernel
theorem dX12_findFree_38 : decode cX12_findFree 38 = .ok (.iaload, 1) := by decide +kernel
theorem dX12_findFree_39 : decode cX12_findFree 39 = .ok (.bipush 8, 2) := by decide +kernel
theorem dX12_findFree_41 : decode cX12_findFree 41 = .ok (.if_icmp .ge 52, 3) := by decide +kernel
theorem dX12_findFree_44 : decode cX12_findFree 44 = .ok (.aload_n 0, 1) := by decide +kernel
theorem dX12_findFree_45 : decode cX12_findFree 45 = .ok (.iload_n 1, 1) := by decide +kernel
theorem dX12_findFree_46 : decode cX12_findFree 46 = .ok (.invokevirtual 278, 3) := by decide +kernel
theorem dX12_findFree_49 : decode cX12_findFree 49 = .ok (.ifCond .eq 44, 3) := by decide +kernel
theorem dX12_findFree_52 : decode cX12_findFree 52 = .ok (.iload_n 2, 1) := by decide +kernel
theorem dX12_findFree_53 : decode cX12_findFree 53 = .ok (.ifCond .ne 18, 3) := by decide +kernel
theorem dX12_findFree_56 : decode cX12_findFree 56 = .ok (.aload_n 0, 1) := by decide +kernel
theorem dX12_findFree_57 : decode cX12_findFree 57 = .ok (.getfield 165, 3) := by decide +kernel
theorem dX12_findFree_60 : decode cX12_findFree 60 = .ok (.aload_n 0, 1) := by decide +kernel
theorem dX12_findFree_61 : decode cX12_findFree 61 = .ok (.getfield 162, 3) := by decide +kernel
theorem dX12_findFree_64 : decode cX12_findFree 64 = .ok (.iconst 0, 1) := by decide +kernel
theorem dX12_findFree_65 : decode cX12_findFree 65 = .ok (.iaload, 1) := by decide +kernel
theorem dX12_findFree_66 : decode cX12_findFree 66 = .ok (.iload_n 1, 1) := by decide +kernel
theorem dX12_findFree_67 : decode cX12_findFree 67 = .ok (.iastore, 1) := by decide +kernel
theorem dX12_findFree_68 : decode cX12_findFree 68 = .ok (.goto 15, 3) := by decide +kernel
theorem dX12_findFree_71 : decode cX12_findFree 71 = .ok (.aload_n 0, 1) := by decide +kernel
theorem dX12_findFree_72 : decode cX12_findFree 72 = .ok (.getfield 168, 3) := by decide +kernel
theorem dX12_findFree_75 : decode cX12_findFree 75 = .ok (.aload_n 0, 1) := by decide +kernel
theorem dX12_findFree_76 : decode cX12_findFree 76 = .ok (.getfield 162, 3) := by decide +kernel
theorem dX12_findFree_79 : decode cX12_findFree 79 = .ok (.iconst 1, 1) := by decide +kernel
theorem dX12_findFree_80 : decode cX12_findFree 80 = .ok (.iaload, 1) := by decide +kernel
theorem dX12_findFree_81 : decode cX12_findFree 81 = .ok (.iload_n 1, 1) := by decide +kernel
theorem dX12_findFree_82 : decode cX12_findFree 82 = .ok (.iastore, 1) := by decide +kernel
theorem dX12_findFree_83 : decode cX12_findFree 83 = .ok (.aload_n 0, 1) := by decide +kernel
theorem dX12_findFree_84 : decode cX12_findFree 84 = .ok (.getfield 162, 3) := by decide +kernel
theorem dX12_findFree_87 : decode cX12_findFree 87 = .ok (.iload_n 2, 1) := by decide +kernel
theorem dX12_findFree_88 : decode cX12_findFree 88 = .ok (.dup2, 1) := by decide +kernel
theorem dX12_findFree_89 : decode cX12_findFree 89 = .ok (.iaload, 1) := by decide +kernel
theorem dX12_findFree_90 : decode cX12_findFree 90 = .ok (.iconst 1, 1) := by decide +kernel
theorem dX12_findFree_91 : decode cX12_findFree 91 = .ok (.iadd, 1) := by decide +kernel
theorem dX12_findFree_92 : decode cX12_findFree 92 = .ok (.iastore, 1) := by decide +kernel
theorem dX12_findFree_93 : decode cX12_findFree 93 = .ok (.iinc 1 1, 3) := by decide +kernel
theorem dX12_findFree_96 : decode cX12_findFree 96 = .ok (.goto (-80), 3) := by decide +kernel
theorem dX12_findFree_99 : decode cX12_findFree 99 = .ok (.iconst 0, 1) := by decide +kernel
theorem dX12_findFree_100 : decode cX12_findFree 100 = .ok (.istore_n 1, 1) := by decide +kernel
theorem dX12_findFree_101 : decode cX12_findFree 101 = .ok (.iload_n 1, 1) := by decide +kernel
theorem dX12_findFree_102 : decode cX12_findFree 102 = .ok (.aload_n 0, 1) := by decide +kernel
theorem dX12_findFree_103 : decode cX12_findFree 103 = .ok (.getfield 162, 3) := by decide +kernel
theorem dX12_findFree_106 : decode cX12_findFree 106 = .ok (.iconst 0, 1) := by decide +kernel
theorem dX12_findFree_107 : decode cX12_findFree 107 = .ok (.iaload, 1) := by decide +kernel
theorem dX12_findFree_108 : decode cX12_findFree 108 = .ok (.if_icmp .ge 65, 3) := by decide +kernel
theorem dX12_findFree_111 : decode cX12_findFree 111 = .ok (.iconst 0, 1) := by decide +kernel
theorem dX12_findFree_112 : decode cX12_findFree 112 = .ok (.istore_n 2, 1) := by decide +kernel
theorem dX12_findFree_113 : decode cX12_findFree 113 = .ok (.iload_n 2, 1) := by decide +kernel
theorem dX12_findFree_114 : decode cX12_findFree 114 = .ok (.aload_n 0, 1) := by decide +kernel
theorem dX12_findFree_115 : decode cX12_findFree 115 = .ok (.getfield 162, 3) := by decide +kernel
theorem dX12_findFree_118 : decode cX12_findFree 118 = .ok (.iconst 1, 1) := by decide +kernel
theorem dX12_findFree_119 : decode cX12_findFree 119 = .ok (.iaload, 1) := by decide +kernel
theorem dX12_findFree_120 : decode cX12_findFree 120 = .ok (.if_icmp .ge 47, 3) := by decide +kernel
theorem dX12_findFree_123 : decode cX12_findFree 123 = .ok (.aload_n 0, 1) := by decide +kernel
theorem dX12_findFree_124 : decode cX12_findFree 124 = .ok (.getfield 171, 3) := by decide +kernel
theorem dX12_findFree_127 : decode cX12_findFree 127 = .ok (.bipush 8, 2) := by decide +kernel
theorem dX12_findFree_129 : decode cX12_findFree 129 = .ok (.iload_n 1, 1) := by decide +kernel
theorem dX12_findFree_130 : decode cX12_findFree 130 = .ok (.imul, 1) := by decide +kernel
theorem dX12_findFree_131 : decode cX12_findFree 131 = .ok (.iload_n 2, 1) := by decide +kernel
theorem dX12_findFree_132 : decode cX12_findFree 132 = .ok (.iadd, 1) := by decide +kernel
theorem dX12_findFree_133 : decode cX12_findFree 133 = .ok (.aload_n 0, 1) := by decide +kernel
theorem dX12_findFree_134 : decode cX12_findFree 134 = .ok (.aload_n 0, 1) := by decide +kernel
theorem dX12_findFree_135 : decode cX12_findFree 135 = .ok (.getfield 165, 3) := by decide +kernel
theorem dX12_findFree_138 : decode cX12_findFree 138 = .ok (.iload_n 1, 1) := by decide +kernel
theorem dX12_findFree_139 : decode cX12_findFree 139 = .ok (.iaload, 1) := by decide +kernel
theorem dX12_findFree_140 : decode cX12_findFree 140 = .ok (.aload_n 0, 1) := by decide +kernel
theorem dX12_findFree_141 : decode cX12_findFree 141 = .ok (.getfield 168, 3) := by decide +kernel
theorem dX12_findFree_144 : decode cX12_findFree 144 = .ok (.iload_n 2, 1) := by decide +kernel
theorem dX12_findFree_145 : decode cX12_findFree 145 = .ok (.iaload, 1) := by decide +kernel
theorem dX12_findFree_146 : decode cX12_findFree 146 = .ok (.invokevirtual 426, 3) := by decide +kernel
theorem dX12_findFree_149 : decode cX12_findFree 149 = .ok (.ifCond .eq 10, 3) := by decide +kernel
theorem dX12_findFree_152 : decode cX12_findFree 152 = .ok (.aload_n 0, 1) := by decide +kernel
theorem dX12_findFree_153 : decode cX12_findFree 153 = .ok (.getfield 420, 3) := by decide +kernel
theorem dX12_findFree_156 : decode cX12_findFree 156 = .ok (.goto 4, 3) := by decide +kernel
theorem dX12_findFree_159 : decode cX12_findFree 159 = .ok (.iconst (-1), 1) := by decide +kernel
theorem dX12_findFree_160 : decode cX12_findFree 160 = .ok (.iastore, 1) := by decide +kernel
theorem dX12_findFree_161 : decode cX12_findFree 161 = .ok (.iinc 2 1, 3) := by decide +kernel
theorem dX12_findFree_164 : decode cX12_findFree 164 = .ok (.goto (-51), 3) := by decide +kernel
theorem dX12_findFree_167 : decode cX12_findFree 167 = .ok (.iinc 1 1, 3) := by decide +kernel
theorem dX12_findFree_170 : decode cX12_findFree 170 = .ok (.goto (-69), 3) := by decide +kernel
theorem dX12_findFree_173 : decode cX12_findFree 173 = .ok (.return_, 1) := by decide +kernel
theorem dX12_brings_0 : decode cX12_brings 0 = .ok (.iload_n 2, 1) := by decide +kernel
theorem dX12_brings_1 : decode cX12_brings 1 = .ok (.iload_n 3, 1) := by decide +kernel
theorem dX12_brings_2 : decode cX12_brings 2 = .ok (.ishr, 1) := by decide +kernel
theorem dX12_brings_3 : decode cX12_brings 3 = .ok (.iconst 1, 1) := by decide +kernel
theorem dX12_brings_4 : decode cX12_brings 4 = .ok (.iand, 1) := by decide +kernel
theorem dX12_brings_5 : decode cX12_brings 5 = .ok (.ifCond .ne 18, 3) := by decide +kernel
theorem dX12_brings_8 : decode cX12_brings 8 = .ok (.aload_n 0, 1) := by decide +kernel
theorem dX12_brings_9 : decode cX12_brings 9 = .ok (.getfield 171, 3) := by decide +kernel
theorem dX12_brings_12 : decode cX12_brings 12 = .ok (.bipush 8, 2) := by decide +kernel
theorem dX12_brings_14 : decode cX12_brings 14 = .ok (.iload_n 1, 1) := by decide +kernel
theorem dX12_brings_15 : decode cX12_brings 15 = .ok (.imul, 1) := by decide +kernel
theorem dX12_brings_16 : decode cX12_brings 16 = .ok (.iload_n 3, 1) := by decide +kernel
theorem dX12_brings_17 : decode cX12_brings 17 = .ok (.iadd, 1) := by decide +kernel
theorem dX12_brings_18 : decode cX12_brings 18 = .ok (.iaload, 1) := by decide +kernel
theorem dX12_brings_19 : decode cX12_brings 19 = .ok (.iconst (-1), 1) := by decide +kernel
theorem dX12_brings_20 : decode cX12_brings 20 = .ok (.if_icmp .ne 7, 3) := by decide +kernel
theorem dX12_brings_23 : decode cX12_brings 23 = .ok (.ldc2_w 450, 3) := by decide +kernel
theorem dX12_brings_26 : decode cX12_brings 26 = .ok (.lreturn, 1) := by decide +kernel
theorem dX12_brings_27 : decode cX12_brings 27 = .ok (.aload_n 0, 1) := by decide +kernel
theorem dX12_brings_28 : decode cX12_brings 28 = .ok (.aload_n 0, 1) := by decide +kernel
theorem dX12_brings_29 : decode cX12_brings 29 = .ok (.getfield 47, 3) := by decide +kernel
theorem dX12_brings_32 : decode cX12_brings 32 = .ok (.aload_n 0, 1) := by decide +kernel
theorem dX12_brings_33 : decode cX12_brings 33 = .ok (.getfield 165, 3) := by decide +kernel
theorem dX12_brings_36 : decode cX12_brings 36 = .ok (.iload_n 1, 1) := by decide +kernel
theorem dX12_brings_37 : decode cX12_brings 37 = .ok (.iaload, 1) := by decide +kernel
theorem dX12_brings_38 : decode cX12_brings 38 = .ok (.iaload, 1) := by decide +kernel
theorem dX12_brings_39 : decode cX12_brings 39 = .ok (.aload_n 0, 1) := by decide +kernel
theorem dX12_brings_40 : decode cX12_brings 40 = .ok (.getfield 47, 3) := by decide +kernel
theorem dX12_brings_43 : decode cX12_brings 43 = .ok (.aload_n 0, 1) := by decide +kernel
theorem dX12_brings_44 : decode cX12_brings 44 = .ok (.getfield 168, 3) := by decide +kernel
theorem dX12_brings_47 : decode cX12_brings 47 = .ok (.iload_n 3, 1) := by decide +kernel
theorem dX12_brings_48 : decode cX12_brings 48 = .ok (.iaload, 1) := by decide +kernel
theorem dX12_brings_49 : decode cX12_brings 49 = .ok (.iaload, 1) := by decide +kernel
theorem dX12_brings_50 : decode cX12_brings 50 = .ok (.invokevirtual 233, 3) := by decide +kernel
theorem dX12_brings_53 : decode cX12_brings 53 = .ok (.ifCond .eq 9, 3) := by decide +kernel
theorem dX12_brings_56 : decode cX12_brings 56 = .ok (.ldc2_w 452, 3) := by decide +kernel
theorem dX12_brings_59 : decode cX12_brings 59 = .ok (.goto 4, 3) := by decide +kernel
theorem dX12_brings_62 : decode cX12_brings 62 = .ok (.lconst 0, 1) := by decide +kernel
theorem dX12_brings_63 : decode cX12_brings 63 = .ok (.lstore 4, 2) := by decide +kernel
theorem dX12_brings_65 : decode cX12_brings 65 = .ok (.ldc2_w 454, 3) := by decide +kernel
theorem dX12_brings_68 : decode cX12_brings 68 = .ok (.lload 4, 2) := by decide +kernel
theorem dX12_brings_70 : decode cX12_brings 70 = .ok (.ladd, 1) := by decide +kernel
theorem dX12_brings_71 : decode cX12_brings 71 = .ok (.aload_n 0, 1) := by decide +kernel
theorem dX12_brings_72 : decode cX12_brings 72 = .ok (.getfield 171, 3) := by decide +kernel
theorem dX12_brings_75 : decode cX12_brings 75 = .ok (.bipush 8, 2) := by decide +kernel
theorem dX12_brings_77 : decode cX12_brings 77 = .ok (.iload_n 1, 1) := by decide +kernel
theorem dX12_brings_78 : decode cX12_brings 78 = .ok (.imul, 1) := by decide +kernel
theorem dX12_brings_79 : decode cX12_brings 79 = .ok (.iload_n 3, 1) := by decide +kernel
theorem dX12_brings_80 : decode cX12_brings 80 = .ok (.iadd, 1) := by decide +kernel
theorem dX12_brings_81 : decode cX12_brings 81 = .ok (.iaload, 1) := by decide +kernel
theorem dX12_brings_82 : decode cX12_brings 82 = .ok (.i2l, 1) := by decide +kernel
theorem dX12_brings_83 : decode cX12_brings 83 = .ok (.lsub, 1) := by decide +kernel
theorem dX12_brings_84 : decode cX12_brings 84 = .ok (.aload_n 0, 1) := by decide +kernel
theorem dX12_brings_85 : decode cX12_brings 85 = .ok (.getfield 174, 3) := by decide +kernel
theorem dX12_brings_88 : decode cX12_brings 88 = .ok (.sipush 256, 3) := by decide +kernel
theorem dX12_brings_91 : decode cX12_brings 91 = .ok (.iload_n 1, 1) := by decide +kernel
theorem dX12_brings_92 : decode cX12_brings 92 = .ok (.iconst 1, 1) := by decide +kernel
theorem dX12_brings_93 : decode cX12_brings 93 = .ok (.iadd, 1) := by decide +kernel
theorem dX12_brings_94 : decode cX12_brings 94 = .ok (.imul, 1) := by decide +kernel
theorem dX12_brings_95 : decode cX12_brings 95 = .ok (.iload_n 2, 1) := by decide +kernel
theorem dX12_brings_96 : decode cX12_brings 96 = .ok (.iconst 1, 1) := by decide +kernel
theorem dX12_brings_97 : decode cX12_brings 97 = .ok (.iload_n 3, 1) := by decide +kernel
theorem dX12_brings_98 : decode cX12_brings 98 = .ok (.ishl, 1) := by decide +kernel
theorem dX12_brings_99 : decode cX12_brings 99 = .ok (.ior, 1) := by decide +kernel
theorem dX12_brings_100 : decode cX12_brings 100 = .ok (.iadd, 1) := by decide +kernel
theorem dX12_brings_101 : decode cX12_brings 101 = .ok (.laload, 1) := by decide +kernel
theorem dX12_brings_102 : decode cX12_brings 102 = .ok (.ladd, 1) := by decide +kernel
theorem dX12_brings_103 : decode cX12_brings 103 = .ok (.lreturn, 1) := by decide +kernel
theorem dX12_findBest_0 : decode cX12_findBest 0 = .ok (.aload_n 0, 1) := by decide +kernel
theorem dX12_findBest_1 : decode cX12_findBest 1 = .ok (.invokevirtual 456, 3) := by decide +kernel
theorem dX12_findBest_4 : decode cX12_findBest 4 = .ok (.aload_n 0, 1) := by decide +kernel
theorem dX12_findBest_5 : decode cX12_findBest 5 = .ok (.getfield 162, 3) := by decide +kernel
theorem dX12_findBest_8 : decode cX12_findBest 8 = .ok (.iconst 0, 1) := by decide +kernel
theorem dX12_findBest_9 : decode cX12_findBest 9 = .ok (.iaload, 1) := by decide +kernel
theorem dX12_findBest_10 : decode cX12_findBest 10 = .ok (.istore_n 1, 1) := by decide +kernel
theorem dX12_findBest_11 : decode cX12_findBest 11 = .ok (.iconst 1, 1) := by decide +kernel
theorem dX12_findBest_12 : decode cX12_findBest 12 = .ok (.aload_n 0, 1) := by decide +kernel
theorem dX12_findBest_13 : decode cX12_findBest 13 = .ok (.getfield 162, 3) := by decide +kernel
theorem dX12_findBest_16 : decode cX12_findBest 16 = .ok (.iconst 1, 1) := by decide +kernel
theorem dX12_findBest_17 : decode cX12_findBest 17 = .ok (.iaload, 1) := by decide +kernel
theorem dX12_findBest_18 : decode cX12_findBest 18 = .ok (.ishl, 1) := by decide +kernel
theorem dX12_findBest_19 : decode cX12_findBest 19 = .ok (.istore_n 2, 1) := by decide +kernel
theorem dX12_findBest_20 : decode cX12_findBest 20 = .ok (.iconst 0, 1) := by decide +kernel
theorem dX12_findBest_21 : decode cX12_findBest 21 = .ok (.istore_n 3, 1) := by decide +kernel
theorem dX12_findBest_22 : decode cX12_findBest 22 = .ok (.iload_n 3, 1) := by decide +kernel
theorem dX12_findBest_23 : decode cX12_findBest 23 = .ok (.iload_n 2, 1) := by decide +kernel
theorem dX12_findBest_24 : decode cX12_findBest 24 = .ok (.if_icmp .ge 22, 3) := by decide +kernel
theorem dX12_findBest_27 : decode cX12_findBest 27 = .ok (.aload_n 0, 1) := by decide +kernel
theorem dX12_findBest_28 : decode cX12_findBest 28 = .ok (.getfield 174, 3) := by decide +kernel
theorem dX12_findBest_31 : decode cX12_findBest 31 = .ok (.sipush 256, 3) := by decide +kernel
theorem dX12_findBest_34 : decode cX12_findBest 34 = .ok (.iload_n 1, 1) := by decide +kernel
theorem dX12_findBest_35 : decode cX12_findBest 35 = .ok (.imul, 1) := by decide +kernel
theorem dX12_findBest_36 : decode cX12_findBest 36 = .ok (.iload_n 3, 1) := by decide +kernel
theorem dX12_findBest_37 : decode cX12_findBest 37 = .ok (.iadd, 1) := by decide +kernel
theorem dX12_findBest_38 : decode cX12_findBest 38 = .ok (.lconst 0, 1) := by decide +kernel
theorem dX12_findBest_39 : decode cX12_findBest 39 = .ok (.lastore, 1) := by decide +kernel
theorem dX12_findBest_40 : decode cX12_findBest 40 = .ok (.iinc 3 1, 3) := by decide +kernel
theorem dX12_findBest_43 : decode cX12_findBest 43 = .ok (.goto (-21), 3) := by decide +kernel
theorem dX12_findBest_46 : decode cX12_findBest 46 = .ok (.iload_n 1, 1) := by decide +kernel
theorem dX12_findBest_47 : decode cX12_findBest 47 = .ok (.iconst 1, 1) := by decide +kernel
theorem dX12_findBest_48 : decode cX12_findBest 48 = .ok (.isub, 1) := by decide +kernel
theorem dX12_findBest_49 : decode cX12_findBest 49 = .ok (.istore_n 3, 1) := by decide +kernel
theorem dX12_findBest_50 : decode cX12_findBest 50 = .ok (.iload_n 3, 1) := by decide +kernel
theorem dX12_findBest_51 : decode cX12_findBest 51 = .ok (.ifCond .lt 104, 3) := by decide +kernel
theorem dX12_findBest_54 : decode cX12_findBest 54 = .ok (.iconst 0, 1) := by decide +kernel
theorem dX12_findBest_55 : decode cX12_findBest 55 = .ok (.istore 4, 2) := by decide +kernel
theorem dX12_findBest_57 : decode cX12_findBest 57 = .ok (.iload 4, 2) := by decide +kernel
theorem dX12_findBest_59 : decode cX12_findBest 59 = .ok (.iload_n 2, 1) := by decide +kernel
theorem dX12_findBest_60 : decode cX12_findBest 60 = .ok (.if_icmp .ge 89, 3) := by decide +kernel
theorem dX12_findBest_63 : decode cX12_findBest 63 = .ok (.aload_n 0, 1) := by decide +kernel
theorem dX12_findBest_64 : decode cX12_findBest 64 = .ok (.getfield 174, 3) := by decide +kernel
theorem dX12_findBest_67 : decode cX12_findBest 67 = .ok (.sipush 256, 3) := by decide +kernel
theorem dX12_findBest_70 : decode cX12_findBest 70 = .ok (.iload_n 3, 1) := by decide +kernel
theorem dX12_findBest_71 : decode cX12_findBest 71 = .ok (.iconst 1, 1) := by decide +kernel
theorem dX12_findBest_72 : decode cX12_findBest 72 = .ok (.iadd, 1) := by decide +kernel
theorem dX12_findBest_73 : decode cX12_findBest 73 = .ok (.imul, 1) := by decide +kernel
theorem dX12_findBest_74 : decode cX12_findBest 74 = .ok (.iload 4, 2) := by decide +kernel
theorem dX12_findBest_76 : decode cX12_findBest 76 = .ok (.iadd, 1) := by decide +kernel
theorem dX12_findBest_77 : decode cX12_findBest 77 = .ok (.laload, 1) := by decide +kernel
theorem dX12_findBest_78 : decode cX12_findBest 78 = .ok (.lstore 5, 2) := by decide +kernel
theorem dX12_findBest_80 : decode cX12_findBest 80 = .ok (.iconst 0, 1) := by decide +kernel
theorem dX12_findBest_81 : decode cX12_findBest 81 = .ok (.istore 7, 2) := by decide +kernel
theorem dX12_findBest_83 : decode cX12_findBest 83 = .ok (.iload 7, 2) := by decide +kernel
theorem dX12_findBest_85 : decode cX12_findBest 85 = .ok (.aload_n 0, 1) := by decide +kernel
theorem dX12_findBest_86 : decode cX12_findBest 86 = .ok (.getfield 162, 3) := by decide +kernel
theorem dX12_findBest_89 : decode cX12_findBest 89 = .ok (.iconst 1, 1) := by decide +kernel
theorem dX12_findBest_90 : decode cX12_findBest 90 = .ok (.iaload, 1) := by decide +kernel
theorem dX12_findBest_91 : decode cX12_findBest 91 = .ok (.if_icmp .ge 37, 3) := by decide +kernel
theorem dX12_findBest_94 : decode cX12_findBest 94 = .ok (.aload_n 0, 1) := by decide +kernel
theorem dX12_findBest_95 : decode cX12_findBest 95 = .ok (.iload_n 3, 1) := by decide +kernel
theorem dX12_findBest_96 : decode cX12_findBest 96 = .ok (.iload 4, 2) := by decide +kernel
theorem dX12_findBest_98 : decode cX12_findBest 98 = .ok (.iload 7, 2) := by decide +kernel
theorem dX12_findBest_100 : decode cX12_findBest 100 = .ok (.invokevirtual 459, 3) := by decide +kernel
theorem dX12_findBest_103 : decode cX12_findBest 103 = .ok (.lstore 8, 2) := by decide +kernel
theorem dX12_findBest_105 : decode cX12_findBest 105 = .ok (.lload 8, 2) := by decide +kernel
theorem dX12_findBest_107 : decode cX12_findBest 107 = .ok (.lload 5, 2) := by decide +kernel
theorem dX12_findBest_109 : decode cX12_findBest 109 = .ok (.lcmp, 1) := by decide +kernel
theorem dX12_findBest_110 : decode cX12_findBest 110 = .ok (.ifCond .le 8, 3) := by decide +kernel
theorem dX12_findBest_113 : decode cX12_findBest 113 = .ok (.lload 8, 2) := by decide +kernel
theorem dX12_findBest_115 : decode cX12_findBest 115 = .ok (.goto 5, 3) := by decide +kernel
theorem dX12_findBest_118 : decode cX12_findBest 118 = .ok (.lload 5, 2) := by decide +kernel
theorem dX12_findBest_120 : decode cX12_findBest 120 = .ok (.lstore 5, 2) := by decide +kernel
theorem dX12_findBest_122 : decode cX12_findBest 122 = .ok (.iinc 7 1, 3) := by decide +kernel
theorem dX12_findBest_125 : decode cX12_findBest 125 = .ok (.goto (-42), 3) := by decide +kernel
theorem dX12_findBest_128 : decode cX12_findBest 128 = .ok (.aload_n 0, 1) := by decide +kernel
theorem dX12_findBest_129 : decode cX12_findBest 129 = .ok (.getfield 174, 3) := by decide +kernel
theorem dX12_findBest_132 : decode cX12_findBest 132 = .ok (.sipush 256, 3) := by decide +kernel
theorem dX12_findBest_135 : decode cX12_findBest 135 = .ok (.iload_n 3, 1) := by decide +kernel
theorem dX12_findBest_136 : decode cX12_findBest 136 = .ok (.imul, 1) := by decide +kernel
theorem dX12_findBest_137 : decode cX12_findBest 137 = .ok (.iload 4, 2) := by decide +kernel
theorem dX12_findBest_139 : decode cX12_findBest 139 = .ok (.iadd, 1) := by decide +kernel
theorem dX12_findBest_140 : decode cX12_findBest 140 = .ok (.lload 5, 2) := by decide +kernel
theorem dX12_findBest_142 : decode cX12_findBest 142 = .ok (.lastore, 1) := by decide +kernel
theorem dX12_findBest_143 : decode cX12_findBest 143 = .ok (.iinc 4 1, 3) := by decide +kernel
theorem dX12_findBest_146 : decode cX12_findBest 146 = .ok (.goto (-89), 3) := by decide +kernel
theorem dX12_findBest_149 : decode cX12_findBest 149 = .ok (.iinc 3 (-1), 3) := by decide +kernel
theorem dX12_findBest_152 : decode cX12_findBest 152 = .ok (.goto (-102), 3) := by decide +kernel
theorem dX12_findBest_155 : decode cX12_findBest 155 = .ok (.iconst 0, 1) := by decide +kernel
theorem dX12_findBest_156 : decode cX12_findBest 156 = .ok (.istore_n 3, 1) := by decide +kernel
theorem dX12_findBest_157 : decode cX12_findBest 157 = .ok (.iconst 0, 1) := by decide +kernel
theorem dX12_findBest_158 : decode cX12_findBest 158 = .ok (.istore 4, 2) := by decide +kernel
theorem dX12_findBest_160 : decode cX12_findBest 160 = .ok (.iload 4, 2) := by decide +kernel
theorem dX12_findBest_162 : decode cX12_findBest 162 = .ok (.iload_n 1, 1) := by decide +kernel
theorem dX12_findBest_163 : decode cX12_findBest 163 = .ok (.if_icmp .ge 101, 3) := by decide +kernel
theorem dX12_findBest_166 : decode cX12_findBest 166 = .ok (.iconst 0, 1) := by decide +kernel
theorem dX12_findBest_167 : decode cX12_findBest 167 = .ok (.istore 5, 2) := by decide +kernel
theorem dX12_findBest_169 : decode cX12_findBest 169 = .ok (.iload 5, 2) := by decide +kernel
theorem dX12_findBest_171 : decode cX12_findBest 171 = .ok (.aload_n 0, 1) := by decide +kernel
theorem dX12_findBest_172 : decode cX12_findBest 172 = .ok (.getfield 162, 3) := by decide +kernel
theorem dX12_findBest_175 : decode cX12_findBest 175 = .ok (.iconst 1, 1) := by decide +kernel
theorem dX12_findBest_176 : decode cX12_findBest 176 = .ok (.iaload, 1) := by decide +kernel
theorem dX12_findBest_177 : decode cX12_findBest 177 = .ok (.if_icmp .ge 35, 3) := by decide +kernel
theorem dX12_findBest_180 : decode cX12_findBest 180 = .ok (.aload_n 0, 1) := by decide +kernel
theorem dX12_findBest_181 : decode cX12_findBest 181 = .ok (.iload 4, 2) := by decide +kernel
theorem dX12_findBest_183 : decode cX12_findBest 183 = .ok (.iload_n 3, 1) := by decide +kernel
theorem dX12_findBest_184 : decode cX12_findBest 184 = .ok (.iload 5, 2) := by decide +kernel
theorem dX12_findBest_186 : decode cX12_findBest 186 = .ok (.invokevirtual 459, 3) := by decide +kernel
theorem dX12_findBest_189 : decode cX12_findBest 189 = .ok (.aload_n 0, 1) := by decide +kernel
theorem dX12_findBest_190 : decode cX12_findBest 190 = .ok (.getfield 174, 3) := by decide +kernel
theorem dX12_findBest_193 : decode cX12_findBest 193 = .ok (.sipush 256, 3) := by decide +kernel
theorem dX12_findBest_196 : decode cX12_findBest 196 = .ok (.iload 4, 2) := by decide +kernel
theorem dX12_findBest_198 : decode cX12_findBest 198 = .ok (.imul, 1) := by decide +kernel
theorem dX12_findBest_199 : decode cX12_findBest 199 = .ok (.iload_n 3, 1) := by decide +kernel
theorem dX12_findBest_200 : decode cX12_findBest 200 = .ok (.iadd, 1) := by decide +kernel
theorem dX12_findBest_201 : decode cX12_findBest 201 = .ok (.laload, 1) := by decide +kernel
theorem dX12_findBest_202 : decode cX12_findBest 202 = .ok (.lcmp, 1) := by decide +kernel
theorem dX12_findBest_203 : decode cX12_findBest 203 = .ok (.ifCond .eq 9, 3) := by decide +kernel
theorem dX12_findBest_206 : decode cX12_findBest 206 = .ok (.iinc 5 1, 3) := by decide +kernel
theorem dX12_findBest_209 : decode cX12_findBest 209 = .ok (.goto (-40), 3) := by decide +kernel
theorem dX12_findBest_212 : decode cX12_findBest 212 = .ok (.aload_n 0, 1) := by decide +kernel
theorem dX12_findBest_213 : decode cX12_findBest 213 = .ok (.getfield 178, 3) := by decide +kernel
theorem dX12_findBest_216 : decode cX12_findBest 216 = .ok (.iload 4, 2) := by decide +kernel
theorem dX12_findBest_218 : decode cX12_findBest 218 = .ok (.iload 5, 2) := by decide +kernel
theorem dX12_findBest_220 : decode cX12_findBest 220 = .ok (.aload_n 0, 1) := by decide +kernel
theorem dX12_findBest_221 : decode cX12_findBest 221 = .ok (.getfield 162, 3) := by decide +kernel
theorem dX12_findBest_224 : decode cX12_findBest 224 = .ok (.iconst 1, 1) := by decide +kernel
theorem dX12_findBest_225 : decode cX12_findBest 225 = .ok (.iaload, 1) := by decide +kernel
theorem dX12_findBest_226 : decode cX12_findBest 226 = .ok (.if_icmp .ge 8, 3) := by decide +kernel
theorem dX12_findBest_229 : decode cX12_findBest 229 = .ok (.iload 5, 2) := by decide +kernel
theorem dX12_findBest_231 : decode cX12_findBest 231 = .ok (.goto 4, 3) := by decide +kernel
theorem dX12_findBest_234 : decode cX12_findBest 234 = .ok (.iconst (-1), 1) := by decide +kernel
theorem dX12_findBest_235 : decode cX12_findBest 235 = .ok (.iastore, 1) := by decide +kernel
theorem dX12_findBest_236 : decode cX12_findBest 236 = .ok (.iload_n 3, 1) := by decide +kernel
theorem dX12_findBest_237 : decode cX12_findBest 237 = .ok (.iload 5, 2) := by decide +kernel
theorem dX12_findBest_239 : decode cX12_findBest 239 = .ok (.aload_n 0, 1) := by decide +kernel
theorem dX12_findBest_240 : decode cX12_findBest 240 = .ok (.getfield 162, 3) := by decide +kernel
theorem dX12_findBest_243 : decode cX12_findBest 243 = .ok (.iconst 1, 1) := by decide +kernel
theorem dX12_findBest_244 : decode cX12_findBest 244 = .ok (.iaload, 1) := by decide +kernel
theorem dX12_findBest_245 : decode cX12_findBest 245 = .ok (.if_icmp .ge 10, 3) := by decide +kernel
theorem dX12_findBest_248 : decode cX12_findBest 248 = .ok (.iconst 1, 1) := by decide +kernel
theorem dX12_findBest_249 : decode cX12_findBest 249 = .ok (.iload 5, 2) := by decide +kernel
theorem dX12_findBest_251 : decode cX12_findBest 251 = .ok (.ishl, 1) := by decide +kernel
theorem dX12_findBest_252 : decode cX12_findBest 252 = .ok (.goto 4, 3) := by decide +kernel
theorem dX12_findBest_255 : decode cX12_findBest 255 = .ok (.iconst 0, 1) := by decide +kernel
theorem dX12_findBest_256 : decode cX12_findBest 256 = .ok (.ior, 1) := by decide +kernel
theorem dX12_findBest_257 : decode cX12_findBest 257 = .ok (.istore_n 3, 1) := by decide +kernel
theorem dX12_findBest_258 : decode cX12_findBest 258 = .ok (.iinc 4 1, 3) := by decide +kernel
theorem dX12_findBest_261 : decode cX12_findBest 261 = .ok (.goto (-101), 3) := by decide +kernel
theorem dX12_findBest_264 : decode cX12_findBest 264 = .ok (.return_, 1) := by decide +kernel
theorem dX12_best_0 : decode cX12_best 0 = .ok (.aload_n 0, 1) := by decide +kernel
theorem dX12_best_1 : decode cX12_best 1 = .ok (.iconst 0, 1) := by decide +kernel
theorem dX12_best_2 : decode cX12_best 2 = .ok (.putfield 202, 3) := by decide +kernel
theorem dX12_best_5 : decode cX12_best 5 = .ok (.iload_n 1, 1) := by decide +kernel
theorem dX12_best_6 : decode cX12_best 6 = .ok (.iconst 0, 1) := by decide +kernel
theorem dX12_best_7 : decode cX12_best 7 = .ok (.iconst 2, 1) := by decide +kernel
theorem dX12_best_8 : decode cX12_best 8 = .ok (.invokestatic 218, 3) := by decide +kernel
theorem dX12_best_11 : decode cX12_best 11 = .ok (.ifCond .ne 5, 3) := by decide +kernel
theorem dX12_best_14 : decode cX12_best 14 = .ok (.iconst (-1), 1) := by decide +kernel
theorem dX12_best_15 : decode cX12_best 15 = .ok (.ireturn, 1) := by decide +kernel
theorem dX12_best_16 : decode cX12_best 16 = .ok (.aload_n 0, 1) := by decide +kernel
theorem dX12_best_17 : decode cX12_best 17 = .ok (.invokevirtual 463, 3) := by decide +kernel
theorem dX12_best_20 : decode cX12_best 20 = .ok (.iconst 0, 1) := by decide +kernel
theorem dX12_best_21 : decode cX12_best 21 = .ok (.istore_n 2, 1) := by decide +kernel
theorem dX12_best_22 : decode cX12_best 22 = .ok (.iconst 0, 1) := by decide +kernel
theorem dX12_best_23 : decode cX12_best 23 = .ok (.istore_n 3, 1) := by decide +kernel
theorem dX12_best_24 : decode cX12_best 24 = .ok (.iconst 0, 1) := by decide +kernel
theorem dX12_best_25 : decode cX12_best 25 = .ok (.istore 4, 2) := by decide +kernel
theorem dX12_best_27 : decode cX12_best 27 = .ok (.iconst 0, 1) := by decide +kernel
theorem dX12_best_28 : decode cX12_best 28 = .ok (.istore 5, 2) := by decide +kernel
theorem dX12_best_30 : decode cX12_best 30 = .ok (.iload 5, 2) := by decide +kernel
theorem dX12_best_32 : decode cX12_best 32 = .ok (.aload_n 0, 1) := by decide +kernel
theorem dX12_best_33 : decode cX12_best 33 = .ok (.getfield 162, 3) := by decide +kernel
theorem dX12_best_36 : decode cX12_best 36 = .ok (.iconst 0, 1) := by decide +kernel
theorem dX12_best_37 : decode cX12_best 37 = .ok (.iaload, 1) := by decide +kernel
theorem dX12_best_38 : decode cX12_best 38 = .ok (.if_icmp .ge 90, 3) := by decide +kernel
theorem dX12_best_41 : decode cX12_best 41 = .ok (.aload_n 0, 1) := by decide +kernel
theorem dX12_best_42 : decode cX12_best 42 = .ok (.getfield 178, 3) := by decide +kernel
theorem dX12_best_45 : decode cX12_best 45 = .ok (.iload 5, 2) := by decide +kernel
theorem dX12_best_47 : decode cX12_best 47 = .ok (.iaload, 1) := by decide +kernel
theorem dX12_best_48 : decode cX12_best 48 = .ok (.iconst (-1), 1) := by decide +kernel
theorem dX12_best_49 : decode cX12_best 49 = .ok (.if_icmp .eq 73, 3) := by decide +kernel
theorem dX12_best_52 : decode cX12_best 52 = .ok (.iinc 2 1, 3) := by decide +kernel
theorem dX12_best_55 : decode cX12_best 55 = .ok (.iload_n 3, 1) := by decide +kernel
theorem dX12_best_56 : decode cX12_best 56 = .ok (.aload_n 0, 1) := by decide +kernel
theorem dX12_best_57 : decode cX12_best 57 = .ok (.aload_n 0, 1) := by decide +kernel
theorem dX12_best_58 : decode cX12_best 58 = .ok (.getfield 47, 3) := by decide +kernel
theorem dX12_best_61 : decode cX12_best 61 = .ok (.aload_n 0, 1) := by decide +kernel
theorem dX12_best_62 : decode cX12_best 62 = .ok (.getfield 165, 3) := by decide +kernel
theorem dX12_best_65 : decode cX12_best 65 = .ok (.iload 5, 2) := by decide +kernel
theorem dX12_best_67 : decode cX12_best 67 = .ok (.iaload, 1) := by decide +kernel
theorem dX12_best_68 : decode cX12_best 68 = .ok (.iaload, 1) := by decide +kernel
theorem dX12_best_69 : decode cX12_best 69 = .ok (.aload_n 0, 1) := by decide +kernel
theorem dX12_best_70 : decode cX12_best 70 = .ok (.getfield 47, 3) := by decide +kernel
theorem dX12_best_73 : decode cX12_best 73 = .ok (.aload_n 0, 1) := by decide +kernel
theorem dX12_best_74 : decode cX12_best 74 = .ok (.getfield 168, 3) := by decide +kernel
theorem dX12_best_77 : decode cX12_best 77 = .ok (.aload_n 0, 1) := by decide +kernel
theorem dX12_best_78 : decode cX12_best 78 = .ok (.getfield 178, 3) := by decide +kernel
theorem dX12_best_81 : decode cX12_best 81 = .ok (.iload 5, 2) := by decide +kernel
theorem dX12_best_83 : decode cX12_best 83 = .ok (.iaload, 1) := by decide +kernel
theorem dX12_best_84 : decode cX12_best 84 = .ok (.iaload, 1) := by decide +kernel
theorem dX12_best_85 : decode cX12_best 85 = .ok (.iaload, 1) := by decide +kernel
theorem dX12_best_86 : decode cX12_best 86 = .ok (.invokevirtual 233, 3) := by decide +kernel
theorem dX12_best_89 : decode cX12_best 89 = .ok (.ifCond .eq 7, 3) := by decide +kernel
theorem dX12_best_92 : decode cX12_best 92 = .ok (.iconst 1, 1) := by decide +kernel
theorem dX12_best_93 : decode cX12_best 93 = .ok (.goto 4, 3) := by decide +kernel
theorem dX12_best_96 : decode cX12_best 96 = .ok (.iconst 0, 1) := by decide +kernel
theorem dX12_best_97 : decode cX12_best 97 = .ok (.iadd, 1) := by decide +kernel
theorem dX12_best_98 : decode cX12_best 98 = .ok (.istore_n 3, 1) := by decide +kernel
theorem dX12_best_99 : decode cX12_best 99 = .ok (.iload 4, 2) := by decide +kernel
theorem dX12_best_101 : decode cX12_best 101 = .ok (.aload_n 0, 1) := by decide +kernel
theorem dX12_best_102 : decode cX12_best 102 = .ok (.getfield 171, 3) := by decide +kernel
theorem dX12_best_105 : decode cX12_best 105 = .ok (.bipush 8, 2) := by decide +kernel
theorem dX12_best_107 : decode cX12_best 107 = .ok (.iload 5, 2) := by decide +kernel
theorem dX12_best_109 : decode cX12_best 109 = .ok (.imul, 1) := by decide +kernel
theorem dX12_best_110 : decode cX12_best 110 = .ok (.aload_n 0, 1) := by decide +kernel
theorem dX12_best_111 : decode cX12_best 111 = .ok (.getfield 178, 3) := by decide +kernel
theorem dX12_best_114 : decode cX12_best 114 = .ok (.iload 5, 2) := by decide +kernel
theorem dX12_best_116 : decode cX12_best 116 = .ok (.iaload, 1) := by decide +kernel
theorem dX12_best_117 : decode cX12_best 117 = .ok (.iadd, 1) := by decide +kernel
theorem dX12_best_118 : decode cX12_best 118 = .ok (.iaload, 1) := by decide +kernel
theorem dX12_best_119 : decode cX12_best 119 = .ok (.iadd, 1) := by decide +kernel
theorem dX12_best_120 : decode cX12_best 120 = .ok (.istore 4, 2) := by decide +kernel
theorem dX12_best_122 : decode cX12_best 122 = .ok (.iinc 5 1, 3) := by decide +kernel
theorem dX12_best_125 : decode cX12_best 125 = .ok (.goto (-95), 3) := by decide +kernel
theorem dX12_best_128 : decode cX12_best 128 = .ok (.iload_n 1, 1) := by decide +kernel
theorem dX12_best_129 : decode cX12_best 129 = .ok (.ifCond .ne 7, 3) := by decide +kernel
theorem dX12_best_132 : decode cX12_best 132 = .ok (.iload_n 2, 1) := by decide +kernel
theorem dX12_best_133 : decode cX12_best 133 = .ok (.goto 14, 3) := by decide +kernel
theorem dX12_best_136 : decode cX12_best 136 = .ok (.iload_n 1, 1) := by decide +kernel
theorem dX12_best_137 : decode cX12_best 137 = .ok (.iconst 1, 1) := by decide +kernel
theorem dX12_best_138 : decode cX12_best 138 = .ok (.if_icmp .ne 7, 3) := by decide +kernel
theorem dX12_best_141 : decode cX12_best 141 = .ok (.iload_n 3, 1) := by decide +kernel
theorem dX12_best_142 : decode cX12_best 142 = .ok (.goto 5, 3) := by decide +kernel
theorem dX12_best_145 : decode cX12_best 145 = .ok (.iload 4, 2) := by decide +kernel
theorem dX12_best_147 : decode cX12_best 147 = .ok (.ireturn, 1) := by decide +kernel
theorem dX12_withWhom_0 : decode cX12_withWhom 0 = .ok (.iconst 0, 1) := by decide +kernel
theorem dX12_withWhom_1 : decode cX12_withWhom 1 = .ok (.istore_n 2, 1) := by decide +kernel
theorem dX12_withWhom_2 : decode cX12_withWhom 2 = .ok (.iload_n 2, 1) := by decide +kernel
theorem dX12_withWhom_3 : decode cX12_withWhom 3 = .ok (.aload_n 0, 1) := by decide +kernel
theorem dX12_withWhom_4 : decode cX12_withWhom 4 = .ok (.getfield 162, 3) := by decide +kernel
theorem dX12_withWhom_7 : decode cX12_withWhom 7 = .ok (.iconst 0, 1) := by decide +kernel
theorem dX12_withWhom_8 : decode cX12_withWhom 8 = .ok (.iaload, 1) := by decide +kernel
theorem dX12_withWhom_9 : decode cX12_withWhom 9 = .ok (.if_icmp .ge 73, 3) := by decide +kernel
theorem dX12_withWhom_12 : decode cX12_withWhom 12 = .ok (.aload_n 0, 1) := by decide +kernel
theorem dX12_withWhom_13 : decode cX12_withWhom 13 = .ok (.getfield 178, 3) := by decide +kernel
theorem dX12_withWhom_16 : decode cX12_withWhom 16 = .ok (.iload_n 2, 1) := by decide +kernel
theorem dX12_withWhom_17 : decode cX12_withWhom 17 = .ok (.iaload, 1) := by decide +kernel
theorem dX12_withWhom_18 : decode cX12_withWhom 18 = .ok (.iconst (-1), 1) := by decide +kernel
