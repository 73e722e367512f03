theorem dX12_chain_199 : decode cX12_chain 199 = .ok (.iinc 10 1, 3) := by decide +kernel
theorem dX12_chain_202 : decode cX12_chain 202 = .ok (.goto (-111), 3) := by decide +kernel
theorem dX12_chain_205 : decode cX12_chain 205 = .ok (.aload_n 0, 1) := by decide +kernel
theorem dX12_chain_206 : decode cX12_chain 206 = .ok (.iload_n 2, 1) := by decide +kernel
theorem dX12_chain_207 : decode cX12_chain 207 = .ok (.aload_n 0, 1) := by decide +kernel
theorem dX12_chain_208 : decode cX12_chain 208 = .ok (.getfield 138, 3) := by decide +kernel
theorem dX12_chain_211 : decode cX12_chain 211 = .ok (.invokevirtual 255, 3) := by decide +kernel
theorem dX12_chain_214 : decode cX12_chain 214 = .ok (.iload 10, 2) := by decide +kernel
theorem dX12_chain_216 : decode cX12_chain 216 = .ok (.iload 5, 2) := by decide +kernel
theorem dX12_chain_218 : decode cX12_chain 218 = .ok (.if_icmp .ge 69, 3) := by decide +kernel
theorem dX12_chain_221 : decode cX12_chain 221 = .ok (.iconst 0, 1) := by decide +kernel
theorem dX12_chain_222 : decode cX12_chain 222 = .ok (.istore 11, 2) := by decide +kernel
theorem dX12_chain_224 : decode cX12_chain 224 = .ok (.aload_n 0, 1) := by decide +kernel
theorem dX12_chain_225 : decode cX12_chain 225 = .ok (.getfield 138, 3) := by decide +kernel
theorem dX12_chain_228 : decode cX12_chain 228 = .ok (.iload 11, 2) := by decide +kernel
theorem dX12_chain_230 : decode cX12_chain 230 = .ok (.iaload, 1) := by decide +kernel
theorem dX12_chain_231 : decode cX12_chain 231 = .ok (.iload 6, 2) := by decide +kernel
theorem dX12_chain_233 : decode cX12_chain 233 = .ok (.iload 10, 2) := by decide +kernel
theorem dX12_chain_235 : decode cX12_chain 235 = .ok (.isub, 1) := by decide +kernel
theorem dX12_chain_236 : decode cX12_chain 236 = .ok (.iconst 1, 1) := by decide +kernel
theorem dX12_chain_237 : decode cX12_chain 237 = .ok (.isub, 1) := by decide +kernel
theorem dX12_chain_238 : decode cX12_chain 238 = .ok (.if_icmp .ne 33, 3) := by decide +kernel
theorem dX12_chain_241 : decode cX12_chain 241 = .ok (.aload_n 0, 1) := by decide +kernel
theorem dX12_chain_242 : decode cX12_chain 242 = .ok (.getfield 132, 3) := by decide +kernel
theorem dX12_chain_245 : decode cX12_chain 245 = .ok (.iconst 2, 1) := by decide +kernel
theorem dX12_chain_246 : decode cX12_chain 246 = .ok (.iload 11, 2) := by decide +kernel
theorem dX12_chain_248 : decode cX12_chain 248 = .ok (.imul, 1) := by decide +kernel
theorem dX12_chain_249 : decode cX12_chain 249 = .ok (.iaload, 1) := by decide +kernel
theorem dX12_chain_250 : decode cX12_chain 250 = .ok (.iload 9, 2) := by decide +kernel
theorem dX12_chain_252 : decode cX12_chain 252 = .ok (.if_icmp .eq 25, 3) := by decide +kernel
theorem dX12_chain_255 : decode cX12_chain 255 = .ok (.aload_n 0, 1) := by decide +kernel
theorem dX12_chain_256 : decode cX12_chain 256 = .ok (.getfield 132, 3) := by decide +kernel
theorem dX12_chain_259 : decode cX12_chain 259 = .ok (.iconst 2, 1) := by decide +kernel
theorem dX12_chain_260 : decode cX12_chain 260 = .ok (.iload 11, 2) := by decide +kernel
theorem dX12_chain_262 : decode cX12_chain 262 = .ok (.imul, 1) := by decide +kernel
theorem dX12_chain_263 : decode cX12_chain 263 = .ok (.iconst 1, 1) := by decide +kernel
theorem dX12_chain_264 : decode cX12_chain 264 = .ok (.iadd, 1) := by decide +kernel
theorem dX12_chain_265 : decode cX12_chain 265 = .ok (.iaload, 1) := by decide +kernel
theorem dX12_chain_266 : decode cX12_chain 266 = .ok (.iload 9, 2) := by decide +kernel
theorem dX12_chain_268 : decode cX12_chain 268 = .ok (.if_icmp .eq 9, 3) := by decide +kernel
theorem dX12_chain_271 : decode cX12_chain 271 = .ok (.iinc 11 1, 3) := by decide +kernel
theorem dX12_chain_274 : decode cX12_chain 274 = .ok (.goto (-50), 3) := by decide +kernel
theorem dX12_chain_277 : decode cX12_chain 277 = .ok (.iload 11, 2) := by decide +kernel
theorem dX12_chain_279 : decode cX12_chain 279 = .ok (.istore 9, 2) := by decide +kernel
theorem dX12_chain_281 : decode cX12_chain 281 = .ok (.iinc 10 1, 3) := by decide +kernel
theorem dX12_chain_284 : decode cX12_chain 284 = .ok (.goto (-70), 3) := by decide +kernel
theorem dX12_chain_287 : decode cX12_chain 287 = .ok (.iload 9, 2) := by decide +kernel
theorem dX12_chain_289 : decode cX12_chain 289 = .ok (.ireturn, 1) := by decide +kernel
theorem dX12_nearer_0 : decode cX12_nearer 0 = .ok (.iload_n 1, 1) := by decide +kernel
theorem dX12_nearer_1 : decode cX12_nearer 1 = .ok (.iconst (-1), 1) := by decide +kernel
theorem dX12_nearer_2 : decode cX12_nearer 2 = .ok (.if_icmp .ne 5, 3) := by decide +kernel
theorem dX12_nearer_5 : decode cX12_nearer 5 = .ok (.iconst 0, 1) := by decide +kernel
theorem dX12_nearer_6 : decode cX12_nearer 6 = .ok (.ireturn, 1) := by decide +kernel
theorem dX12_nearer_7 : decode cX12_nearer 7 = .ok (.aload_n 0, 1) := by decide +kernel
theorem dX12_nearer_8 : decode cX12_nearer 8 = .ok (.iload_n 1, 1) := by decide +kernel
theorem dX12_nearer_9 : decode cX12_nearer 9 = .ok (.aload_n 0, 1) := by decide +kernel
theorem dX12_nearer_10 : decode cX12_nearer 10 = .ok (.getfield 138, 3) := by decide +kernel
theorem dX12_nearer_13 : decode cX12_nearer 13 = .ok (.invokevirtual 255, 3) := by decide +kernel
theorem dX12_nearer_16 : decode cX12_nearer 16 = .ok (.aload_n 0, 1) := by decide +kernel
theorem dX12_nearer_17 : decode cX12_nearer 17 = .ok (.getfield 138, 3) := by decide +kernel
theorem dX12_nearer_20 : decode cX12_nearer 20 = .ok (.iload_n 2, 1) := by decide +kernel
theorem dX12_nearer_21 : decode cX12_nearer 21 = .ok (.iaload, 1) := by decide +kernel
theorem dX12_nearer_22 : decode cX12_nearer 22 = .ok (.iload_n 3, 1) := by decide +kernel
theorem dX12_nearer_23 : decode cX12_nearer 23 = .ok (.if_icmp .ne 7, 3) := by decide +kernel
theorem dX12_nearer_26 : decode cX12_nearer 26 = .ok (.iconst 1, 1) := by decide +kernel
theorem dX12_nearer_27 : decode cX12_nearer 27 = .ok (.goto 4, 3) := by decide +kernel
theorem dX12_nearer_30 : decode cX12_nearer 30 = .ok (.iconst 0, 1) := by decide +kernel
theorem dX12_nearer_31 : decode cX12_nearer 31 = .ok (.ireturn, 1) := by decide +kernel
theorem dX12_comes_0 : decode cX12_comes 0 = .ok (.aload_n 0, 1) := by decide +kernel
theorem dX12_comes_1 : decode cX12_comes 1 = .ok (.getfield 87, 3) := by decide +kernel
theorem dX12_comes_4 : decode cX12_comes 4 = .ok (.iload_n 1, 1) := by decide +kernel
theorem dX12_comes_5 : decode cX12_comes 5 = .ok (.iload_n 2, 1) := by decide +kernel
theorem dX12_comes_6 : decode cX12_comes 6 = .ok (.iastore, 1) := by decide +kernel
theorem dX12_comes_7 : decode cX12_comes 7 = .ok (.aload_n 0, 1) := by decide +kernel
theorem dX12_comes_8 : decode cX12_comes 8 = .ok (.getfield 102, 3) := by decide +kernel
theorem dX12_comes_11 : decode cX12_comes 11 = .ok (.iload_n 1, 1) := by decide +kernel
theorem dX12_comes_12 : decode cX12_comes 12 = .ok (.aload_n 0, 1) := by decide +kernel
theorem dX12_comes_13 : decode cX12_comes 13 = .ok (.getfield 23, 3) := by decide +kernel
theorem dX12_comes_16 : decode cX12_comes 16 = .ok (.iconst 0, 1) := by decide +kernel
theorem dX12_comes_17 : decode cX12_comes 17 = .ok (.iaload, 1) := by decide +kernel
theorem dX12_comes_18 : decode cX12_comes 18 = .ok (.iastore, 1) := by decide +kernel
theorem dX12_comes_19 : decode cX12_comes 19 = .ok (.return_, 1) := by decide +kernel
theorem dX12_isOpen_0 : decode cX12_isOpen 0 = .ok (.aload_n 0, 1) := by decide +kernel
theorem dX12_isOpen_1 : decode cX12_isOpen 1 = .ok (.getfield 87, 3) := by decide +kernel
theorem dX12_isOpen_4 : decode cX12_isOpen 4 = .ok (.iload_n 1, 1) := by decide +kernel
theorem dX12_isOpen_5 : decode cX12_isOpen 5 = .ok (.iaload, 1) := by decide +kernel
theorem dX12_isOpen_6 : decode cX12_isOpen 6 = .ok (.ifCond .eq 13, 3) := by decide +kernel
theorem dX12_isOpen_9 : decode cX12_isOpen 9 = .ok (.aload_n 0, 1) := by decide +kernel
theorem dX12_isOpen_10 : decode cX12_isOpen 10 = .ok (.getfield 87, 3) := by decide +kernel
theorem dX12_isOpen_13 : decode cX12_isOpen 13 = .ok (.iload_n 1, 1) := by decide +kernel
theorem dX12_isOpen_14 : decode cX12_isOpen 14 = .ok (.iaload, 1) := by decide +kernel
theorem dX12_isOpen_15 : decode cX12_isOpen 15 = .ok (.iconst 1, 1) := by decide +kernel
theorem dX12_isOpen_16 : decode cX12_isOpen 16 = .ok (.if_icmp .ne 7, 3) := by decide +kernel
theorem dX12_isOpen_19 : decode cX12_isOpen 19 = .ok (.iconst 1, 1) := by decide +kernel
theorem dX12_isOpen_20 : decode cX12_isOpen 20 = .ok (.goto 4, 3) := by decide +kernel
theorem dX12_isOpen_23 : decode cX12_isOpen 23 = .ok (.iconst 0, 1) := by decide +kernel
theorem dX12_isOpen_24 : decode cX12_isOpen 24 = .ok (.ireturn, 1) := by decide +kernel
theorem dX12_openOf_0 : decode cX12_openOf 0 = .ok (.iconst 0, 1) := by decide +kernel
theorem dX12_openOf_1 : decode cX12_openOf 1 = .ok (.istore_n 2, 1) := by decide +kernel
theorem dX12_openOf_2 : decode cX12_openOf 2 = .ok (.iload_n 2, 1) := by decide +kernel
theorem dX12_openOf_3 : decode cX12_openOf 3 = .ok (.aload_n 0, 1) := by decide +kernel
theorem dX12_openOf_4 : decode cX12_openOf 4 = .ok (.getfield 78, 3) := by decide +kernel
theorem dX12_openOf_7 : decode cX12_openOf 7 = .ok (.iconst 0, 1) := by decide +kernel
theorem dX12_openOf_8 : decode cX12_openOf 8 = .ok (.iaload, 1) := by decide +kernel
theorem dX12_openOf_9 : decode cX12_openOf 9 = .ok (.if_icmp .ge 39, 3) := by decide +kernel
theorem dX12_openOf_12 : decode cX12_openOf 12 = .ok (.aload_n 0, 1) := by decide +kernel
theorem dX12_openOf_13 : decode cX12_openOf 13 = .ok (.iload_n 2, 1) := by decide +kernel
theorem dX12_openOf_14 : decode cX12_openOf 14 = .ok (.invokevirtual 272, 3) := by decide +kernel
theorem dX12_openOf_17 : decode cX12_openOf 17 = .ok (.ifCond .eq 25, 3) := by decide +kernel
theorem dX12_openOf_20 : decode cX12_openOf 20 = .ok (.aload_n 0, 1) := by decide +kernel
theorem dX12_openOf_21 : decode cX12_openOf 21 = .ok (.getfield 81, 3) := by decide +kernel
theorem dX12_openOf_24 : decode cX12_openOf 24 = .ok (.iload_n 2, 1) := by decide +kernel
theorem dX12_openOf_25 : decode cX12_openOf 25 = .ok (.iaload, 1) := by decide +kernel
theorem dX12_openOf_26 : decode cX12_openOf 26 = .ok (.iload_n 1, 1) := by decide +kernel
theorem dX12_openOf_27 : decode cX12_openOf 27 = .ok (.if_icmp .eq 13, 3) := by decide +kernel
theorem dX12_openOf_30 : decode cX12_openOf 30 = .ok (.aload_n 0, 1) := by decide +kernel
theorem dX12_openOf_31 : decode cX12_openOf 31 = .ok (.getfield 84, 3) := by decide +kernel
theorem dX12_openOf_34 : decode cX12_openOf 34 = .ok (.iload_n 2, 1) := by decide +kernel
theorem dX12_openOf_35 : decode cX12_openOf 35 = .ok (.iaload, 1) := by decide +kernel
theorem dX12_openOf_36 : decode cX12_openOf 36 = .ok (.iload_n 1, 1) := by decide +kernel
theorem dX12_openOf_37 : decode cX12_openOf 37 = .ok (.if_icmp .ne 5, 3) := by decide +kernel
theorem dX12_openOf_40 : decode cX12_openOf 40 = .ok (.iload_n 2, 1) := by decide +kernel
theorem dX12_openOf_41 : decode cX12_openOf 41 = .ok (.ireturn, 1) := by decide +kernel
theorem dX12_openOf_42 : decode cX12_openOf 42 = .ok (.iinc 2 1, 3) := by decide +kernel
theorem dX12_openOf_45 : decode cX12_openOf 45 = .ok (.goto (-43), 3) := by decide +kernel
theorem dX12_openOf_48 : decode cX12_openOf 48 = .ok (.iconst (-1), 1) := by decide +kernel
theorem dX12_openOf_49 : decode cX12_openOf 49 = .ok (.ireturn, 1) := by decide +kernel
theorem dX12_isFree_0 : decode cX12_isFree 0 = .ok (.aload_n 0, 1) := by decide +kernel
theorem dX12_isFree_1 : decode cX12_isFree 1 = .ok (.getfield 59, 3) := by decide +kernel
theorem dX12_isFree_4 : decode cX12_isFree 4 = .ok (.iload_n 1, 1) := by decide +kernel
theorem dX12_isFree_5 : decode cX12_isFree 5 = .ok (.baload, 1) := by decide +kernel
theorem dX12_isFree_6 : decode cX12_isFree 6 = .ok (.ifCond .ne 26, 3) := by decide +kernel
theorem dX12_isFree_9 : decode cX12_isFree 9 = .ok (.aload_n 0, 1) := by decide +kernel
theorem dX12_isFree_10 : decode cX12_isFree 10 = .ok (.getfield 63, 3) := by decide +kernel
theorem dX12_isFree_13 : decode cX12_isFree 13 = .ok (.iload_n 1, 1) := by decide +kernel
theorem dX12_isFree_14 : decode cX12_isFree 14 = .ok (.iaload, 1) := by decide +kernel
theorem dX12_isFree_15 : decode cX12_isFree 15 = .ok (.iconst (-1), 1) := by decide +kernel
theorem dX12_isFree_16 : decode cX12_isFree 16 = .ok (.if_icmp .ne 16, 3) := by decide +kernel
theorem dX12_isFree_19 : decode cX12_isFree 19 = .ok (.aload_n 0, 1) := by decide +kernel
theorem dX12_isFree_20 : decode cX12_isFree 20 = .ok (.iload_n 1, 1) := by decide +kernel
theorem dX12_isFree_21 : decode cX12_isFree 21 = .ok (.invokevirtual 245, 3) := by decide +kernel
theorem dX12_isFree_24 : decode cX12_isFree 24 = .ok (.iconst (-1), 1) := by decide +kernel
theorem dX12_isFree_25 : decode cX12_isFree 25 = .ok (.if_icmp .ne 7, 3) := by decide +kernel
theorem dX12_isFree_28 : decode cX12_isFree 28 = .ok (.iconst 1, 1) := by decide +kernel
theorem dX12_isFree_29 : decode cX12_isFree 29 = .ok (.goto 4, 3) := by decide +kernel
theorem dX12_isFree_32 : decode cX12_isFree 32 = .ok (.iconst 0, 1) := by decide +kernel
theorem dX12_isFree_33 : decode cX12_isFree 33 = .ok (.ireturn, 1) := by decide +kernel
theorem dX12_tell_0 : decode cX12_tell 0 = .ok (.aload_n 0, 1) := by decide +kernel
theorem dX12_tell_1 : decode cX12_tell 1 = .ok (.iconst 0, 1) := by decide +kernel
theorem dX12_tell_2 : decode cX12_tell 2 = .ok (.putfield 202, 3) := by decide +kernel
theorem dX12_tell_5 : decode cX12_tell 5 = .ok (.aload_n 0, 1) := by decide +kernel
theorem dX12_tell_6 : decode cX12_tell 6 = .ok (.iload_n 1, 1) := by decide +kernel
theorem dX12_tell_7 : decode cX12_tell 7 = .ok (.invokevirtual 222, 3) := by decide +kernel
theorem dX12_tell_10 : decode cX12_tell 10 = .ok (.ifCond .ne 6, 3) := by decide +kernel
theorem dX12_tell_13 : decode cX12_tell 13 = .ok (.bipush (-100), 2) := by decide +kernel
theorem dX12_tell_15 : decode cX12_tell 15 = .ok (.ireturn, 1) := by decide +kernel
theorem dX12_tell_16 : decode cX12_tell 16 = .ok (.iload_n 2, 1) := by decide +kernel
theorem dX12_tell_17 : decode cX12_tell 17 = .ok (.tableswitch 146 0 9 #[55, 62, 69, 76, 83, 89, 104, 111, 126, 132], 55) := by decide +kernel
theorem dX12_tell_72 : decode cX12_tell 72 = .ok (.aload_n 0, 1) := by decide +kernel
theorem dX12_tell_73 : decode cX12_tell 73 = .ok (.getfield 47, 3) := by decide +kernel
theorem dX12_tell_76 : decode cX12_tell 76 = .ok (.iload_n 1, 1) := by decide +kernel
theorem dX12_tell_77 : decode cX12_tell 77 = .ok (.iaload, 1) := by decide +kernel
theorem dX12_tell_78 : decode cX12_tell 78 = .ok (.ireturn, 1) := by decide +kernel
theorem dX12_tell_79 : decode cX12_tell 79 = .ok (.aload_n 0, 1) := by decide +kernel
theorem dX12_tell_80 : decode cX12_tell 80 = .ok (.getfield 50, 3) := by decide +kernel
theorem dX12_tell_83 : decode cX12_tell 83 = .ok (.iload_n 1, 1) := by decide +kernel
theorem dX12_tell_84 : decode cX12_tell 84 = .ok (.iaload, 1) := by decide +kernel
theorem dX12_tell_85 : decode cX12_tell 85 = .ok (.ireturn, 1) := by decide +kernel
theorem dX12_tell_86 : decode cX12_tell 86 = .ok (.aload_n 0, 1) := by decide +kernel
theorem dX12_tell_87 : decode cX12_tell 87 = .ok (.getfield 53, 3) := by decide +kernel
theorem dX12_tell_90 : decode cX12_tell 90 = .ok (.iload_n 1, 1) := by decide +kernel
theorem dX12_tell_91 : decode cX12_tell 91 = .ok (.iaload, 1) := by decide +kernel
theorem dX12_tell_92 : decode cX12_tell 92 = .ok (.ireturn, 1) := by decide +kernel
theorem dX12_tell_93 : decode cX12_tell 93 = .ok (.aload_n 0, 1) := by decide +kernel
theorem dX12_tell_94 : decode cX12_tell 94 = .ok (.getfield 56, 3) := by decide +kernel
theorem dX12_tell_97 : decode cX12_tell 97 = .ok (.iload_n 1, 1) := by decide +kernel
theorem dX12_tell_98 : decode cX12_tell 98 = .ok (.iaload, 1) := by decide +kernel
theorem dX12_tell_99 : decode cX12_tell 99 = .ok (.ireturn, 1) := by decide +kernel
theorem dX12_tell_100 : decode cX12_tell 100 = .ok (.aload_n 0, 1) := by decide +kernel
theorem dX12_tell_101 : decode cX12_tell 101 = .ok (.iload_n 1, 1) := by decide +kernel
theorem dX12_tell_102 : decode cX12_tell 102 = .ok (.invokevirtual 275, 3) := by decide +kernel
theorem dX12_tell_105 : decode cX12_tell 105 = .ok (.ireturn, 1) := by decide +kernel
theorem dX12_tell_106 : decode cX12_tell 106 = .ok (.aload_n 0, 1) := by decide +kernel
theorem dX12_tell_107 : decode cX12_tell 107 = .ok (.getfield 59, 3) := by decide +kernel
theorem dX12_tell_110 : decode cX12_tell 110 = .ok (.iload_n 1, 1) := by decide +kernel
theorem dX12_tell_111 : decode cX12_tell 111 = .ok (.baload, 1) := by decide +kernel
theorem dX12_tell_112 : decode cX12_tell 112 = .ok (.ifCond .eq 7, 3) := by decide +kernel
theorem dX12_tell_115 : decode cX12_tell 115 = .ok (.iconst 0, 1) := by decide +kernel
theorem dX12_tell_116 : decode cX12_tell 116 = .ok (.goto 4, 3) := by decide +kernel
theorem dX12_tell_119 : decode cX12_tell 119 = .ok (.iconst 1, 1) := by decide +kernel
theorem dX12_tell_120 : decode cX12_tell 120 = .ok (.ireturn, 1) := by decide +kernel
theorem dX12_tell_121 : decode cX12_tell 121 = .ok (.aload_n 0, 1) := by decide +kernel
theorem dX12_tell_122 : decode cX12_tell 122 = .ok (.getfield 63, 3) := by decide +kernel
theorem dX12_tell_125 : decode cX12_tell 125 = .ok (.iload_n 1, 1) := by decide +kernel
theorem dX12_tell_126 : decode cX12_tell 126 = .ok (.iaload, 1) := by decide +kernel
theorem dX12_tell_127 : decode cX12_tell 127 = .ok (.ireturn, 1) := by decide +kernel
theorem dX12_tell_128 : decode cX12_tell 128 = .ok (.aload_n 0, 1) := by decide +kernel
theorem dX12_tell_129 : decode cX12_tell 129 = .ok (.getfield 66, 3) := by decide +kernel
theorem dX12_tell_132 : decode cX12_tell 132 = .ok (.iload_n 1, 1) := by decide +kernel
theorem dX12_tell_133 : decode cX12_tell 133 = .ok (.baload, 1) := by decide +kernel
theorem dX12_tell_134 : decode cX12_tell 134 = .ok (.ifCond .eq 7, 3) := by decide +kernel
theorem dX12_tell_137 : decode cX12_tell 137 = .ok (.iconst 1, 1) := by decide +kernel
theorem dX12_tell_138 : decode cX12_tell 138 = .ok (.goto 4, 3) := by decide +kernel
theorem dX12_tell_141 : decode cX12_tell 141 = .ok (.iconst 0, 1) := by decide +kernel
theorem dX12_tell_142 : decode cX12_tell 142 = .ok (.ireturn, 1) := by decide +kernel
theorem dX12_tell_143 : decode cX12_tell 143 = .ok (.aload_n 0, 1) := by decide +kernel
theorem dX12_tell_144 : decode cX12_tell 144 = .ok (.iload_n 1, 1) := by decide +kernel
theorem dX12_tell_145 : decode cX12_tell 145 = .ok (.invokevirtual 245, 3) := by decide +kernel
theorem dX12_tell_148 : decode cX12_tell 148 = .ok (.ireturn, 1) := by decide +kernel
theorem dX12_tell_149 : decode cX12_tell 149 = .ok (.aload_n 0, 1) := by decide +kernel
theorem dX12_tell_150 : decode cX12_tell 150 = .ok (.iload_n 1, 1) := by decide +kernel
theorem dX12_tell_151 : decode cX12_tell 151 = .ok (.invokevirtual 278, 3) := by decide +kernel
theorem dX12_tell_154 : decode cX12_tell 154 = .ok (.ifCond .eq 7, 3) := by decide +kernel
theorem dX12_tell_157 : decode cX12_tell 157 = .ok (.iconst 1, 1) := by decide +kernel
theorem dX12_tell_158 : decode cX12_tell 158 = .ok (.goto 4, 3) := by decide +kernel
theorem dX12_tell_161 : decode cX12_tell 161 = .ok (.iconst 0, 1) := by decide +kernel
theorem dX12_tell_162 : decode cX12_tell 162 = .ok (.ireturn, 1) := by decide +kernel
theorem dX12_tell_163 : decode cX12_tell 163 = .ok (.bipush (-100), 2) := by decide +kernel
theorem dX12_tell_165 : decode cX12_tell 165 = .ok (.ireturn, 1) := by decide +kernel
theorem dX12_about_0 : decode cX12_about 0 = .ok (.aload_n 0, 1) := by decide +kernel
theorem dX12_about_1 : decode cX12_about 1 = .ok (.iconst 0, 1) := by decide +kernel
theorem dX12_about_2 : decode cX12_about 2 = .ok (.putfield 202, 3) := by decide +kernel
theorem dX12_about_5 : decode cX12_about 5 = .ok (.aload_n 0, 1) := by decide +kernel
theorem dX12_about_6 : decode cX12_about 6 = .ok (.iload_n 1, 1) := by decide +kernel
theorem dX12_about_7 : decode cX12_about 7 = .ok (.invokevirtual 230, 3) := by decide +kernel
theorem dX12_about_10 : decode cX12_about 10 = .ok (.ifCond .ne 5, 3) := by decide +kernel
theorem dX12_about_13 : decode cX12_about 13 = .ok (.iconst (-1), 1) := by decide +kernel
theorem dX12_about_14 : decode cX12_about 14 = .ok (.ireturn, 1) := by decide +kernel
theorem dX12_about_15 : decode cX12_about 15 = .ok (.iconst 0, 1) := by decide +kernel
theorem dX12_about_16 : decode cX12_about 16 = .ok (.istore_n 3, 1) := by decide +kernel
theorem dX12_about_17 : decode cX12_about 17 = .ok (.iload_n 2, 1) := by decide +kernel
theorem dX12_about_18 : decode cX12_about 18 = .ok (.tableswitch 113 0 4 #[34, 41, 48, 55, 62], 34) := by decide +kernel
theorem dX12_about_52 : decode cX12_about 52 = .ok (.aload_n 0, 1) := by decide +kernel
theorem dX12_about_53 : decode cX12_about 53 = .ok (.getfield 32, 3) := by decide +kernel
theorem dX12_about_56 : decode cX12_about 56 = .ok (.iload_n 1, 1) := by decide +kernel
theorem dX12_about_57 : decode cX12_about 57 = .ok (.iaload, 1) := by decide +kernel
theorem dX12_about_58 : decode cX12_about 58 = .ok (.ireturn, 1) := by decide +kernel
theorem dX12_about_59 : decode cX12_about 59 = .ok (.aload_n 0, 1) := by decide +kernel
theorem dX12_about_60 : decode cX12_about 60 = .ok (.getfield 35, 3) := by decide +kernel
theorem dX12_about_63 : decode cX12_about 63 = .ok (.iload_n 1, 1) := by decide +kernel
theorem dX12_about_64 : decode cX12_about 64 = .ok (.iaload, 1) := by decide +kernel
theorem dX12_about_65 : decode cX12_about 65 = .ok (.ireturn, 1) := by decide +kernel
theorem dX12_about_66 : decode cX12_about 66 = .ok (.aload_n 0, 1) := by decide +kernel
theorem dX12_about_67 : decode cX12_about 67 = .ok (.getfield 38, 3) := by decide +kernel
theorem dX12_about_70 : decode cX12_about 70 = .ok (.iload_n 1, 1) := by decide +kernel
theorem dX12_about_71 : decode cX12_about 71 = .ok (.iaload, 1) := by decide +kernel
theorem dX12_about_72 : decode cX12_about 72 = .ok (.ireturn, 1) := by decide +kernel
theorem dX12_about_73 : decode cX12_about 73 = .ok (.aload_n 0, 1) := by decide +kernel
theorem dX12_about_74 : decode cX12_about 74 = .ok (.getfield 41, 3) := by decide +kernel
theorem dX12_about_77 : decode cX12_about 77 = .ok (.iload_n 1, 1) := by decide +kernel
theorem dX12_about_78 : decode cX12_about 78 = .ok (.iaload, 1) := by decide +kernel
theorem dX12_about_79 : decode cX12_about 79 = .ok (.ireturn, 1) := by decide +kernel
theorem dX12_about_80 : decode cX12_about 80 = .ok (.iconst 0, 1) := by decide +kernel
theorem dX12_about_81 : decode cX12_about 81 = .ok (.istore 4, 2) := by decide +kernel
theorem dX12_about_83 : decode cX12_about 83 = .ok (.iload 4, 2) := by decide +kernel
theorem dX12_about_85 : decode cX12_about 85 = .ok (.aload_n 0, 1) := by decide +kernel
theorem dX12_about_86 : decode cX12_about 86 = .ok (.getfield 44, 3) := by decide +kernel
theorem dX12_about_89 : decode cX12_about 89 = .ok (.iconst 0, 1) := by decide +kernel
theorem dX12_about_90 : decode cX12_about 90 = .ok (.iaload, 1) := by decide +kernel
theorem dX12_about_91 : decode cX12_about 91 = .ok (.if_icmp .ge 38, 3) := by decide +kernel
theorem dX12_about_94 : decode cX12_about 94 = .ok (.iload_n 3, 1) := by decide +kernel
theorem dX12_about_95 : decode cX12_about 95 = .ok (.aload_n 0, 1) := by decide +kernel
theorem dX12_about_96 : decode cX12_about 96 = .ok (.getfield 47, 3) := by decide +kernel
theorem dX12_about_99 : decode cX12_about 99 = .ok (.iload 4, 2) := by decide +kernel
theorem dX12_about_101 : decode cX12_about 101 = .ok (.iaload, 1) := by decide +kernel
theorem dX12_about_102 : decode cX12_about 102 = .ok (.iload_n 1, 1) := by decide +kernel
theorem dX12_about_103 : decode cX12_about 103 = .ok (.if_icmp .ne 17, 3) := by decide +kernel
theorem dX12_about_106 : decode cX12_about 106 = .ok (.aload_n 0, 1) := by decide +kernel
theorem dX12_about_107 : decode cX12_about 107 = .ok (.getfield 59, 3) := by decide +kernel
theorem dX12_about_110 : decode cX12_about 110 = .ok (.iload 4, 2) := by decide +kernel
theorem dX12_about_112 : decode cX12_about 112 = .ok (.baload, 1) := by decide +kernel
theorem dX12_about_113 : decode cX12_about 113 = .ok (.ifCond .ne 7, 3) := by decide +kernel
theorem dX12_about_116 : decode cX12_about 116 = .ok (.iconst 1, 1) := by decide +kernel
theorem dX12_about_117 : decode cX12_about 117 = .ok (.goto 4, 3) := by decide +kernel
theorem dX12_about_120 : decode cX12_about 120 = .ok (.iconst 0, 1) := by decide +kernel
theorem dX12_about_121 : decode cX12_about 121 = .ok (.iadd, 1) := by decide +kernel
theorem dX12_about_122 : decode cX12_about 122 = .ok (.istore_n 3, 1) := by decide +kernel
theorem dX12_about_123 : decode cX12_about 123 = .ok (.iinc 4 1, 3) := by decide +kernel
theorem dX12_about_126 : decode cX12_about 126 = .ok (.goto (-43), 3) := by decide +kernel
theorem dX12_about_129 : decode cX12_about 129 = .ok (.iload_n 3, 1) := by decide +kernel
theorem dX12_about_130 : decode cX12_about 130 = .ok (.ireturn, 1) := by decide +kernel
theorem dX12_about_131 : decode cX12_about 131 = .ok (.iconst (-1), 1) := by decide +kernel
theorem dX12_about_132 : decode cX12_about 132 = .ok (.ireturn, 1) := by decide +kernel
theorem dX12_feed_0 : decode cX12_feed 0 = .ok (.aload_n 0, 1) := by decide +kernel
theorem dX12_feed_1 : decode cX12_feed 1 = .ok (.iconst 0, 1) := by decide +kernel
theorem dX12_feed_2 : decode cX12_feed 2 = .ok (.putfield 202, 3) := by decide +kernel
theorem dX12_feed_5 : decode cX12_feed 5 = .ok (.aload_n 0, 1) := by decide +kernel
theorem dX12_feed_6 : decode cX12_feed 6 = .ok (.getfield 13, 3) := by decide +kernel
theorem dX12_feed_9 : decode cX12_feed 9 = .ok (.iconst 0, 1) := by decide +kernel
theorem dX12_feed_10 : decode cX12_feed 10 = .ok (.iaload, 1) := by decide +kernel
theorem dX12_feed_11 : decode cX12_feed 11 = .ok (.bipush 20, 2) := by decide +kernel
theorem dX12_feed_13 : decode cX12_feed 13 = .ok (.iadd, 1) := by decide +kernel
theorem dX12_feed_14 : decode cX12_feed 14 = .ok (.sipush 500, 3) := by decide +kernel
theorem dX12_feed_17 : decode cX12_feed 17 = .ok (.if_icmp .le 5, 3) := by decide +kernel
theorem dX12_feed_20 : decode cX12_feed 20 = .ok (.iconst (-1), 1) := by decide +kernel
theorem dX12_feed_21 : decode cX12_feed 21 = .ok (.ireturn, 1) := by decide +kernel
theorem dX12_feed_22 : decode cX12_feed 22 = .ok (.aload_n 0, 1) := by decide +kernel
theorem dX12_feed_23 : decode cX12_feed 23 = .ok (.iload_n 1, 1) := by decide +kernel
theorem dX12_feed_24 : decode cX12_feed 24 = .ok (.invokevirtual 281, 3) := by decide +kernel
theorem dX12_feed_27 : decode cX12_feed 27 = .ok (.aload_n 0, 1) := by decide +kernel
theorem dX12_feed_28 : decode cX12_feed 28 = .ok (.iload_n 2, 1) := by decide +kernel
theorem dX12_feed_29 : decode cX12_feed 29 = .ok (.invokevirtual 281, 3) := by decide +kernel
theorem dX12_feed_32 : decode cX12_feed 32 = .ok (.aload_n 0, 1) := by decide +kernel
theorem dX12_feed_33 : decode cX12_feed 33 = .ok (.iload_n 3, 1) := by decide +kernel
theorem dX12_feed_34 : decode cX12_feed 34 = .ok (.invokevirtual 281, 3) := by decide +kernel
theorem dX12_feed_37 : decode cX12_feed 37 = .ok (.aload_n 0, 1) := by decide +kernel
theorem dX12_feed_38 : decode cX12_feed 38 = .ok (.iload 4, 2) := by decide +kernel
theorem dX12_feed_40 : decode cX12_feed 40 = .ok (.invokevirtual 281, 3) := by decide +kernel
theorem dX12_feed_43 : decode cX12_feed 43 = .ok (.aload_n 0, 1) := by decide +kernel
theorem dX12_feed_44 : decode cX12_feed 44 = .ok (.iload 5, 2) := by decide +kernel
theorem dX12_feed_46 : decode cX12_feed 46 = .ok (.invokevirtual 281, 3) := by decide +kernel
theorem dX12_feed_49 : decode cX12_feed 49 = .ok (.aload_n 0, 1) := by decide +kernel
theorem dX12_feed_50 : decode cX12_feed 50 = .ok (.getfield 13, 3) := by decide +kernel
theorem dX12_feed_53 : decode cX12_feed 53 = .ok (.iconst 0, 1) := by decide +kernel
theorem dX12_feed_54 : decode cX12_feed 54 = .ok (.iaload, 1) := by decide +kernel
theorem dX12_feed_55 : decode cX12_feed 55 = .ok (.ireturn, 1) := by decide +kernel
theorem dX12_four_0 : decode cX12_four 0 = .ok (.bipush 24, 2) := by decide +kernel
theorem dX12_four_2 : decode cX12_four 2 = .ok (.istore_n 2, 1) := by decide +kernel
theorem dX12_four_3 : decode cX12_four 3 = .ok (.iload_n 2, 1) := by decide +kernel
theorem dX12_four_4 : decode cX12_four 4 = .ok (.ifCond .lt 34, 3) := by decide +kernel
theorem dX12_four_7 : decode cX12_four 7 = .ok (.aload_n 0, 1) := by decide +kernel
theorem dX12_four_8 : decode cX12_four 8 = .ok (.getfield 7, 3) := by decide +kernel
theorem dX12_four_11 : decode cX12_four 11 = .ok (.aload_n 0, 1) := by decide +kernel
theorem dX12_four_12 : decode cX12_four 12 = .ok (.getfield 13, 3) := by decide +kernel
theorem dX12_four_15 : decode cX12_four 15 = .ok (.iconst 0, 1) := by decide +kernel
theorem dX12_four_16 : decode cX12_four 16 = .ok (.iaload, 1) := by decide +kernel
theorem dX12_four_17 : decode cX12_four 17 = .ok (.iload_n 1, 1) := by decide +kernel
theorem dX12_four_18 : decode cX12_four 18 = .ok (.iload_n 2, 1) := by decide +kernel
theorem dX12_four_19 : decode cX12_four 19 = .ok (.ishr, 1) := by decide +kernel
theorem dX12_four_20 : decode cX12_four 20 = .ok (.i2b, 1) := by decide +kernel
theorem dX12_four_21 : decode cX12_four 21 = .ok (.bastore, 1) := by decide +kernel
theorem dX12_four_22 : decode cX12_four 22 = .ok (.aload_n 0, 1) := by decide +kernel
theorem dX12_four_23 : decode cX12_four 23 = .ok (.getfield 13, 3) := by decide +kernel
theorem dX12_four_26 : decode cX12_four 26 = .ok (.iconst 0, 1) := by decide +kernel
theorem dX12_four_27 : decode cX12_four 27 = .ok (.dup2, 1) := by decide +kernel
theorem dX12_four_28 : decode cX12_four 28 = .ok (.iaload, 1) := by decide +kernel
theorem dX12_four_29 : decode cX12_four 29 = .ok (.iconst 1, 1) := by decide +kernel
theorem dX12_four_30 : decode cX12_four 30 = .ok (.iadd, 1) := by decide +kernel
theorem dX12_four_31 : decode cX12_four 31 = .ok (.iastore, 1) := by decide +kernel
theorem dX12_four_32 : decode cX12_four 32 = .ok (.iinc 2 (-8), 3) := by decide +kernel
theorem dX12_four_35 : decode cX12_four 35 = .ok (.goto (-32), 3) := by decide +kernel
theorem dX12_four_38 : decode cX12_four 38 = .ok (.return_, 1) := by decide +kernel
theorem dX12_end_0 : decode cX12_end 0 = .ok (.aload_n 0, 1) := by decide +kernel
theorem dX12_end_1 : decode cX12_end 1 = .ok (.iconst 0, 1) := by decide +kernel
theorem dX12_end_2 : decode cX12_end 2 = .ok (.putfield 202, 3) := by decide +kernel
theorem dX12_end_5 : decode cX12_end 5 = .ok (.iload_n 1, 1) := by decide +kernel
theorem dX12_end_6 : decode cX12_end 6 = .ok (.iconst 0, 1) := by decide +kernel
theorem dX12_end_7 : decode cX12_end 7 = .ok (.aload_n 0, 1) := by decide +kernel
theorem dX12_end_8 : decode cX12_end 8 = .ok (.getfield 13, 3) := by decide +kernel
theorem dX12_end_11 : decode cX12_end 11 = .ok (.iconst 0, 1) := by decide +kernel
theorem dX12_end_12 : decode cX12_end 12 = .ok (.iaload, 1) := by decide +kernel
theorem dX12_end_13 : decode cX12_end 13 = .ok (.invokestatic 218, 3) := by decide +kernel
theorem dX12_end_16 : decode cX12_end 16 = .ok (.ifCond .ne 5, 3) := by decide +kernel
theorem dX12_end_19 : decode cX12_end 19 = .ok (.iconst (-1), 1) := by decide +kernel
theorem dX12_end_20 : decode cX12_end 20 = .ok (.ireturn, 1) := by decide +kernel
theorem dX12_end_21 : decode cX12_end 21 = .ok (.aload_n 0, 1) := by decide +kernel
theorem dX12_end_22 : decode cX12_end 22 = .ok (.getfield 13, 3) := by decide +kernel
theorem dX12_end_25 : decode cX12_end 25 = .ok (.iconst 0, 1) := by decide +kernel
theorem dX12_end_26 : decode cX12_end 26 = .ok (.iload_n 1, 1) := by decide +kernel
theorem dX12_end_27 : decode cX12_end 27 = .ok (.iastore, 1) := by decide +kernel
theorem dX12_end_28 : decode cX12_end 28 = .ok (.iload_n 1, 1) := by decide +kernel
theorem dX12_end_29 : decode cX12_end 29 = .ok (.ireturn, 1) := by decide +kernel
theorem dX12_see_0 : decode cX12_see 0 = .ok (.aload_n 0, 1) := by decide +kernel
theorem dX12_see_1 : decode cX12_see 1 = .ok (.getfield 284, 3) := by decide +kernel
theorem dX12_see_4 : decode cX12_see 4 = .ok (.aload_n 0, 1) := by decide +kernel
theorem dX12_see_5 : decode cX12_see 5 = .ok (.getfield 287, 3) := by decide +kernel
theorem dX12_see_8 : decode cX12_see 8 = .ok (.if_icmp .ge 19, 3) := by decide +kernel
theorem dX12_see_11 : decode cX12_see 11 = .ok (.aload_n 0, 1) := by decide +kernel
theorem dX12_see_12 : decode cX12_see 12 = .ok (.getfield 7, 3) := by decide +kernel
theorem dX12_see_15 : decode cX12_see 15 = .ok (.aload_n 0, 1) := by decide +kernel
theorem dX12_see_16 : decode cX12_see 16 = .ok (.getfield 284, 3) := by decide +kernel
theorem dX12_see_19 : decode cX12_see 19 = .ok (.baload, 1) := by decide +kernel
theorem dX12_see_20 : decode cX12_see 20 = .ok (.sipush 255, 3) := by decide +kernel
theorem dX12_see_23 : decode cX12_see 23 = .ok (.iand, 1) := by decide +kernel
theorem dX12_see_24 : decode cX12_see 24 = .ok (.goto 4, 3) := by decide +kernel
theorem dX12_see_27 : decode cX12_see 27 = .ok (.iconst (-1), 1) := by decide +kernel
theorem dX12_see_28 : decode cX12_see 28 = .ok (.ireturn, 1) := by decide +kernel
theorem dX12_token_0 : decode cX12_token 0 = .ok (.aload_n 0, 1) := by decide +kernel
theorem dX12_token_1 : decode cX12_token 1 = .ok (.invokevirtual 290, 3) := by decide +kernel
theorem dX12_token_4 : decode cX12_token 4 = .ok (.bipush 10, 2) := by decide +kernel
theorem dX12_token_6 : decode cX12_token 6 = .ok (.if_icmp .eq 12, 3) := by decide +kernel
theorem dX12_token_9 : decode cX12_token 9 = .ok (.aload_n 0, 1) := by decide +kernel
theorem dX12_token_10 : decode cX12_token 10 = .ok (.invokevirtual 290, 3) := by decide +kernel
theorem dX12_token_13 : decode cX12_token 13 = .ok (.bipush 32, 2) := by decide +kernel
theorem dX12_token_15 : decode cX12_token 15 = .ok (.if_icmp .ne 16, 3) := by decide +kernel
theorem dX12_token_18 : decode cX12_token 18 = .ok (.aload_n 0, 1) := by decide +kernel
theorem dX12_token_19 : decode cX12_token 19 = .ok (.dup, 1) := by decide +kernel
theorem dX12_token_20 : decode cX12_token 20 = .ok (.getfield 284, 3) := by decide +kernel
theorem dX12_token_23 : decode cX12_token 23 = .ok (.iconst 1, 1) := by decide +kernel
theorem dX12_token_24 : decode cX12_token 24 = .ok (.iadd, 1) := by decide +kernel
theorem dX12_token_25 : decode cX12_token 25 = .ok (.putfield 284, 3) := by decide +kernel
theorem dX12_token_28 : decode cX12_token 28 = .ok (.goto (-28), 3) := by decide +kernel
theorem dX12_token_31 : decode cX12_token 31 = .ok (.aload_n 0, 1) := by decide +kernel
theorem dX12_token_32 : decode cX12_token 32 = .ok (.aload_n 0, 1) := by decide +kernel
theorem dX12_token_33 : decode cX12_token 33 = .ok (.getfield 284, 3) := by decide +kernel
theorem dX12_token_36 : decode cX12_token 36 = .ok (.putfield 294, 3) := by decide +kernel
theorem dX12_token_39 : decode cX12_token 39 = .ok (.aload_n 0, 1) := by decide +kernel
theorem dX12_token_40 : decode cX12_token 40 = .ok (.invokevirtual 290, 3) := by decide +kernel
theorem dX12_token_43 : decode cX12_token 43 = .ok (.istore_n 1, 1) := by decide +kernel
theorem dX12_token_44 : decode cX12_token 44 = .ok (.aload_n 0, 1) := by decide +kernel
theorem dX12_token_45 : decode cX12_token 45 = .ok (.iload_n 1, 1) := by decide +kernel
theorem dX12_token_46 : decode cX12_token 46 = .ok (.putfield 297, 3) := by decide +kernel
theorem dX12_token_49 : decode cX12_token 49 = .ok (.aload_n 0, 1) := by decide +kernel
theorem dX12_token_50 : decode cX12_token 50 = .ok (.lconst 0, 1) := by decide +kernel
theorem dX12_token_51 : decode cX12_token 51 = .ok (.putfield 300, 3) := by decide +kernel
theorem dX12_token_54 : decode cX12_token 54 = .ok (.iconst 0, 1) := by decide +kernel
theorem dX12_token_55 : decode cX12_token 55 = .ok (.istore_n 2, 1) := by decide +kernel
theorem dX12_token_56 : decode cX12_token 56 = .ok (.iload_n 1, 1) := by decide +kernel
theorem dX12_token_57 : decode cX12_token 57 = .ok (.ifCond .ge 11, 3) := by decide +kernel
theorem dX12_token_60 : decode cX12_token 60 = .ok (.aload_n 0, 1) := by decide +kernel
theorem dX12_token_61 : decode cX12_token 61 = .ok (.iconst 0, 1) := by decide +kernel
theorem dX12_token_62 : decode cX12_token 62 = .ok (.putfield 304, 3) := by decide +kernel
theorem dX12_token_65 : decode cX12_token 65 = .ok (.goto 230, 3) := by decide +kernel
theorem dX12_token_68 : decode cX12_token 68 = .ok (.iload_n 1, 1) := by decide +kernel
theorem dX12_token_69 : decode cX12_token 69 = .ok (.bipush 97, 2) := by decide +kernel
theorem dX12_token_71 : decode cX12_token 71 = .ok (.bipush 122, 2) := by decide +kernel
theorem dX12_token_73 : decode cX12_token 73 = .ok (.invokestatic 218, 3) := by decide +kernel
theorem dX12_token_76 : decode cX12_token 76 = .ok (.ifCond .eq 76, 3) := by decide +kernel
theorem dX12_token_79 : decode cX12_token 79 = .ok (.aload_n 0, 1) := by decide +kernel
theorem dX12_token_80 : decode cX12_token 80 = .ok (.invokevirtual 290, 3) := by decide +kernel
theorem dX12_token_83 : decode cX12_token 83 = .ok (.bipush 97, 2) := by decide +kernel
theorem dX12_token_85 : decode cX12_token 85 = .ok (.bipush 122, 2) := by decide +kernel
theorem dX12_token_87 : decode cX12_token 87 = .ok (.invokestatic 218, 3) := by decide +kernel
theorem dX12_token_90 : decode cX12_token 90 = .ok (.ifCond .eq 36, 3) := by decide +kernel
theorem dX12_token_93 : decode cX12_token 93 = .ok (.aload_n 0, 1) := by decide +kernel
theorem dX12_token_94 : decode cX12_token 94 = .ok (.aload_n 0, 1) := by decide +kernel
theorem dX12_token_95 : decode cX12_token 95 = .ok (.getfield 300, 3) := by decide +kernel
theorem dX12_token_98 : decode cX12_token 98 = .ok (.bipush 8, 2) := by decide +kernel
theorem dX12_token_100 : decode cX12_token 100 = .ok (.lshl, 1) := by decide +kernel
theorem dX12_token_101 : decode cX12_token 101 = .ok (.aload_n 0, 1) := by decide +kernel
theorem dX12_token_102 : decode cX12_token 102 = .ok (.invokevirtual 290, 3) := by decide +kernel
theorem dX12_token_105 : decode cX12_token 105 = .ok (.i2l, 1) := by decide +kernel
theorem dX12_token_106 : decode cX12_token 106 = .ok (.lor, 1) := by decide +kernel
theorem dX12_token_107 : decode cX12_token 107 = .ok (.putfield 300, 3) := by decide +kernel
theorem dX12_token_110 : decode cX12_token 110 = .ok (.aload_n 0, 1) := by decide +kernel
theorem dX12_token_111 : decode cX12_token 111 = .ok (.dup, 1) := by decide +kernel
theorem dX12_token_112 : decode cX12_token 112 = .ok (.getfield 284, 3) := by decide +kernel
theorem dX12_token_115 : decode cX12_token 115 = .ok (.iconst 1, 1) := by decide +kernel
theorem dX12_token_116 : decode cX12_token 116 = .ok (.iadd, 1) := by decide +kernel
theorem dX12_token_117 : decode cX12_token 117 = .ok (.putfield 284, 3) := by decide +kernel
theorem dX12_token_120 : decode cX12_token 120 = .ok (.iinc 2 1, 3) := by decide +kernel
theorem dX12_token_123 : decode cX12_token 123 = .ok (.goto (-44), 3) := by decide +kernel
theorem dX12_token_126 : decode cX12_token 126 = .ok (.aload_n 0, 1) := by decide +kernel
theorem dX12_token_127 : decode cX12_token 127 = .ok (.iload_n 2, 1) := by decide +kernel
theorem dX12_token_128 : decode cX12_token 128 = .ok (.bipush 8, 2) := by decide +kernel
theorem dX12_token_130 : decode cX12_token 130 = .ok (.if_icmp .le 7, 3) := by decide +kernel
theorem dX12_token_133 : decode cX12_token 133 = .ok (.lconst 0, 1) := by decide +kernel
theorem dX12_token_134 : decode cX12_token 134 = .ok (.goto 7, 3) := by decide +kernel
theorem dX12_token_137 : decode cX12_token 137 = .ok (.aload_n 0, 1) := by decide +kernel
theorem dX12_token_138 : decode cX12_token 138 = .ok (.getfield 300, 3) := by decide +kernel
theorem dX12_token_141 : decode cX12_token 141 = .ok (.putfield 300, 3) := by decide +kernel
theorem dX12_token_144 : decode cX12_token 144 = .ok (.aload_n 0, 1) := by decide +kernel
theorem dX12_token_145 : decode cX12_token 145 = .ok (.iconst 2, 1) := by decide +kernel
theorem dX12_token_146 : decode cX12_token 146 = .ok (.putfield 304, 3) := by decide +kernel
theorem dX12_token_149 : decode cX12_token 149 = .ok (.goto 146, 3) := by decide +kernel
theorem dX12_token_152 : decode cX12_token 152 = .ok (.iload_n 1, 1) := by decide +kernel
theorem dX12_token_153 : decode cX12_token 153 = .ok (.bipush 48, 2) := by decide +kernel
theorem dX12_token_155 : decode cX12_token 155 = .ok (.bipush 57, 2) := by decide +kernel
theorem dX12_token_157 : decode cX12_token 157 = .ok (.invokestatic 218, 3) := by decide +kernel
theorem dX12_token_160 : decode cX12_token 160 = .ok (.ifCond .eq 86, 3) := by decide +kernel
theorem dX12_token_163 : decode cX12_token 163 = .ok (.aload_n 0, 1) := by decide +kernel
theorem dX12_token_164 : decode cX12_token 164 = .ok (.iconst 0, 1) := by decide +kernel
theorem dX12_token_165 : decode cX12_token 165 = .ok (.putfield 297, 3) := by decide +kernel
theorem dX12_token_168 : decode cX12_token 168 = .ok (.aload_n 0, 1) := by decide +kernel
theorem dX12_token_169 : decode cX12_token 169 = .ok (.invokevirtual 290, 3) := by decide +kernel
theorem dX12_token_172 : decode cX12_token 172 = .ok (.bipush 48, 2) := by decide +kernel
theorem dX12_token_174 : decode cX12_token 174 = .ok (.bipush 57, 2) := by decide +kernel
theorem dX12_token_176 : decode cX12_token 176 = .ok (.invokestatic 218, 3) := by decide +kernel
theorem dX12_token_179 : decode cX12_token 179 = .ok (.ifCond .eq 50, 3) := by decide +kernel
theorem dX12_token_182 : decode cX12_token 182 = .ok (.aload_n 0, 1) := by decide +kernel
theorem dX12_token_183 : decode cX12_token 183 = .ok (.iload_n 2, 1) := by decide +kernel
theorem dX12_token_184 : decode cX12_token 184 = .ok (.iconst 4, 1) := by decide +kernel
theorem dX12_token_185 : decode cX12_token 185 = .ok (.if_icmp .ge 21, 3) := by decide +kernel
theorem dX12_token_188 : decode cX12_token 188 = .ok (.bipush 10, 2) := by decide +kernel
theorem dX12_token_190 : decode cX12_token 190 = .ok (.aload_n 0, 1) := by decide +kernel
theorem dX12_token_191 : decode cX12_token 191 = .ok (.getfield 297, 3) := by decide +kernel
theorem dX12_token_194 : decode cX12_token 194 = .ok (.imul, 1) := by decide +kernel
theorem dX12_token_195 : decode cX12_token 195 = .ok (.aload_n 0, 1) := by decide +kernel
theorem dX12_token_196 : decode cX12_token 196 = .ok (.invokevirtual 290, 3) := by decide +kernel
theorem dX12_token_199 : decode cX12_token 199 = .ok (.iadd, 1) := by decide +kernel
theorem dX12_token_200 : decode cX12_token 200 = .ok (.bipush 48, 2) := by decide +kernel
theorem dX12_token_202 : decode cX12_token 202 = .ok (.isub, 1) := by decide +kernel
theorem dX12_token_203 : decode cX12_token 203 = .ok (.goto 7, 3) := by decide +kernel
theorem dX12_token_206 : decode cX12_token 206 = .ok (.aload_n 0, 1) := by decide +kernel
theorem dX12_token_207 : decode cX12_token 207 = .ok (.getfield 297, 3) := by decide +kernel
theorem dX12_token_210 : decode cX12_token 210 = .ok (.putfield 297, 3) := by decide +kernel
theorem dX12_token_213 : decode cX12_token 213 = .ok (.aload_n 0, 1) := by decide +kernel
theorem dX12_token_214 : decode cX12_token 214 = .ok (.dup, 1) := by decide +kernel
theorem dX12_token_215 : decode cX12_token 215 = .ok (.getfield 284, 3) := by decide +kernel
theorem dX12_token_218 : decode cX12_token 218 = .ok (.iconst 1, 1) := by decide +kernel
theorem dX12_token_219 : decode cX12_token 219 = .ok (.iadd, 1) := by decide +kernel
theorem dX12_token_220 : decode cX12_token 220 = .ok (.putfield 284, 3) := by decide +kernel
theorem dX12_token_223 : decode cX12_token 223 = .ok (.iinc 2 1, 3) := by decide +kernel
theorem dX12_token_226 : decode cX12_token 226 = .ok (.goto (-58), 3) := by decide +kernel
theorem dX12_token_229 : decode cX12_token 229 = .ok (.aload_n 0, 1) := by decide +kernel
theorem dX12_token_230 : decode cX12_token 230 = .ok (.iload_n 2, 1) := by decide +kernel
theorem dX12_token_231 : decode cX12_token 231 = .ok (.iconst 4, 1) := by decide +kernel
theorem dX12_token_232 : decode cX12_token 232 = .ok (.if_icmp .le 7, 3) := by decide +kernel
theorem dX12_token_235 : decode cX12_token 235 = .ok (.iconst 1, 1) := by decide +kernel
theorem dX12_token_236 : decode cX12_token 236 = .ok (.goto 4, 3) := by decide +kernel
theorem dX12_token_239 : decode cX12_token 239 = .ok (.iconst 3, 1) := by decide +kernel
theorem dX12_token_240 : decode cX12_token 240 = .ok (.putfield 304, 3) := by decide +kernel
theorem dX12_token_243 : decode cX12_token 243 = .ok (.goto 52, 3) := by decide +kernel
theorem dX12_token_246 : decode cX12_token 246 = .ok (.aload_n 0, 1) := by decide +kernel
theorem dX12_token_247 : decode cX12_token 247 = .ok (.dup, 1) := by decide +kernel
theorem dX12_token_248 : decode cX12_token 248 = .ok (.getfield 284, 3) := by decide +kernel
theorem dX12_token_251 : decode cX12_token 251 = .ok (.iconst 1, 1) := by decide +kernel
theorem dX12_token_252 : decode cX12_token 252 = .ok (.iadd, 1) := by decide +kernel
theorem dX12_token_253 : decode cX12_token 253 = .ok (.putfield 284, 3) := by decide +kernel
theorem dX12_token_256 : decode cX12_token 256 = .ok (.aload_n 0, 1) := by decide +kernel
theorem dX12_token_257 : decode cX12_token 257 = .ok (.iload_n 1, 1) := by decide +kernel
theorem dX12_token_258 : decode cX12_token 258 = .ok (.bipush 58, 2) := by decide +kernel
theorem dX12_token_260 : decode cX12_token 260 = .ok (.if_icmp .eq 27, 3) := by decide +kernel
theorem dX12_token_263 : decode cX12_token 263 = .ok (.iload_n 1, 1) := by decide +kernel
theorem dX12_token_264 : decode cX12_token 264 = .ok (.bipush 59, 2) := by decide +kernel
theorem dX12_token_266 : decode cX12_token 266 = .ok (.if_icmp .eq 21, 3) := by decide +kernel
theorem dX12_token_269 : decode cX12_token 269 = .ok (.iload_n 1, 1) := by decide +kernel
theorem dX12_token_270 : decode cX12_token 270 = .ok (.bipush 60, 2) := by decide +kernel
theorem dX12_token_272 : decode cX12_token 272 = .ok (.if_icmp .eq 15, 3) := by decide +kernel
theorem dX12_token_275 : decode cX12_token 275 = .ok (.iload_n 1, 1) := by decide +kernel
theorem dX12_token_276 : decode cX12_token 276 = .ok (.bipush 62, 2) := by decide +kernel
theorem dX12_token_278 : decode cX12_token 278 = .ok (.if_icmp .eq 9, 3) := by decide +kernel
theorem dX12_token_281 : decode cX12_token 281 = .ok (.iload_n 1, 1) := by decide +kernel
theorem dX12_token_282 : decode cX12_token 282 = .ok (.bipush 61, 2) := by decide +kernel
theorem dX12_token_284 : decode cX12_token 284 = .ok (.if_icmp .ne 7, 3) := by decide +kernel
theorem dX12_token_287 : decode cX12_token 287 = .ok (.iconst 4, 1) := by decide +kernel
theorem dX12_token_288 : decode cX12_token 288 = .ok (.goto 4, 3) := by decide +kernel
theorem dX12_token_291 : decode cX12_token 291 = .ok (.iconst 1, 1) := by decide +kernel
theorem dX12_token_292 : decode cX12_token 292 = .ok (.putfield 304, 3) := by decide +kernel
theorem dX12_token_295 : decode cX12_token 295 = .ok (.return_, 1) := by decide +kernel
theorem dX12_isWord_0 : decode cX12_isWord 0 = .ok (.aload_n 0, 1) := by decide +kernel
theorem dX12_isWord_1 : decode cX12_isWord 1 = .ok (.getfield 304, 3) := by decide +kernel
theorem dX12_isWord_4 : decode cX12_isWord 4 = .ok (.iconst 2, 1) := by decide +kernel
theorem dX12_isWord_5 : decode cX12_isWord 5 = .ok (.if_icmp .ne 16, 3) := by decide +kernel
theorem dX12_isWord_8 : decode cX12_isWord 8 = .ok (.aload_n 0, 1) := by decide +kernel
theorem dX12_isWord_9 : decode cX12_isWord 9 = .ok (.getfield 300, 3) := by decide +kernel
theorem dX12_isWord_12 : decode cX12_isWord 12 = .ok (.lload_n 1, 1) := by decide +kernel
theorem dX12_isWord_13 : decode cX12_isWord 13 = .ok (.lcmp, 1) := by decide +kernel
theorem dX12_isWord_14 : decode cX12_isWord 14 = .ok (.ifCond .ne 7, 3) := by decide +kernel
theorem dX12_isWord_17 : decode cX12_isWord 17 = .ok (.iconst 1, 1) := by decide +kernel
theorem dX12_isWord_18 : decode cX12_isWord 18 = .ok (.goto 4, 3) := by decide +kernel
theorem dX12_isWord_21 : decode cX12_isWord 21 = .ok (.iconst 0, 1) := by decide +kernel
theorem dX12_isWord_22 : decode cX12_isWord 22 = .ok (.ireturn, 1) := by decide +kernel
theorem dX12_wrong_0 : decode cX12_wrong 0 = .ok (.aload_n 0, 1) := by decide +kernel
theorem dX12_wrong_1 : decode cX12_wrong 1 = .ok (.aload_n 0, 1) := by decide +kernel
theorem dX12_wrong_2 : decode cX12_wrong 2 = .ok (.getfield 294, 3) := by decide +kernel
theorem dX12_wrong_5 : decode cX12_wrong 5 = .ok (.putfield 307, 3) := by decide +kernel
theorem dX12_wrong_8 : decode cX12_wrong 8 = .ok (.iconst 0, 1) := by decide +kernel
theorem dX12_wrong_9 : decode cX12_wrong 9 = .ok (.ireturn, 1) := by decide +kernel
theorem dX12_later_0 : decode cX12_later 0 = .ok (.aload_n 0, 1) := by decide +kernel
theorem dX12_later_1 : decode cX12_later 1 = .ok (.getfield 310, 3) := by decide +kernel
theorem dX12_later_4 : decode cX12_later 4 = .ok (.ifCond .ne 13, 3) := by decide +kernel
theorem dX12_later_7 : decode cX12_later 7 = .ok (.aload_n 0, 1) := by decide +kernel
theorem dX12_later_8 : decode cX12_later 8 = .ok (.iload_n 1, 1) := by decide +kernel
theorem dX12_later_9 : decode cX12_later 9 = .ok (.putfield 310, 3) := by decide +kernel
theorem dX12_later_12 : decode cX12_later 12 = .ok (.aload_n 0, 1) := by decide +kernel
theorem dX12_later_13 : decode cX12_later 13 = .ok (.iload_n 2, 1) := by decide +kernel
theorem dX12_later_14 : decode cX12_later 14 = .ok (.putfield 313, 3) := by decide +kernel
theorem dX12_later_17 : decode cX12_later 17 = .ok (.return_, 1) := by decide +kernel
theorem dX12_need_0 : decode cX12_need 0 = .ok (.aload_n 0, 1) := by decide +kernel
theorem dX12_need_1 : decode cX12_need 1 = .ok (.getfield 304, 3) := by decide +kernel
theorem dX12_need_4 : decode cX12_need 4 = .ok (.iconst 4, 1) := by decide +kernel
theorem dX12_need_5 : decode cX12_need 5 = .ok (.if_icmp .ne 11, 3) := by decide +kernel
theorem dX12_need_8 : decode cX12_need 8 = .ok (.aload_n 0, 1) := by decide +kernel
theorem dX12_need_9 : decode cX12_need 9 = .ok (.getfield 297, 3) := by decide +kernel
theorem dX12_need_12 : decode cX12_need 12 = .ok (.iload_n 1, 1) := by decide +kernel
theorem dX12_need_13 : decode cX12_need 13 = .ok (.if_icmp .eq 8, 3) := by decide +kernel
theorem dX12_need_16 : decode cX12_need 16 = .ok (.aload_n 0, 1) := by decide +kernel
theorem dX12_need_17 : decode cX12_need 17 = .ok (.invokevirtual 316, 3) := by decide +kernel
theorem dX12_need_20 : decode cX12_need 20 = .ok (.ireturn, 1) := by decide +kernel
theorem dX12_need_21 : decode cX12_need 21 = .ok (.aload_n 0, 1) := by decide +kernel
theorem dX12_need_22 : decode cX12_need 22 = .ok (.invokevirtual 320, 3) := by decide +kernel
theorem dX12_need_25 : decode cX12_need 25 = .ok (.iconst 1, 1) := by decide +kernel
theorem dX12_need_26 : decode cX12_need 26 = .ok (.ireturn, 1) := by decide +kernel
theorem dX12_testWord_0 : decode cX12_testWord 0 = .ok (.aload_n 0, 1) := by decide +kernel
theorem dX12_testWord_1 : decode cX12_testWord 1 = .ok (.ldc2_w 323, 3) := by decide +kernel
theorem dX12_testWord_4 : decode cX12_testWord 4 = .ok (.invokevirtual 325, 3) := by decide +kernel
theorem dX12_testWord_7 : decode cX12_testWord 7 = .ok (.ifCond .eq 7, 3) := by decide +kernel
theorem dX12_testWord_10 : decode cX12_testWord 10 = .ok (.iconst 0, 1) := by decide +kernel
theorem dX12_testWord_11 : decode cX12_testWord 11 = .ok (.goto 60, 3) := by decide +kernel
theorem dX12_testWord_14 : decode cX12_testWord 14 = .ok (.aload_n 0, 1) := by decide +kernel
theorem dX12_testWord_15 : decode cX12_testWord 15 = .ok (.ldc2_w 329, 3) := by decide +kernel
theorem dX12_testWord_18 : decode cX12_testWord 18 = .ok (.invokevirtual 325, 3) := by decide +kernel
theorem dX12_testWord_21 : decode cX12_testWord 21 = .ok (.ifCond .eq 7, 3) := by decide +kernel
theorem dX12_testWord_24 : decode cX12_testWord 24 = .ok (.iconst 1, 1) := by decide +kernel
theorem dX12_testWord_25 : decode cX12_testWord 25 = .ok (.goto 46, 3) := by decide +kernel
theorem dX12_testWord_28 : decode cX12_testWord 28 = .ok (.aload_n 0, 1) := by decide +kernel
theorem dX12_testWord_29 : decode cX12_testWord 29 = .ok (.ldc2_w 331, 3) := by decide +kernel
theorem dX12_testWord_32 : decode cX12_testWord 32 = .ok (.invokevirtual 325, 3) := by decide +kernel
theorem dX12_testWord_35 : decode cX12_testWord 35 = .ok (.ifCond .eq 7, 3) := by decide +kernel
theorem dX12_testWord_38 : decode cX12_testWord 38 = .ok (.iconst 2, 1) := by decide +kernel
theorem dX12_testWord_39 : decode cX12_testWord 39 = .ok (.goto 32, 3) := by decide +kernel
theorem dX12_testWord_42 : decode cX12_testWord 42 = .ok (.aload_n 0, 1) := by decide +kernel
theorem dX12_testWord_43 : decode cX12_testWord 43 = .ok (.ldc2_w 333, 3) := by decide +kernel
theorem dX12_testWord_46 : decode cX12_testWord 46 = .ok (.invokevirtual 325, 3) := by decide +kernel
theorem dX12_testWord_49 : decode cX12_testWord 49 = .ok (.ifCond .eq 7, 3) := by decide +kernel
theorem dX12_testWord_52 : decode cX12_testWord 52 = .ok (.iconst 3, 1) := by decide +kernel
theorem dX12_testWord_53 : decode cX12_testWord 53 = .ok (.goto 18, 3) := by decide +kernel
theorem dX12_testWord_56 : decode cX12_testWord 56 = .ok (.aload_n 0, 1) := by decide +kernel
theorem dX12_testWord_57 : decode cX12_testWord 57 = .ok (.ldc2_w 335, 3) := by decide +kernel
theorem dX12_testWord_60 : decode cX12_testWord 60 = .ok (.invokevirtual 325, 3) := by decide +kernel
theorem dX12_testWord_63 : decode cX12_testWord 63 = .ok (.ifCond .eq 7, 3) := by decide +kernel
theorem dX12_testWord_66 : decode cX12_testWord 66 = .ok (.iconst 4, 1) := by decide +kernel
theorem dX12_testWord_67 : decode cX12_testWord 67 = .ok (.goto 4, 3) := by decide +kernel
theorem dX12_testWord_70 : decode cX12_testWord 70 = .ok (.iconst (-1), 1) := by decide +kernel
theorem dX12_testWord_71 : decode cX12_testWord 71 = .ok (.istore_n 1, 1) := by decide +kernel
theorem dX12_testWord_72 : decode cX12_testWord 72 = .ok (.iload_n 1, 1) := by decide +kernel
theorem dX12_testWord_73 : decode cX12_testWord 73 = .ok (.iconst (-1), 1) := by decide +kernel
theorem dX12_testWord_74 : decode cX12_testWord 74 = .ok (.if_icmp .eq 7, 3) := by decide +kernel
theorem dX12_testWord_77 : decode cX12_testWord 77 = .ok (.iload_n 1, 1) := by decide +kernel
theorem dX12_testWord_78 : decode cX12_testWord 78 = .ok (.goto 93, 3) := by decide +kernel
theorem dX12_testWord_81 : decode cX12_testWord 81 = .ok (.aload_n 0, 1) := by decide +kernel
theorem dX12_testWord_82 : decode cX12_testWord 82 = .ok (.ldc2_w 337, 3) := by decide +kernel
theorem dX12_testWord_85 : decode cX12_testWord 85 = .ok (.invokevirtual 325, 3) := by decide +kernel
theorem dX12_testWord_88 : decode cX12_testWord 88 = .ok (.ifCond .eq 7, 3) := by decide +kernel
theorem dX12_testWord_91 : decode cX12_testWord 91 = .ok (.iconst 5, 1) := by decide +kernel
theorem dX12_testWord_92 : decode cX12_testWord 92 = .ok (.goto 79, 3) := by decide +kernel
theorem dX12_testWord_95 : decode cX12_testWord 95 = .ok (.aload_n 0, 1) := by decide +kernel
theorem dX12_testWord_96 : decode cX12_testWord 96 = .ok (.ldc2_w 339, 3) := by decide +kernel
theorem dX12_testWord_99 : decode cX12_testWord 99 = .ok (.invokevirtual 325, 3) := by decide +kernel
theorem dX12_testWord_102 : decode cX12_testWord 102 = .ok (.ifCond .eq 8, 3) := by decide +kernel
theorem dX12_testWord_105 : decode cX12_testWord 105 = .ok (.bipush 6, 2) := by decide +kernel
theorem dX12_testWord_107 : decode cX12_testWord 107 = .ok (.goto 64, 3) := by decide +kernel
theorem dX12_testWord_110 : decode cX12_testWord 110 = .ok (.aload_n 0, 1) := by decide +kernel
theorem dX12_testWord_111 : decode cX12_testWord 111 = .ok (.ldc2_w 341, 3) := by decide +kernel
theorem dX12_testWord_114 : decode cX12_testWord 114 = .ok (.invokevirtual 325, 3) := by decide +kernel
theorem dX12_testWord_117 : decode cX12_testWord 117 = .ok (.ifCond .eq 8, 3) := by decide +kernel
theorem dX12_testWord_120 : decode cX12_testWord 120 = .ok (.bipush 7, 2) := by decide +kernel
theorem dX12_testWord_122 : decode cX12_testWord 122 = .ok (.goto 49, 3) := by decide +kernel
theorem dX12_testWord_125 : decode cX12_testWord 125 = .ok (.aload_n 0, 1) := by decide +kernel
theorem dX12_testWord_126 : decode cX12_testWord 126 = .ok (.ldc2_w 343, 3) := by decide +kernel
theorem dX12_testWord_129 : decode cX12_testWord 129 = .ok (.invokevirtual 325, 3) := by decide +kernel
theorem dX12_testWord_132 : decode cX12_testWord 132 = .ok (.ifCond .eq 8, 3) := by decide +kernel
theorem dX12_testWord_135 : decode cX12_testWord 135 = .ok (.bipush 8, 2) := by decide +kernel
theorem dX12_testWord_137 : decode cX12_testWord 137 = .ok (.goto 34, 3) := by decide +kernel
theorem dX12_testWord_140 : decode cX12_testWord 140 = .ok (.aload_n 0, 1) := by decide +kernel
theorem dX12_testWord_141 : decode cX12_testWord 141 = .ok (.ldc2_w 345, 3) := by decide +kernel
theorem dX12_testWord_144 : decode cX12_testWord 144 = .ok (.invokevirtual 325, 3) := by decide +kernel
theorem dX12_testWord_147 : decode cX12_testWord 147 = .ok (.ifCond .eq 8, 3) := by decide +kernel
theorem dX12_testWord_150 : decode cX12_testWord 150 = .ok (.bipush 9, 2) := by decide +kernel
theorem dX12_testWord_152 : decode cX12_testWord 152 = .ok (.goto 19, 3) := by decide +kernel
theorem dX12_testWord_155 : decode cX12_testWord 155 = .ok (.aload_n 0, 1) := by decide +kernel
theorem dX12_testWord_156 : decode cX12_testWord 156 = .ok (.ldc2_w 347, 3) := by decide +kernel
theorem dX12_testWord_159 : decode cX12_testWord 159 = .ok (.invokevirtual 325, 3) := by decide +kernel
theorem dX12_testWord_162 : decode cX12_testWord 162 = .ok (.ifCond .eq 8, 3) := by decide +kernel
theorem dX12_testWord_165 : decode cX12_testWord 165 = .ok (.bipush 10, 2) := by decide +kernel
theorem dX12_testWord_167 : decode cX12_testWord 167 = .ok (.goto 4, 3) := by decide +kernel
theorem dX12_testWord_170 : decode cX12_testWord 170 = .ok (.iconst (-1), 1) := by decide +kernel
theorem dX12_testWord_171 : decode cX12_testWord 171 = .ok (.ireturn, 1) := by decide +kernel
theorem dX12_test_0 : decode cX12_test 0 = .ok (.iload_n 2, 1) := by decide +kernel
theorem dX12_test_1 : decode cX12_test 1 = .ok (.iconst 4, 1) := by decide +kernel
theorem dX12_test_2 : decode cX12_test 2 = .ok (.if_icmp .ne 12, 3) := by decide +kernel
theorem dX12_test_5 : decode cX12_test 5 = .ok (.aload_n 0, 1) := by decide +kernel
theorem dX12_test_6 : decode cX12_test 6 = .ok (.iconst 3, 1) := by decide +kernel
theorem dX12_test_7 : decode cX12_test 7 = .ok (.aload_n 0, 1) := by decide +kernel
theorem dX12_test_8 : decode cX12_test 8 = .ok (.getfield 294, 3) := by decide +kernel
theorem dX12_test_11 : decode cX12_test 11 = .ok (.invokevirtual 349, 3) := by decide +kernel
theorem dX12_test_14 : decode cX12_test 14 = .ok (.aload_n 0, 1) := by decide +kernel
theorem dX12_test_15 : decode cX12_test 15 = .ok (.ldc2_w 352, 3) := by decide +kernel
theorem dX12_test_18 : decode cX12_test 18 = .ok (.invokevirtual 325, 3) := by decide +kernel
theorem dX12_test_21 : decode cX12_test 21 = .ok (.istore_n 3, 1) := by decide +kernel
theorem dX12_test_22 : decode cX12_test 22 = .ok (.iload_n 3, 1) := by decide +kernel
theorem dX12_test_23 : decode cX12_test 23 = .ok (.ifCond .eq 7, 3) := by decide +kernel
theorem dX12_test_26 : decode cX12_test 26 = .ok (.aload_n 0, 1) := by decide +kernel
theorem dX12_test_27 : decode cX12_test 27 = .ok (.invokevirtual 320, 3) := by decide +kernel
theorem dX12_test_30 : decode cX12_test 30 = .ok (.aload_n 0, 1) := by decide +kernel
theorem dX12_test_31 : decode cX12_test 31 = .ok (.invokevirtual 354, 3) := by decide +kernel
theorem dX12_test_34 : decode cX12_test 34 = .ok (.istore 4, 2) := by decide +kernel
theorem dX12_test_36 : decode cX12_test 36 = .ok (.iload 4, 2) := by decide +kernel
theorem dX12_test_38 : decode cX12_test 38 = .ok (.iconst (-1), 1) := by decide +kernel
theorem dX12_test_39 : decode cX12_test 39 = .ok (.if_icmp .ne 8, 3) := by decide +kernel
theorem dX12_test_42 : decode cX12_test 42 = .ok (.aload_n 0, 1) := by decide +kernel
theorem dX12_test_43 : decode cX12_test 43 = .ok (.invokevirtual 316, 3) := by decide +kernel
theorem dX12_test_46 : decode cX12_test 46 = .ok (.ireturn, 1) := by decide +kernel
theorem dX12_test_47 : decode cX12_test 47 = .ok (.aload_n 0, 1) := by decide +kernel
theorem dX12_test_48 : decode cX12_test 48 = .ok (.invokevirtual 320, 3) := by decide +kernel
theorem dX12_test_51 : decode cX12_test 51 = .ok (.bipush 61, 2) := by decide +kernel
theorem dX12_test_53 : decode cX12_test 53 = .ok (.istore 5, 2) := by decide +kernel
theorem dX12_test_55 : decode cX12_test 55 = .ok (.iconst 1, 1) := by decide +kernel
theorem dX12_test_56 : decode cX12_test 56 = .ok (.istore 6, 2) := by decide +kernel
theorem dX12_test_58 : decode cX12_test 58 = .ok (.iload 4, 2) := by decide +kernel
theorem dX12_test_60 : decode cX12_test 60 = .ok (.iconst 4, 1) := by decide +kernel
theorem dX12_test_61 : decode cX12_test 61 = .ok (.if_icmp .le 70, 3) := by decide +kernel
theorem dX12_test_64 : decode cX12_test 64 = .ok (.aload_n 0, 1) := by decide +kernel
theorem dX12_test_65 : decode cX12_test 65 = .ok (.getfield 297, 3) := by decide +kernel
theorem dX12_test_68 : decode cX12_test 68 = .ok (.istore 5, 2) := by decide +kernel
theorem dX12_test_70 : decode cX12_test 70 = .ok (.aload_n 0, 1) := by decide +kernel
theorem dX12_test_71 : decode cX12_test 71 = .ok (.getfield 304, 3) := by decide +kernel
theorem dX12_test_74 : decode cX12_test 74 = .ok (.iconst 4, 1) := by decide +kernel
theorem dX12_test_75 : decode cX12_test 75 = .ok (.if_icmp .ne 24, 3) := by decide +kernel
theorem dX12_test_78 : decode cX12_test 78 = .ok (.iload 5, 2) := by decide +kernel
theorem dX12_test_80 : decode cX12_test 80 = .ok (.bipush 60, 2) := by decide +kernel
theorem dX12_test_82 : decode cX12_test 82 = .ok (.if_icmp .eq 22, 3) := by decide +kernel
theorem dX12_test_85 : decode cX12_test 85 = .ok (.iload 5, 2) := by decide +kernel
theorem dX12_test_87 : decode cX12_test 87 = .ok (.bipush 62, 2) := by decide +kernel
theorem dX12_test_89 : decode cX12_test 89 = .ok (.if_icmp .eq 15, 3) := by decide +kernel
theorem dX12_test_92 : decode cX12_test 92 = .ok (.iload 5, 2) := by decide +kernel
theorem dX12_test_94 : decode cX12_test 94 = .ok (.bipush 61, 2) := by decide +kernel
theorem dX12_test_96 : decode cX12_test 96 = .ok (.if_icmp .eq 8, 3) := by decide +kernel
theorem dX12_test_99 : decode cX12_test 99 = .ok (.aload_n 0, 1) := by decide +kernel
theorem dX12_test_100 : decode cX12_test 100 = .ok (.invokevirtual 316, 3) := by decide +kernel
theorem dX12_test_103 : decode cX12_test 103 = .ok (.ireturn, 1) := by decide +kernel
theorem dX12_test_104 : decode cX12_test 104 = .ok (.aload_n 0, 1) := by decide +kernel
theorem dX12_test_105 : decode cX12_test 105 = .ok (.invokevirtual 320, 3) := by decide +kernel
theorem dX12_test_108 : decode cX12_test 108 = .ok (.aload_n 0, 1) := by decide +kernel
theorem dX12_test_109 : decode cX12_test 109 = .ok (.getfield 304, 3) := by decide +kernel
theorem dX12_test_112 : decode cX12_test 112 = .ok (.iconst 3, 1) := by decide +kernel
theorem dX12_test_113 : decode cX12_test 113 = .ok (.if_icmp .eq 8, 3) := by decide +kernel
theorem dX12_test_116 : decode cX12_test 116 = .ok (.aload_n 0, 1) := by decide +kernel
theorem dX12_test_117 : decode cX12_test 117 = .ok (.invokevirtual 316, 3) := by decide +kernel
theorem dX12_test_120 : decode cX12_test 120 = .ok (.ireturn, 1) := by decide +kernel
theorem dX12_test_121 : decode cX12_test 121 = .ok (.aload_n 0, 1) := by decide +kernel
theorem dX12_test_122 : decode cX12_test 122 = .ok (.getfield 297, 3) := by decide +kernel
theorem dX12_test_125 : decode cX12_test 125 = .ok (.istore 6, 2) := by decide +kernel
theorem dX12_test_127 : decode cX12_test 127 = .ok (.aload_n 0, 1) := by decide +kernel
theorem dX12_test_128 : decode cX12_test 128 = .ok (.invokevirtual 320, 3) := by decide +kernel
theorem dX12_test_131 : decode cX12_test 131 = .ok (.iload_n 2, 1) := by decide +kernel
theorem dX12_test_132 : decode cX12_test 132 = .ok (.iconst 4, 1) := by decide +kernel
theorem dX12_test_133 : decode cX12_test 133 = .ok (.if_icmp .ge 64, 3) := by decide +kernel
theorem dX12_test_136 : decode cX12_test 136 = .ok (.iload_n 1, 1) := by decide +kernel
theorem dX12_test_137 : decode cX12_test 137 = .ok (.bipush 16, 2) := by decide +kernel
theorem dX12_test_139 : decode cX12_test 139 = .ok (.if_icmp .ge 58, 3) := by decide +kernel
theorem dX12_test_142 : decode cX12_test 142 = .ok (.iconst 4, 1) := by decide +kernel
theorem dX12_test_143 : decode cX12_test 143 = .ok (.iload_n 1, 1) := by decide +kernel
theorem dX12_test_144 : decode cX12_test 144 = .ok (.imul, 1) := by decide +kernel
theorem dX12_test_145 : decode cX12_test 145 = .ok (.iload_n 2, 1) := by decide +kernel
theorem dX12_test_146 : decode cX12_test 146 = .ok (.iadd, 1) := by decide +kernel
theorem dX12_test_147 : decode cX12_test 147 = .ok (.istore 7, 2) := by decide +kernel
theorem dX12_test_149 : decode cX12_test 149 = .ok (.aload_n 0, 1) := by decide +kernel
theorem dX12_test_150 : decode cX12_test 150 = .ok (.getfield 150, 3) := by decide +kernel
theorem dX12_test_153 : decode cX12_test 153 = .ok (.iload 7, 2) := by decide +kernel
theorem dX12_test_155 : decode cX12_test 155 = .ok (.iload_n 3, 1) := by decide +kernel
theorem dX12_test_156 : decode cX12_test 156 = .ok (.ifCond .eq 11, 3) := by decide +kernel
theorem dX12_test_159 : decode cX12_test 159 = .ok (.iload 4, 2) := by decide +kernel
theorem dX12_test_161 : decode cX12_test 161 = .ok (.bipush 16, 2) := by decide +kernel
theorem dX12_test_163 : decode cX12_test 163 = .ok (.iadd, 1) := by decide +kernel
theorem dX12_test_164 : decode cX12_test 164 = .ok (.goto 5, 3) := by decide +kernel
theorem dX12_test_167 : decode cX12_test 167 = .ok (.iload 4, 2) := by decide +kernel
theorem dX12_test_169 : decode cX12_test 169 = .ok (.iastore, 1) := by decide +kernel
theorem dX12_test_170 : decode cX12_test 170 = .ok (.aload_n 0, 1) := by decide +kernel
theorem dX12_test_171 : decode cX12_test 171 = .ok (.getfield 153, 3) := by decide +kernel
theorem dX12_test_174 : decode cX12_test 174 = .ok (.iload 7, 2) := by decide +kernel
theorem dX12_test_176 : decode cX12_test 176 = .ok (.iload 5, 2) := by decide +kernel
theorem dX12_test_178 : decode cX12_test 178 = .ok (.iastore, 1) := by decide +kernel
theorem dX12_test_179 : decode cX12_test 179 = .ok (.aload_n 0, 1) := by decide +kernel
theorem dX12_test_180 : decode cX12_test 180 = .ok (.getfield 156, 3) := by decide +kernel
theorem dX12_test_183 : decode cX12_test 183 = .ok (.iload 7, 2) := by decide +kernel
theorem dX12_test_185 : decode cX12_test 185 = .ok (.iload 6, 2) := by decide +kernel
theorem dX12_test_187 : decode cX12_test 187 = .ok (.iastore, 1) := by decide +kernel
theorem dX12_test_188 : decode cX12_test 188 = .ok (.aload_n 0, 1) := by decide +kernel
theorem dX12_test_189 : decode cX12_test 189 = .ok (.getfield 141, 3) := by decide +kernel
theorem dX12_test_192 : decode cX12_test 192 = .ok (.iload_n 1, 1) := by decide +kernel
theorem dX12_test_193 : decode cX12_test 193 = .ok (.iload_n 2, 1) := by decide +kernel
theorem dX12_test_194 : decode cX12_test 194 = .ok (.iconst 1, 1) := by decide +kernel
theorem dX12_test_195 : decode cX12_test 195 = .ok (.iadd, 1) := by decide +kernel
theorem dX12_test_196 : decode cX12_test 196 = .ok (.iastore, 1) := by decide +kernel
theorem dX12_test_197 : decode cX12_test 197 = .ok (.iconst 1, 1) := by decide +kernel
theorem dX12_test_198 : decode cX12_test 198 = .ok (.ireturn, 1) := by decide +kernel
theorem dX12_actWord_0 : decode cX12_actWord 0 = .ok (.iload_n 1, 1) := by decide +kernel
theorem dX12_actWord_1 : decode cX12_actWord 1 = .ok (.ifCond .eq 33, 3) := by decide +kernel
theorem dX12_actWord_4 : decode cX12_actWord 4 = .ok (.aload_n 0, 1) := by decide +kernel
theorem dX12_actWord_5 : decode cX12_actWord 5 = .ok (.ldc2_w 357, 3) := by decide +kernel
theorem dX12_actWord_8 : decode cX12_actWord 8 = .ok (.invokevirtual 325, 3) := by decide +kernel
theorem dX12_actWord_11 : decode cX12_actWord 11 = .ok (.ifCond .eq 7, 3) := by decide +kernel
theorem dX12_actWord_14 : decode cX12_actWord 14 = .ok (.iconst 3, 1) := by decide +kernel
theorem dX12_actWord_15 : decode cX12_actWord 15 = .ok (.goto 18, 3) := by decide +kernel
theorem dX12_actWord_18 : decode cX12_actWord 18 = .ok (.aload_n 0, 1) := by decide +kernel
theorem dX12_actWord_19 : decode cX12_actWord 19 = .ok (.ldc2_w 359, 3) := by decide +kernel
theorem dX12_actWord_22 : decode cX12_actWord 22 = .ok (.invokevirtual 325, 3) := by decide +kernel
theorem dX12_actWord_25 : decode cX12_actWord 25 = .ok (.ifCond .eq 7, 3) := by decide +kernel
theorem dX12_actWord_28 : decode cX12_actWord 28 = .ok (.iconst 4, 1) := by decide +kernel
theorem dX12_actWord_29 : decode cX12_actWord 29 = .ok (.goto 4, 3) := by decide +kernel
theorem dX12_actWord_32 : decode cX12_actWord 32 = .ok (.iconst (-1), 1) := by decide +kernel
theorem dX12_actWord_33 : decode cX12_actWord 33 = .ok (.ireturn, 1) := by decide +kernel
theorem dX12_actWord_34 : decode cX12_actWord 34 = .ok (.aload_n 0, 1) := by decide +kernel
theorem dX12_actWord_35 : decode cX12_actWord 35 = .ok (.ldc2_w 361, 3) := by decide +kernel
theorem dX12_actWord_38 : decode cX12_actWord 38 = .ok (.invokevirtual 325, 3) := by decide +kernel
theorem dX12_actWord_41 : decode cX12_actWord 41 = .ok (.ifCond .eq 7, 3) := by decide +kernel
theorem dX12_actWord_44 : decode cX12_actWord 44 = .ok (.iconst 0, 1) := by decide +kernel
theorem dX12_actWord_45 : decode cX12_actWord 45 = .ok (.goto 32, 3) := by decide +kernel
theorem dX12_actWord_48 : decode cX12_actWord 48 = .ok (.aload_n 0, 1) := by decide +kernel
theorem dX12_actWord_49 : decode cX12_actWord 49 = .ok (.ldc2_w 363, 3) := by decide +kernel
theorem dX12_actWord_52 : decode cX12_actWord 52 = .ok (.invokevirtual 325, 3) := by decide +kernel
theorem dX12_actWord_55 : decode cX12_actWord 55 = .ok (.ifCond .eq 7, 3) := by decide +kernel
theorem dX12_actWord_58 : decode cX12_actWord 58 = .ok (.iconst 1, 1) := by decide +kernel
theorem dX12_actWord_59 : decode cX12_actWord 59 = .ok (.goto 18, 3) := by decide +kernel
theorem dX12_actWord_62 : decode cX12_actWord 62 = .ok (.aload_n 0, 1) := by decide +kernel
theorem dX12_actWord_63 : decode cX12_actWord 63 = .ok (.ldc2_w 365, 3) := by decide +kernel
theorem dX12_actWord_66 : decode cX12_actWord 66 = .ok (.invokevirtual 325, 3) := by decide +kernel
theorem dX12_actWord_69 : decode cX12_actWord 69 = .ok (.ifCond .eq 7, 3) := by decide +kernel
theorem dX12_actWord_72 : decode cX12_actWord 72 = .ok (.iconst 2, 1) := by decide +kernel
theorem dX12_actWord_73 : decode cX12_actWord 73 = .ok (.goto 4, 3) := by decide +kernel
theorem dX12_actWord_76 : decode cX12_actWord 76 = .ok (.iconst (-1), 1) := by decide +kernel
theorem dX12_actWord_77 : decode cX12_actWord 77 = .ok (.ireturn, 1) := by decide +kernel
theorem dX12_oneLine_0 : decode cX12_oneLine 0 = .ok (.aload_n 0, 1) := by decide +kernel
theorem dX12_oneLine_1 : decode cX12_oneLine 1 = .ok (.getfield 367, 3) := by decide +kernel
theorem dX12_oneLine_4 : decode cX12_oneLine 4 = .ok (.bipush 16, 2) := by decide +kernel
theorem dX12_oneLine_6 : decode cX12_oneLine 6 = .ok (.if_icmp .ge 10, 3) := by decide +kernel
theorem dX12_oneLine_9 : decode cX12_oneLine 9 = .ok (.aload_n 0, 1) := by decide +kernel
theorem dX12_oneLine_10 : decode cX12_oneLine 10 = .ok (.getfield 367, 3) := by decide +kernel
theorem dX12_oneLine_13 : decode cX12_oneLine 13 = .ok (.goto 5, 3) := by decide +kernel
theorem dX12_oneLine_16 : decode cX12_oneLine 16 = .ok (.bipush 16, 2) := by decide +kernel
theorem dX12_oneLine_18 : decode cX12_oneLine 18 = .ok (.istore_n 2, 1) := by decide +kernel
theorem dX12_oneLine_19 : decode cX12_oneLine 19 = .ok (.aload_n 0, 1) := by decide +kernel
theorem dX12_oneLine_20 : decode cX12_oneLine 20 = .ok (.getfield 367, 3) := by decide +kernel
theorem dX12_oneLine_23 : decode cX12_oneLine 23 = .ok (.bipush 16, 2) := by decide +kernel
theorem dX12_oneLine_25 : decode cX12_oneLine 25 = .ok (.if_icmp .ne 12, 3) := by decide +kernel
theorem dX12_oneLine_28 : decode cX12_oneLine 28 = .ok (.aload_n 0, 1) := by decide +kernel
theorem dX12_oneLine_29 : decode cX12_oneLine 29 = .ok (.iconst 3, 1) := by decide +kernel
theorem dX12_oneLine_30 : decode cX12_oneLine 30 = .ok (.aload_n 0, 1) := by decide +kernel
theorem dX12_oneLine_31 : decode cX12_oneLine 31 = .ok (.getfield 294, 3) := by decide +kernel
theorem dX12_oneLine_34 : decode cX12_oneLine 34 = .ok (.invokevirtual 349, 3) := by decide +kernel
theorem dX12_oneLine_37 : decode cX12_oneLine 37 = .ok (.aload_n 0, 1) := by decide +kernel
theorem dX12_oneLine_38 : decode cX12_oneLine 38 = .ok (.getfield 141, 3) := by decide +kernel
theorem dX12_oneLine_41 : decode cX12_oneLine 41 = .ok (.iload_n 2, 1) := by decide +kernel
theorem dX12_oneLine_42 : decode cX12_oneLine 42 = .ok (.iconst 0, 1) := by decide +kernel
theorem dX12_oneLine_43 : decode cX12_oneLine 43 = .ok (.iastore, 1) := by decide +kernel
theorem dX12_oneLine_44 : decode cX12_oneLine 44 = .ok (.aload_n 0, 1) := by decide +kernel
theorem dX12_oneLine_45 : decode cX12_oneLine 45 = .ok (.ldc2_w 370, 3) := by decide +kernel
theorem dX12_oneLine_48 : decode cX12_oneLine 48 = .ok (.invokevirtual 325, 3) := by decide +kernel
theorem dX12_oneLine_51 : decode cX12_oneLine 51 = .ok (.ifCond .eq 53, 3) := by decide +kernel
theorem dX12_oneLine_54 : decode cX12_oneLine 54 = .ok (.iconst 1, 1) := by decide +kernel
theorem dX12_oneLine_55 : decode cX12_oneLine 55 = .ok (.istore_n 3, 1) := by decide +kernel
theorem dX12_oneLine_56 : decode cX12_oneLine 56 = .ok (.iconst 0, 1) := by decide +kernel
theorem dX12_oneLine_57 : decode cX12_oneLine 57 = .ok (.istore 4, 2) := by decide +kernel
theorem dX12_oneLine_59 : decode cX12_oneLine 59 = .ok (.iload_n 3, 1) := by decide +kernel
theorem dX12_oneLine_60 : decode cX12_oneLine 60 = .ok (.ifCond .eq 33, 3) := by decide +kernel
theorem dX12_oneLine_63 : decode cX12_oneLine 63 = .ok (.aload_n 0, 1) := by decide +kernel
theorem dX12_oneLine_64 : decode cX12_oneLine 64 = .ok (.invokevirtual 320, 3) := by decide +kernel
theorem dX12_oneLine_67 : decode cX12_oneLine 67 = .ok (.aload_n 0, 1) := by decide +kernel
theorem dX12_oneLine_68 : decode cX12_oneLine 68 = .ok (.iload_n 2, 1) := by decide +kernel
theorem dX12_oneLine_69 : decode cX12_oneLine 69 = .ok (.iload 4, 2) := by decide +kernel
theorem dX12_oneLine_71 : decode cX12_oneLine 71 = .ok (.invokevirtual 372, 3) := by decide +kernel
theorem dX12_oneLine_74 : decode cX12_oneLine 74 = .ok (.ifCond .ne 5, 3) := by decide +kernel
theorem dX12_oneLine_77 : decode cX12_oneLine 77 = .ok (.iconst 0, 1) := by decide +kernel
theorem dX12_oneLine_78 : decode cX12_oneLine 78 = .ok (.ireturn, 1) := by decide +kernel
theorem dX12_oneLine_79 : decode cX12_oneLine 79 = .ok (.aload_n 0, 1) := by decide +kernel
theorem dX12_oneLine_80 : decode cX12_oneLine 80 = .ok (.ldc2_w 375, 3) := by decide +kernel
theorem dX12_oneLine_83 : decode cX12_oneLine 83 = .ok (.invokevirtual 325, 3) := by decide +kernel
theorem dX12_oneLine_86 : decode cX12_oneLine 86 = .ok (.istore_n 3, 1) := by decide +kernel
theorem dX12_oneLine_87 : decode cX12_oneLine 87 = .ok (.iinc 4 1, 3) := by decide +kernel
theorem dX12_oneLine_90 : decode cX12_oneLine 90 = .ok (.goto (-31), 3) := by decide +kernel
theorem dX12_oneLine_93 : decode cX12_oneLine 93 = .ok (.aload_n 0, 1) := by decide +kernel
theorem dX12_oneLine_94 : decode cX12_oneLine 94 = .ok (.bipush 58, 2) := by decide +kernel
theorem dX12_oneLine_96 : decode cX12_oneLine 96 = .ok (.invokevirtual 377, 3) := by decide +kernel
theorem dX12_oneLine_99 : decode cX12_oneLine 99 = .ok (.ifCond .ne 5, 3) := by decide +kernel
theorem dX12_oneLine_102 : decode cX12_oneLine 102 = .ok (.iconst 0, 1) := by decide +kernel
theorem dX12_oneLine_103 : decode cX12_oneLine 103 = .ok (.ireturn, 1) := by decide +kernel
theorem dX12_oneLine_104 : decode cX12_oneLine 104 = .ok (.aload_n 0, 1) := by decide +kernel
theorem dX12_oneLine_105 : decode cX12_oneLine 105 = .ok (.getfield 144, 3) := by decide +kernel
theorem dX12_oneLine_108 : decode cX12_oneLine 108 = .ok (.iload_n 2, 1) := by decide +kernel
theorem dX12_oneLine_109 : decode cX12_oneLine 109 = .ok (.aload_n 0, 1) := by decide +kernel
theorem dX12_oneLine_110 : decode cX12_oneLine 110 = .ok (.iload_n 1, 1) := by decide +kernel
theorem dX12_oneLine_111 : decode cX12_oneLine 111 = .ok (.invokevirtual 380, 3) := by decide +kernel
theorem dX12_oneLine_114 : decode cX12_oneLine 114 = .ok (.iastore, 1) := by decide +kernel
theorem dX12_oneLine_115 : decode cX12_oneLine 115 = .ok (.aload_n 0, 1) := by decide +kernel
theorem dX12_oneLine_116 : decode cX12_oneLine 116 = .ok (.getfield 144, 3) := by decide +kernel
theorem dX12_oneLine_119 : decode cX12_oneLine 119 = .ok (.iload_n 2, 1) := by decide +kernel
theorem dX12_oneLine_120 : decode cX12_oneLine 120 = .ok (.iaload, 1) := by decide +kernel
theorem dX12_oneLine_121 : decode cX12_oneLine 121 = .ok (.iconst (-1), 1) := by decide +kernel
theorem dX12_oneLine_122 : decode cX12_oneLine 122 = .ok (.if_icmp .ne 8, 3) := by decide +kernel
theorem dX12_oneLine_125 : decode cX12_oneLine 125 = .ok (.aload_n 0, 1) := by decide +kernel
theorem dX12_oneLine_126 : decode cX12_oneLine 126 = .ok (.invokevirtual 316, 3) := by decide +kernel
theorem dX12_oneLine_129 : decode cX12_oneLine 129 = .ok (.ireturn, 1) := by decide +kernel
theorem dX12_oneLine_130 : decode cX12_oneLine 130 = .ok (.aload_n 0, 1) := by decide +kernel
theorem dX12_oneLine_131 : decode cX12_oneLine 131 = .ok (.invokevirtual 320, 3) := by decide +kernel
theorem dX12_oneLine_134 : decode cX12_oneLine 134 = .ok (.aload_n 0, 1) := by decide +kernel
theorem dX12_oneLine_135 : decode cX12_oneLine 135 = .ok (.getfield 147, 3) := by decide +kernel
theorem dX12_oneLine_138 : decode cX12_oneLine 138 = .ok (.iload_n 2, 1) := by decide +kernel
theorem dX12_oneLine_139 : decode cX12_oneLine 139 = .ok (.iconst 0, 1) := by decide +kernel
theorem dX12_oneLine_140 : decode cX12_oneLine 140 = .ok (.iastore, 1) := by decide +kernel
theorem dX12_oneLine_141 : decode cX12_oneLine 141 = .ok (.aload_n 0, 1) := by decide +kernel
theorem dX12_oneLine_142 : decode cX12_oneLine 142 = .ok (.getfield 144, 3) := by decide +kernel
theorem dX12_oneLine_145 : decode cX12_oneLine 145 = .ok (.iload_n 2, 1) := by decide +kernel
theorem dX12_oneLine_146 : decode cX12_oneLine 146 = .ok (.iaload, 1) := by decide +kernel
theorem dX12_oneLine_147 : decode cX12_oneLine 147 = .ok (.ifCond .eq 58, 3) := by decide +kernel
theorem dX12_oneLine_150 : decode cX12_oneLine 150 = .ok (.aload_n 0, 1) := by decide +kernel
theorem dX12_oneLine_151 : decode cX12_oneLine 151 = .ok (.getfield 304, 3) := by decide +kernel
theorem dX12_oneLine_154 : decode cX12_oneLine 154 = .ok (.iconst 3, 1) := by decide +kernel
theorem dX12_oneLine_155 : decode cX12_oneLine 155 = .ok (.if_icmp .eq 8, 3) := by decide +kernel
theorem dX12_oneLine_158 : decode cX12_oneLine 158 = .ok (.aload_n 0, 1) := by decide +kernel
theorem dX12_oneLine_159 : decode cX12_oneLine 159 = .ok (.invokevirtual 316, 3) := by decide +kernel
theorem dX12_oneLine_162 : decode cX12_oneLine 162 = .ok (.ireturn, 1) := by decide +kernel
theorem dX12_oneLine_163 : decode cX12_oneLine 163 = .ok (.aload_n 0, 1) := by decide +kernel
theorem dX12_oneLine_164 : decode cX12_oneLine 164 = .ok (.getfield 144, 3) := by decide +kernel
theorem dX12_oneLine_167 : decode cX12_oneLine 167 = .ok (.iload_n 2, 1) := by decide +kernel
theorem dX12_oneLine_168 : decode cX12_oneLine 168 = .ok (.iaload, 1) := by decide +kernel
theorem dX12_oneLine_169 : decode cX12_oneLine 169 = .ok (.iconst 2, 1) := by decide +kernel
theorem dX12_oneLine_170 : decode cX12_oneLine 170 = .ok (.if_icmp .ne 21, 3) := by decide +kernel
theorem dX12_oneLine_173 : decode cX12_oneLine 173 = .ok (.aload_n 0, 1) := by decide +kernel
theorem dX12_oneLine_174 : decode cX12_oneLine 174 = .ok (.getfield 297, 3) := by decide +kernel
theorem dX12_oneLine_177 : decode cX12_oneLine 177 = .ok (.bipush 100, 2) := by decide +kernel
theorem dX12_oneLine_179 : decode cX12_oneLine 179 = .ok (.if_icmp .le 12, 3) := by decide +kernel
theorem dX12_oneLine_182 : decode cX12_oneLine 182 = .ok (.aload_n 0, 1) := by decide +kernel
theorem dX12_oneLine_183 : decode cX12_oneLine 183 = .ok (.iconst 2, 1) := by decide +kernel
theorem dX12_oneLine_184 : decode cX12_oneLine 184 = .ok (.aload_n 0, 1) := by decide +kernel
theorem dX12_oneLine_185 : decode cX12_oneLine 185 = .ok (.getfield 294, 3) := by decide +kernel
theorem dX12_oneLine_188 : decode cX12_oneLine 188 = .ok (.invokevirtual 349, 3) := by decide +kernel
theorem dX12_oneLine_191 : decode cX12_oneLine 191 = .ok (.aload_n 0, 1) := by decide +kernel
theorem dX12_oneLine_192 : decode cX12_oneLine 192 = .ok (.getfield 147, 3) := by decide +kernel
theorem dX12_oneLine_195 : decode cX12_oneLine 195 = .ok (.iload_n 2, 1) := by decide +kernel
theorem dX12_oneLine_196 : decode cX12_oneLine 196 = .ok (.aload_n 0, 1) := by decide +kernel
theorem dX12_oneLine_197 : decode cX12_oneLine 197 = .ok (.getfield 297, 3) := by decide +kernel
theorem dX12_oneLine_200 : decode cX12_oneLine 200 = .ok (.iastore, 1) := by decide +kernel
theorem dX12_oneLine_201 : decode cX12_oneLine 201 = .ok (.aload_n 0, 1) := by decide +kernel
theorem dX12_oneLine_202 : decode cX12_oneLine 202 = .ok (.invokevirtual 320, 3) := by decide +kernel
theorem dX12_oneLine_205 : decode cX12_oneLine 205 = .ok (.aload_n 0, 1) := by decide +kernel
theorem dX12_oneLine_206 : decode cX12_oneLine 206 = .ok (.dup, 1) := by decide +kernel
theorem dX12_oneLine_207 : decode cX12_oneLine 207 = .ok (.getfield 367, 3) := by decide +kernel
theorem dX12_oneLine_210 : decode cX12_oneLine 210 = .ok (.iconst 1, 1) := by decide +kernel
theorem dX12_oneLine_211 : decode cX12_oneLine 211 = .ok (.iadd, 1) := by decide +kernel
theorem dX12_oneLine_212 : decode cX12_oneLine 212 = .ok (.putfield 367, 3) := by decide +kernel
theorem dX12_oneLine_215 : decode cX12_oneLine 215 = .ok (.aload_n 0, 1) := by decide +kernel
theorem dX12_oneLine_216 : decode cX12_oneLine 216 = .ok (.bipush 59, 2) := by decide +kernel
theorem dX12_oneLine_218 : decode cX12_oneLine 218 = .ok (.invokevirtual 377, 3) := by decide +kernel
theorem dX12_oneLine_221 : decode cX12_oneLine 221 = .ok (.ireturn, 1) := by decide +kernel
theorem dX12_text_0 : decode cX12_text 0 = .ok (.aload_n 0, 1) := by decide +kernel
theorem dX12_text_1 : decode cX12_text 1 = .ok (.iconst 0, 1) := by decide +kernel
theorem dX12_text_2 : decode cX12_text 2 = .ok (.putfield 202, 3) := by decide +kernel
theorem dX12_text_5 : decode cX12_text 5 = .ok (.aload_n 0, 1) := by decide +kernel
theorem dX12_text_6 : decode cX12_text 6 = .ok (.aload_n 0, 1) := by decide +kernel
theorem dX12_text_7 : decode cX12_text 7 = .ok (.getfield 13, 3) := by decide +kernel
theorem dX12_text_10 : decode cX12_text 10 = .ok (.iconst 0, 1) := by decide +kernel
theorem dX12_text_11 : decode cX12_text 11 = .ok (.iaload, 1) := by decide +kernel
theorem dX12_text_12 : decode cX12_text 12 = .ok (.putfield 287, 3) := by decide +kernel
theorem dX12_text_15 : decode cX12_text 15 = .ok (.aload_n 0, 1) := by decide +kernel
theorem dX12_text_16 : decode cX12_text 16 = .ok (.getfield 13, 3) := by decide +kernel
theorem dX12_text_19 : decode cX12_text 19 = .ok (.iconst 0, 1) := by decide +kernel
theorem dX12_text_20 : decode cX12_text 20 = .ok (.iconst 0, 1) := by decide +kernel
theorem dX12_text_21 : decode cX12_text 21 = .ok (.iastore, 1) := by decide +kernel
theorem dX12_text_22 : decode cX12_text 22 = .ok (.aload_n 0, 1) := by decide +kernel
theorem dX12_text_23 : decode cX12_text 23 = .ok (.getfield 17, 3) := by decide +kernel
theorem dX12_text_26 : decode cX12_text 26 = .ok (.iconst 0, 1) := by decide +kernel
theorem dX12_text_27 : decode cX12_text 27 = .ok (.iconst 0, 1) := by decide +kernel
theorem dX12_text_28 : decode cX12_text 28 = .ok (.iastore, 1) := by decide +kernel
theorem dX12_text_29 : decode cX12_text 29 = .ok (.aload_n 0, 1) := by decide +kernel
theorem dX12_text_30 : decode cX12_text 30 = .ok (.getfield 20, 3) := by decide +kernel
theorem dX12_text_33 : decode cX12_text 33 = .ok (.iconst 0, 1) := by decide +kernel
theorem dX12_text_34 : decode cX12_text 34 = .ok (.iconst (-1), 1) := by decide +kernel
theorem dX12_text_35 : decode cX12_text 35 = .ok (.iastore, 1) := by decide +kernel
theorem dX12_text_36 : decode cX12_text 36 = .ok (.iload_n 1, 1) := by decide +kernel
theorem dX12_text_37 : decode cX12_text 37 = .ok (.iconst 0, 1) := by decide +kernel
theorem dX12_text_38 : decode cX12_text 38 = .ok (.bipush 6, 2) := by decide +kernel
theorem dX12_text_40 : decode cX12_text 40 = .ok (.invokestatic 218, 3) := by decide +kernel
theorem dX12_text_43 : decode cX12_text 43 = .ok (.ifCond .ne 6, 3) := by decide +kernel
theorem dX12_text_46 : decode cX12_text 46 = .ok (.bipush (-2), 2) := by decide +kernel
theorem dX12_text_48 : decode cX12_text 48 = .ok (.ireturn, 1) := by decide +kernel
theorem dX12_text_49 : decode cX12_text 49 = .ok (.aload_n 0, 1) := by decide +kernel
theorem dX12_text_50 : decode cX12_text 50 = .ok (.iconst 0, 1) := by decide +kernel
theorem dX12_text_51 : decode cX12_text 51 = .ok (.putfield 284, 3) := by decide +kernel
theorem dX12_text_54 : decode cX12_text 54 = .ok (.aload_n 0, 1) := by decide +kernel
theorem dX12_text_55 : decode cX12_text 55 = .ok (.iconst (-1), 1) := by decide +kernel
theorem dX12_text_56 : decode cX12_text 56 = .ok (.putfield 307, 3) := by decide +kernel
theorem dX12_text_59 : decode cX12_text 59 = .ok (.aload_n 0, 1) := by decide +kernel
theorem dX12_text_60 : decode cX12_text 60 = .ok (.iconst 0, 1) := by decide +kernel
theorem dX12_text_61 : decode cX12_text 61 = .ok (.putfield 310, 3) := by decide +kernel
theorem dX12_text_64 : decode cX12_text 64 = .ok (.aload_n 0, 1) := by decide +kernel
theorem dX12_text_65 : decode cX12_text 65 = .ok (.iconst 0, 1) := by decide +kernel
theorem dX12_text_66 : decode cX12_text 66 = .ok (.putfield 367, 3) := by decide +kernel
theorem dX12_text_69 : decode cX12_text 69 = .ok (.iconst 1, 1) := by decide +kernel
theorem dX12_text_70 : decode cX12_text 70 = .ok (.istore_n 2, 1) := by decide +kernel
theorem dX12_text_71 : decode cX12_text 71 = .ok (.aload_n 0, 1) := by decide +kernel
theorem dX12_text_72 : decode cX12_text 72 = .ok (.invokevirtual 320, 3) := by decide +kernel
theorem dX12_text_75 : decode cX12_text 75 = .ok (.iload_n 2, 1) := by decide +kernel
theorem dX12_text_76 : decode cX12_text 76 = .ok (.ifCond .eq 28, 3) := by decide +kernel
theorem dX12_text_79 : decode cX12_text 79 = .ok (.aload_n 0, 1) := by decide +kernel
theorem dX12_text_80 : decode cX12_text 80 = .ok (.getfield 304, 3) := by decide +kernel
theorem dX12_text_83 : decode cX12_text 83 = .ok (.ifCond .eq 21, 3) := by decide +kernel
theorem dX12_text_86 : decode cX12_text 86 = .ok (.aload_n 0, 1) := by decide +kernel
theorem dX12_text_87 : decode cX12_text 87 = .ok (.iload_n 1, 1) := by decide +kernel
theorem dX12_text_88 : decode cX12_text 88 = .ok (.iconst 5, 1) := by decide +kernel
theorem dX12_text_89 : decode cX12_text 89 = .ok (.if_icmp .lt 7, 3) := by decide +kernel
theorem dX12_text_92 : decode cX12_text 92 = .ok (.iconst 1, 1) := by decide +kernel
theorem dX12_text_93 : decode cX12_text 93 = .ok (.goto 4, 3) := by decide +kernel
theorem dX12_text_96 : decode cX12_text 96 = .ok (.iconst 0, 1) := by decide +kernel
theorem dX12_text_97 : decode cX12_text 97 = .ok (.invokevirtual 384, 3) := by decide +kernel
theorem dX12_text_100 : decode cX12_text 100 = .ok (.istore_n 2, 1) := by decide +kernel
theorem dX12_text_101 : decode cX12_text 101 = .ok (.goto (-26), 3) := by decide +kernel
theorem dX12_text_104 : decode cX12_text 104 = .ok (.iload_n 2, 1) := by decide +kernel
theorem dX12_text_105 : decode cX12_text 105 = .ok (.ifCond .eq 10, 3) := by decide +kernel
theorem dX12_text_108 : decode cX12_text 108 = .ok (.aload_n 0, 1) := by decide +kernel
theorem dX12_text_109 : decode cX12_text 109 = .ok (.getfield 310, 3) := by decide +kernel
theorem dX12_text_112 : decode cX12_text 112 = .ok (.ifCond .le 44, 3) := by decide +kernel
theorem dX12_text_115 : decode cX12_text 115 = .ok (.aload_n 0, 1) := by decide +kernel
theorem dX12_text_116 : decode cX12_text 116 = .ok (.getfield 17, 3) := by decide +kernel
theorem dX12_text_119 : decode cX12_text 119 = .ok (.iconst 0, 1) := by decide +kernel
theorem dX12_text_120 : decode cX12_text 120 = .ok (.iload_n 2, 1) := by decide +kernel
theorem dX12_text_121 : decode cX12_text 121 = .ok (.ifCond .eq 10, 3) := by decide +kernel
theorem dX12_text_124 : decode cX12_text 124 = .ok (.aload_n 0, 1) := by decide +kernel
theorem dX12_text_125 : decode cX12_text 125 = .ok (.getfield 310, 3) := by decide +kernel
theorem dX12_text_128 : decode cX12_text 128 = .ok (.goto 4, 3) := by decide +kernel
theorem dX12_text_131 : decode cX12_text 131 = .ok (.iconst 1, 1) := by decide +kernel
theorem dX12_text_132 : decode cX12_text 132 = .ok (.iastore, 1) := by decide +kernel
theorem dX12_text_133 : decode cX12_text 133 = .ok (.aload_n 0, 1) := by decide +kernel
theorem dX12_text_134 : decode cX12_text 134 = .ok (.getfield 20, 3) := by decide +kernel
theorem dX12_text_137 : decode cX12_text 137 = .ok (.iconst 0, 1) := by decide +kernel
theorem dX12_text_138 : decode cX12_text 138 = .ok (.iload_n 2, 1) := by decide +kernel
theorem dX12_text_139 : decode cX12_text 139 = .ok (.ifCond .eq 10, 3) := by decide +kernel
theorem dX12_text_142 : decode cX12_text 142 = .ok (.aload_n 0, 1) := by decide +kernel
theorem dX12_text_143 : decode cX12_text 143 = .ok (.getfield 313, 3) := by decide +kernel
theorem dX12_text_146 : decode cX12_text 146 = .ok (.goto 7, 3) := by decide +kernel
theorem dX12_text_149 : decode cX12_text 149 = .ok (.aload_n 0, 1) := by decide +kernel
theorem dX12_text_150 : decode cX12_text 150 = .ok (.getfield 307, 3) := by decide +kernel
theorem dX12_text_153 : decode cX12_text 153 = .ok (.iastore, 1) := by decide +kernel
theorem dX12_text_154 : decode cX12_text 154 = .ok (.iconst (-1), 1) := by decide +kernel
theorem dX12_text_155 : decode cX12_text 155 = .ok (.ireturn, 1) := by decide +kernel
theorem dX12_text_156 : decode cX12_text 156 = .ok (.aload_n 0, 1) := by decide +kernel
theorem dX12_text_157 : decode cX12_text 157 = .ok (.getfield 108, 3) := by decide +kernel
theorem dX12_text_160 : decode cX12_text 160 = .ok (.iload_n 1, 1) := by decide +kernel
theorem dX12_text_161 : decode cX12_text 161 = .ok (.aload_n 0, 1) := by decide +kernel
theorem dX12_text_162 : decode cX12_text 162 = .ok (.getfield 367, 3) := by decide +kernel
theorem dX12_text_165 : decode cX12_text 165 = .ok (.iastore, 1) := by decide +kernel
theorem dX12_text_166 : decode cX12_text 166 = .ok (.iconst 0, 1) := by decide +kernel
theorem dX12_text_167 : decode cX12_text 167 = .ok (.istore_n 3, 1) := by decide +kernel
theorem dX12_text_168 : decode cX12_text 168 = .ok (.iload_n 3, 1) := by decide +kernel
theorem dX12_text_169 : decode cX12_text 169 = .ok (.aload_n 0, 1) := by decide +kernel
theorem dX12_text_170 : decode cX12_text 170 = .ok (.getfield 367, 3) := by decide +kernel
theorem dX12_text_173 : decode cX12_text 173 = .ok (.if_icmp .ge 145, 3) := by decide +kernel
theorem dX12_text_176 : decode cX12_text 176 = .ok (.bipush 16, 2) := by decide +kernel
theorem dX12_text_178 : decode cX12_text 178 = .ok (.iload_n 1, 1) := by decide +kernel
theorem dX12_text_179 : decode cX12_text 179 = .ok (.imul, 1) := by decide +kernel
theorem dX12_text_180 : decode cX12_text 180 = .ok (.iload_n 3, 1) := by decide +kernel
theorem dX12_text_181 : decode cX12_text 181 = .ok (.iadd, 1) := by decide +kernel
theorem dX12_text_182 : decode cX12_text 182 = .ok (.istore 4, 2) := by decide +kernel
theorem dX12_text_184 : decode cX12_text 184 = .ok (.aload_n 0, 1) := by decide +kernel
theorem dX12_text_185 : decode cX12_text 185 = .ok (.getfield 111, 3) := by decide +kernel
theorem dX12_text_188 : decode cX12_text 188 = .ok (.iload 4, 2) := by decide +kernel
theorem dX12_text_190 : decode cX12_text 190 = .ok (.aload_n 0, 1) := by decide +kernel
theorem dX12_text_191 : decode cX12_text 191 = .ok (.getfield 141, 3) := by decide +kernel
theorem dX12_text_194 : decode cX12_text 194 = .ok (.iload_n 3, 1) := by decide +kernel
theorem dX12_text_195 : decode cX12_text 195 = .ok (.iaload, 1) := by decide +kernel
theorem dX12_text_196 : decode cX12_text 196 = .ok (.iastore, 1) := by decide +kernel
theorem dX12_text_197 : decode cX12_text 197 = .ok (.aload_n 0, 1) := by decide +kernel
theorem dX12_text_198 : decode cX12_text 198 = .ok (.getfield 114, 3) := by decide +kernel
theorem dX12_text_201 : decode cX12_text 201 = .ok (.iload 4, 2) := by decide +kernel
theorem dX12_text_203 : decode cX12_text 203 = .ok (.aload_n 0, 1) := by decide +kernel
theorem dX12_text_204 : decode cX12_text 204 = .ok (.getfield 144, 3) := by decide +kernel
theorem dX12_text_207 : decode cX12_text 207 = .ok (.iload_n 3, 1) := by decide +kernel
theorem dX12_text_208 : decode cX12_text 208 = .ok (.iaload, 1) := by decide +kernel
theorem dX12_text_209 : decode cX12_text 209 = .ok (.iastore, 1) := by decide +kernel
theorem dX12_text_210 : decode cX12_text 210 = .ok (.aload_n 0, 1) := by decide +kernel
theorem dX12_text_211 : decode cX12_text 211 = .ok (.getfield 117, 3) := by decide +kernel
theorem dX12_text_214 : decode cX12_text 214 = .ok (.iload 4, 2) := by decide +kernel
theorem dX12_text_216 : decode cX12_text 216 = .ok (.aload_n 0, 1) := by decide +kernel
theorem dX12_text_217 : decode cX12_text 217 = .ok (.getfield 147, 3) := by decide +kernel
theorem dX12_text_220 : decode cX12_text 220 = .ok (.iload_n 3, 1) := by decide +kernel
theorem dX12_text_221 : decode cX12_text 221 = .ok (.iaload, 1) := by decide +kernel
theorem dX12_text_222 : decode cX12_text 222 = .ok (.iastore, 1) := by decide +kernel
theorem dX12_text_223 : decode cX12_text 223 = .ok (.iconst 0, 1) := by decide +kernel
theorem dX12_text_224 : decode cX12_text 224 = .ok (.istore 5, 2) := by decide +kernel
theorem dX12_text_226 : decode cX12_text 226 = .ok (.iload 5, 2) := by decide +kernel
theorem dX12_text_228 : decode cX12_text 228 = .ok (.aload_n 0, 1) := by decide +kernel
theorem dX12_text_229 : decode cX12_text 229 = .ok (.getfield 141, 3) := by decide +kernel
theorem dX12_text_232 : decode cX12_text 232 = .ok (.iload_n 3, 1) := by decide +kernel
theorem dX12_text_233 : decode cX12_text 233 = .ok (.iaload, 1) := by decide +kernel
theorem dX12_text_234 : decode cX12_text 234 = .ok (.if_icmp .ge 78, 3) := by decide +kernel
theorem dX12_text_237 : decode cX12_text 237 = .ok (.aload_n 0, 1) := by decide +kernel
theorem dX12_text_238 : decode cX12_text 238 = .ok (.getfield 120, 3) := by decide +kernel
theorem dX12_text_241 : decode cX12_text 241 = .ok (.iconst 4, 1) := by decide +kernel
theorem dX12_text_242 : decode cX12_text 242 = .ok (.iload 4, 2) := by decide +kernel
theorem dX12_text_244 : decode cX12_text 244 = .ok (.imul, 1) := by decide +kernel
theorem dX12_text_245 : decode cX12_text 245 = .ok (.iload 5, 2) := by decide +kernel
theorem dX12_text_247 : decode cX12_text 247 = .ok (.iadd, 1) := by decide +kernel
theorem dX12_text_248 : decode cX12_text 248 = .ok (.aload_n 0, 1) := by decide +kernel
theorem dX12_text_249 : decode cX12_text 249 = .ok (.getfield 150, 3) := by decide +kernel
theorem dX12_text_252 : decode cX12_text 252 = .ok (.iconst 4, 1) := by decide +kernel
theorem dX12_text_253 : decode cX12_text 253 = .ok (.iload_n 3, 1) := by decide +kernel
theorem dX12_text_254 : decode cX12_text 254 = .ok (.imul, 1) := by decide +kernel
theorem dX12_text_255 : decode cX12_text 255 = .ok (.iload 5, 2) := by decide +kernel
theorem dX12_text_257 : decode cX12_text 257 = .ok (.iadd, 1) := by decide +kernel
theorem dX12_text_258 : decode cX12_text 258 = .ok (.iaload, 1) := by decide +kernel
theorem dX12_text_259 : decode cX12_text 259 = .ok (.iastore, 1) := by decide +kernel
theorem dX12_text_260 : decode cX12_text 260 = .ok (.aload_n 0, 1) := by decide +kernel
theorem dX12_text_261 : decode cX12_text 261 = .ok (.getfield 123, 3) := by decide +kernel
theorem dX12_text_264 : decode cX12_text 264 = .ok (.iconst 4, 1) := by decide +kernel
theorem dX12_text_265 : decode cX12_text 265 = .ok (.iload 4, 2) := by decide +kernel
theorem dX12_text_267 : decode cX12_text 267 = .ok (.imul, 1) := by decide +kernel
theorem dX12_text_268 : decode cX12_text 268 = .ok (.iload 5, 2) := by decide +kernel
theorem dX12_text_270 : decode cX12_text 270 = .ok (.iadd, 1) := by decide +kernel
theorem dX12_text_271 : decode cX12_text 271 = .ok (.aload_n 0, 1) := by decide +kernel
theorem dX12_text_272 : decode cX12_text 272 = .ok (.getfield 153, 3) := by decide +kernel
theorem dX12_text_275 : decode cX12_text 275 = .ok (.iconst 4, 1) := by decide +kernel
theorem dX12_text_276 : decode cX12_text 276 = .ok (.iload_n 3, 1) := by decide +kernel
theorem dX12_text_277 : decode cX12_text 277 = .ok (.imul, 1) := by decide +kernel
theorem dX12_text_278 : decode cX12_text 278 = .ok (.iload 5, 2) := by decide +kernel
theorem dX12_text_280 : decode cX12_text 280 = .ok (.iadd, 1) := by decide +kernel
theorem dX12_text_281 : decode cX12_text 281 = .ok (.iaload, 1) := by decide +kernel
theorem dX12_text_282 : decode cX12_text 282 = .ok (.iastore, 1) := by decide +kernel
theorem dX12_text_283 : decode cX12_text 283 = .ok (.aload_n 0, 1) := by decide +kernel
theorem dX12_text_284 : decode cX12_text 284 = .ok (.getfield 126, 3) := by decide +kernel
theorem dX12_text_287 : decode cX12_text 287 = .ok (.iconst 4, 1) := by decide +kernel
theorem dX12_text_288 : decode cX12_text 288 = .ok (.iload 4, 2) := by decide +kernel
theorem dX12_text_290 : decode cX12_text 290 = .ok (.imul, 1) := by decide +kernel
theorem dX12_text_291 : decode cX12_text 291 = .ok (.iload 5, 2) := by decide +kernel
theorem dX12_text_293 : decode cX12_text 293 = .ok (.iadd, 1) := by decide +kernel
theorem dX12_text_294 : decode cX12_text 294 = .ok (.aload_n 0, 1) := by decide +kernel
theorem dX12_text_295 : decode cX12_text 295 = .ok (.getfield 156, 3) := by decide +kernel
theorem dX12_text_298 : decode cX12_text 298 = .ok (.iconst 4, 1) := by decide +kernel
theorem dX12_text_299 : decode cX12_text 299 = .ok (.iload_n 3, 1) := by decide +kernel
theorem dX12_text_300 : decode cX12_text 300 = .ok (.imul, 1) := by decide +kernel
theorem dX12_text_301 : decode cX12_text 301 = .ok (.iload 5, 2) := by decide +kernel
theorem dX12_text_303 : decode cX12_text 303 = .ok (.iadd, 1) := by decide +kernel
theorem dX12_text_304 : decode cX12_text 304 = .ok (.iaload, 1) := by decide +kernel
theorem dX12_text_305 : decode cX12_text 305 = .ok (.iastore, 1) := by decide +kernel
theorem dX12_text_306 : decode cX12_text 306 = .ok (.iinc 5 1, 3) := by decide +kernel
theorem dX12_text_309 : decode cX12_text 309 = .ok (.goto (-83), 3) := by decide +kernel
theorem dX12_text_312 : decode cX12_text 312 = .ok (.iinc 3 1, 3) := by decide +kernel
theorem dX12_text_315 : decode cX12_text 315 = .ok (.goto (-147), 3) := by decide +kernel
theorem dX12_text_318 : decode cX12_text 318 = .ok (.aload_n 0, 1) := by decide +kernel
theorem dX12_text_319 : decode cX12_text 319 = .ok (.getfield 367, 3) := by decide +kernel
theorem dX12_text_322 : decode cX12_text 322 = .ok (.ireturn, 1) := by decide +kernel
theorem dX12_fault_0 : decode cX12_fault 0 = .ok (.aload_n 0, 1) := by decide +kernel
theorem dX12_fault_1 : decode cX12_fault 1 = .ok (.iconst 0, 1) := by decide +kernel
theorem dX12_fault_2 : decode cX12_fault 2 = .ok (.putfield 202, 3) := by decide +kernel
theorem dX12_fault_5 : decode cX12_fault 5 = .ok (.iload_n 1, 1) := by decide +kernel
theorem dX12_fault_6 : decode cX12_fault 6 = .ok (.ifCond .ne 12, 3) := by decide +kernel
theorem dX12_fault_9 : decode cX12_fault 9 = .ok (.aload_n 0, 1) := by decide +kernel
theorem dX12_fault_10 : decode cX12_fault 10 = .ok (.getfield 17, 3) := by decide +kernel
theorem dX12_fault_13 : decode cX12_fault 13 = .ok (.iconst 0, 1) := by decide +kernel
theorem dX12_fault_14 : decode cX12_fault 14 = .ok (.iaload, 1) := by decide +kernel
theorem dX12_fault_15 : decode cX12_fault 15 = .ok (.goto 18, 3) := by decide +kernel
theorem dX12_fault_18 : decode cX12_fault 18 = .ok (.iload_n 1, 1) := by decide +kernel
theorem dX12_fault_19 : decode cX12_fault 19 = .ok (.iconst 1, 1) := by decide +kernel
theorem dX12_fault_20 : decode cX12_fault 20 = .ok (.if_icmp .ne 12, 3) := by decide +kernel
theorem dX12_fault_23 : decode cX12_fault 23 = .ok (.aload_n 0, 1) := by decide +kernel
theorem dX12_fault_24 : decode cX12_fault 24 = .ok (.getfield 20, 3) := by decide +kernel
theorem dX12_fault_27 : decode cX12_fault 27 = .ok (.iconst 0, 1) := by decide +kernel
theorem dX12_fault_28 : decode cX12_fault 28 = .ok (.iaload, 1) := by decide +kernel
theorem dX12_fault_29 : decode cX12_fault 29 = .ok (.goto 4, 3) := by decide +kernel
theorem dX12_fault_32 : decode cX12_fault 32 = .ok (.iconst (-1), 1) := by decide +kernel
theorem dX12_fault_33 : decode cX12_fault 33 = .ok (.ireturn, 1) := by decide +kernel
theorem dX12_apart_0 : decode cX12_apart 0 = .ok (.iload_n 0, 1) := by decide +kernel
theorem dX12_apart_1 : decode cX12_apart 1 = .ok (.iload_n 1, 1) := by decide +kernel
theorem dX12_apart_2 : decode cX12_apart 2 = .ok (.if_icmp .ge 9, 3) := by decide +kernel
theorem dX12_apart_5 : decode cX12_apart 5 = .ok (.iload_n 1, 1) := by decide +kernel
theorem dX12_apart_6 : decode cX12_apart 6 = .ok (.iload_n 0, 1) := by decide +kernel
theorem dX12_apart_7 : decode cX12_apart 7 = .ok (.isub, 1) := by decide +kernel
theorem dX12_apart_8 : decode cX12_apart 8 = .ok (.goto 6, 3) := by decide +kernel
theorem dX12_apart_11 : decode cX12_apart 11 = .ok (.iload_n 0, 1) := by decide +kernel
theorem dX12_apart_12 : decode cX12_apart 12 = .ok (.iload_n 1, 1) := by decide +kernel
theorem dX12_apart_13 : decode cX12_apart 13 = .ok (.isub, 1) := by decide +kernel
theorem dX12_apart_14 : decode cX12_apart 14 = .ok (.ireturn, 1) := by decide +kernel
theorem dX12_hasElder_0 : decode cX12_hasElder 0 = .ok (.iconst 0, 1) := by decide +kernel
theorem dX12_hasElder_1 : decode cX12_hasElder 1 = .ok (.istore_n 2, 1) := by decide +kernel
theorem dX12_hasElder_2 : decode cX12_hasElder 2 = .ok (.iload_n 2, 1) := by decide +kernel
theorem dX12_hasElder_3 : decode cX12_hasElder 3 = .ok (.aload_n 0, 1) := by decide +kernel
theorem dX12_hasElder_4 : decode cX12_hasElder 4 = .ok (.getfield 44, 3) := by decide +kernel
theorem dX12_hasElder_7 : decode cX12_hasElder 7 = .ok (.iconst 0, 1) := by decide +kernel
theorem dX12_hasElder_8 : decode cX12_hasElder 8 = .ok (.iaload, 1) := by decide +kernel
theorem dX12_hasElder_9 : decode cX12_hasElder 9 = .ok (.if_icmp .ge 103, 3) := by decide +kernel
theorem dX12_hasElder_12 : decode cX12_hasElder 12 = .ok (.aload_n 0, 1) := by decide +kernel
theorem dX12_hasElder_13 : decode cX12_hasElder 13 = .ok (.getfield 56, 3) := by decide +kernel
theorem dX12_hasElder_16 : decode cX12_hasElder 16 = .ok (.iload_n 2, 1) := by decide +kernel
theorem dX12_hasElder_17 : decode cX12_hasElder 17 = .ok (.iaload, 1) := by decide +kernel
theorem dX12_hasElder_18 : decode cX12_hasElder 18 = .ok (.aload_n 0, 1) := by decide +kernel
theorem dX12_hasElder_19 : decode cX12_hasElder 19 = .ok (.getfield 56, 3) := by decide +kernel
theorem dX12_hasElder_22 : decode cX12_hasElder 22 = .ok (.iload_n 1, 1) := by decide +kernel
theorem dX12_hasElder_23 : decode cX12_hasElder 23 = .ok (.iaload, 1) := by decide +kernel
theorem dX12_hasElder_24 : decode cX12_hasElder 24 = .ok (.if_icmp .lt 23, 3) := by decide +kernel
theorem dX12_hasElder_27 : decode cX12_hasElder 27 = .ok (.aload_n 0, 1) := by decide +kernel
theorem dX12_hasElder_28 : decode cX12_hasElder 28 = .ok (.getfield 56, 3) := by decide +kernel
theorem dX12_hasElder_31 : decode cX12_hasElder 31 = .ok (.iload_n 2, 1) := by decide +kernel
theorem dX12_hasElder_32 : decode cX12_hasElder 32 = .ok (.iaload, 1) := by decide +kernel
theorem dX12_hasElder_33 : decode cX12_hasElder 33 = .ok (.aload_n 0, 1) := by decide +kernel
theorem dX12_hasElder_34 : decode cX12_hasElder 34 = .ok (.getfield 56, 3) := by decide +kernel
theorem dX12_hasElder_37 : decode cX12_hasElder 37 = .ok (.iload_n 1, 1) := by decide +kernel
theorem dX12_hasElder_38 : decode cX12_hasElder 38 = .ok (.iaload, 1) := by decide +kernel
theorem dX12_hasElder_39 : decode cX12_hasElder 39 = .ok (.if_icmp .ne 12, 3) := by decide +kernel
theorem dX12_hasElder_42 : decode cX12_hasElder 42 = .ok (.iload_n 2, 1) := by decide +kernel
theorem dX12_hasElder_43 : decode cX12_hasElder 43 = .ok (.iload_n 1, 1) := by decide +kernel
theorem dX12_hasElder_44 : decode cX12_hasElder 44 = .ok (.if_icmp .ge 7, 3) := by decide +kernel
theorem dX12_hasElder_47 : decode cX12_hasElder 47 = .ok (.iconst 1, 1) := by decide +kernel
theorem dX12_hasElder_48 : decode cX12_hasElder 48 = .ok (.goto 4, 3) := by decide +kernel
theorem dX12_hasElder_51 : decode cX12_hasElder 51 = .ok (.iconst 0, 1) := by decide +kernel
theorem dX12_hasElder_52 : decode cX12_hasElder 52 = .ok (.istore_n 3, 1) := by decide +kernel
theorem dX12_hasElder_53 : decode cX12_hasElder 53 = .ok (.iload_n 2, 1) := by decide +kernel
theorem dX12_hasElder_54 : decode cX12_hasElder 54 = .ok (.iload_n 1, 1) := by decide +kernel
theorem dX12_hasElder_55 : decode cX12_hasElder 55 = .ok (.if_icmp .eq 51, 3) := by decide +kernel
theorem dX12_hasElder_58 : decode cX12_hasElder 58 = .ok (.aload_n 0, 1) := by decide +kernel
theorem dX12_hasElder_59 : decode cX12_hasElder 59 = .ok (.getfield 47, 3) := by decide +kernel
theorem dX12_hasElder_62 : decode cX12_hasElder 62 = .ok (.iload_n 2, 1) := by decide +kernel
theorem dX12_hasElder_63 : decode cX12_hasElder 63 = .ok (.iaload, 1) := by decide +kernel
theorem dX12_hasElder_64 : decode cX12_hasElder 64 = .ok (.aload_n 0, 1) := by decide +kernel
theorem dX12_hasElder_65 : decode cX12_hasElder 65 = .ok (.getfield 47, 3) := by decide +kernel
theorem dX12_hasElder_68 : decode cX12_hasElder 68 = .ok (.iload_n 1, 1) := by decide +kernel
theorem dX12_hasElder_69 : decode cX12_hasElder 69 = .ok (.iaload, 1) := by decide +kernel
theorem dX12_hasElder_70 : decode cX12_hasElder 70 = .ok (.if_icmp .ne 36, 3) := by decide +kernel
theorem dX12_hasElder_73 : decode cX12_hasElder 73 = .ok (.aload_n 0, 1) := by decide +kernel
theorem dX12_hasElder_74 : decode cX12_hasElder 74 = .ok (.getfield 50, 3) := by decide +kernel
theorem dX12_hasElder_77 : decode cX12_hasElder 77 = .ok (.iload_n 2, 1) := by decide +kernel
theorem dX12_hasElder_78 : decode cX12_hasElder 78 = .ok (.iaload, 1) := by decide +kernel
theorem dX12_hasElder_79 : decode cX12_hasElder 79 = .ok (.ifCond .ne 27, 3) := by decide +kernel
theorem dX12_hasElder_82 : decode cX12_hasElder 82 = .ok (.aload_n 0, 1) := by decide +kernel
theorem dX12_hasElder_83 : decode cX12_hasElder 83 = .ok (.getfield 59, 3) := by decide +kernel
theorem dX12_hasElder_86 : decode cX12_hasElder 86 = .ok (.iload_n 2, 1) := by decide +kernel
theorem dX12_hasElder_87 : decode cX12_hasElder 87 = .ok (.baload, 1) := by decide +kernel
theorem dX12_hasElder_88 : decode cX12_hasElder 88 = .ok (.ifCond .ne 18, 3) := by decide +kernel
theorem dX12_hasElder_91 : decode cX12_hasElder 91 = .ok (.aload_n 0, 1) := by decide +kernel
theorem dX12_hasElder_92 : decode cX12_hasElder 92 = .ok (.getfield 69, 3) := by decide +kernel
theorem dX12_hasElder_95 : decode cX12_hasElder 95 = .ok (.iload_n 2, 1) := by decide +kernel
theorem dX12_hasElder_96 : decode cX12_hasElder 96 = .ok (.baload, 1) := by decide +kernel
theorem dX12_hasElder_97 : decode cX12_hasElder 97 = .ok (.ifCond .ne 9, 3) := by decide +kernel
theorem dX12_hasElder_100 : decode cX12_hasElder 100 = .ok (.iload_n 3, 1) := by decide +kernel
theorem dX12_hasElder_101 : decode cX12_hasElder 101 = .ok (.ifCond .eq 5, 3) := by decide +kernel
theorem dX12_hasElder_104 : decode cX12_hasElder 104 = .ok (.iconst 1, 1) := by decide +kernel
theorem dX12_hasElder_105 : decode cX12_hasElder 105 = .ok (.ireturn, 1) := by decide +kernel
theorem dX12_hasElder_106 : decode cX12_hasElder 106 = .ok (.iinc 2 1, 3) := by decide +kernel
theorem dX12_hasElder_109 : decode cX12_hasElder 109 = .ok (.goto (-107), 3) := by decide +kernel
theorem dX12_hasElder_112 : decode cX12_hasElder 112 = .ok (.iconst 0, 1) := by decide +kernel
theorem dX12_hasElder_113 : decode cX12_hasElder 113 = .ok (.ireturn, 1) := by decide +kernel
theorem dX12_lookAt_0 : decode cX12_lookAt 0 = .ok (.aload_n 0, 1) := by decide +kernel
theorem dX12_lookAt_1 : decode cX12_lookAt 1 = .ok (.getfield 47, 3) := by decide +kernel
theorem dX12_lookAt_4 : decode cX12_lookAt 4 = .ok (.iload_n 1, 1) := by decide +kernel
theorem dX12_lookAt_5 : decode cX12_lookAt 5 = .ok (.iaload, 1) := by decide +kernel
theorem dX12_lookAt_6 : decode cX12_lookAt 6 = .ok (.istore 4, 2) := by decide +kernel
theorem dX12_lookAt_8 : decode cX12_lookAt 8 = .ok (.aload_n 0, 1) := by decide +kernel
theorem dX12_lookAt_9 : decode cX12_lookAt 9 = .ok (.getfield 47, 3) := by decide +kernel
theorem dX12_lookAt_12 : decode cX12_lookAt 12 = .ok (.iload_n 2, 1) := by decide +kernel
theorem dX12_lookAt_13 : decode cX12_lookAt 13 = .ok (.iaload, 1) := by decide +kernel
theorem dX12_lookAt_14 : decode cX12_lookAt 14 = .ok (.istore 5, 2) := by decide +kernel
theorem dX12_lookAt_16 : decode cX12_lookAt 16 = .ok (.aload_n 0, 1) := by decide +kernel
theorem dX12_lookAt_17 : decode cX12_lookAt 17 = .ok (.getfield 159, 3) := by decide +kernel
theorem dX12_lookAt_20 : decode cX12_lookAt 20 = .ok (.iconst 0, 1) := by decide +kernel
theorem dX12_lookAt_21 : decode cX12_lookAt 21 = .ok (.aload_n 0, 1) := by decide +kernel
theorem dX12_lookAt_22 : decode cX12_lookAt 22 = .ok (.getfield 32, 3) := by decide +kernel
theorem dX12_lookAt_25 : decode cX12_lookAt 25 = .ok (.iload 4, 2) := by decide +kernel
theorem dX12_lookAt_27 : decode cX12_lookAt 27 = .ok (.iaload, 1) := by decide +kernel
theorem dX12_lookAt_28 : decode cX12_lookAt 28 = .ok (.aload_n 0, 1) := by decide +kernel
theorem dX12_lookAt_29 : decode cX12_lookAt 29 = .ok (.getfield 32, 3) := by decide +kernel
theorem dX12_lookAt_32 : decode cX12_lookAt 32 = .ok (.iload 5, 2) := by decide +kernel
theorem dX12_lookAt_34 : decode cX12_lookAt 34 = .ok (.iaload, 1) := by decide +kernel
theorem dX12_lookAt_35 : decode cX12_lookAt 35 = .ok (.if_icmp .ne 7, 3) := by decide +kernel
theorem dX12_lookAt_38 : decode cX12_lookAt 38 = .ok (.iconst 1, 1) := by decide +kernel
theorem dX12_lookAt_39 : decode cX12_lookAt 39 = .ok (.goto 4, 3) := by decide +kernel
theorem dX12_lookAt_42 : decode cX12_lookAt 42 = .ok (.iconst 0, 1) := by decide +kernel
theorem dX12_lookAt_43 : decode cX12_lookAt 43 = .ok (.iastore, 1) := by decide +kernel
theorem dX12_lookAt_44 : decode cX12_lookAt 44 = .ok (.aload_n 0, 1) := by decide +kernel
theorem dX12_lookAt_45 : decode cX12_lookAt 45 = .ok (.getfield 159, 3) := by decide +kernel
theorem dX12_lookAt_48 : decode cX12_lookAt 48 = .ok (.iconst 1, 1) := by decide +kernel
theorem dX12_lookAt_49 : decode cX12_lookAt 49 = .ok (.aload_n 0, 1) := by decide +kernel
theorem dX12_lookAt_50 : decode cX12_lookAt 50 = .ok (.getfield 35, 3) := by decide +kernel
theorem dX12_lookAt_53 : decode cX12_lookAt 53 = .ok (.iload 4, 2) := by decide +kernel
theorem dX12_lookAt_55 : decode cX12_lookAt 55 = .ok (.iaload, 1) := by decide +kernel
theorem dX12_lookAt_56 : decode cX12_lookAt 56 = .ok (.aload_n 0, 1) := by decide +kernel
theorem dX12_lookAt_57 : decode cX12_lookAt 57 = .ok (.getfield 35, 3) := by decide +kernel
theorem dX12_lookAt_60 : decode cX12_lookAt 60 = .ok (.iload 5, 2) := by decide +kernel
theorem dX12_lookAt_62 : decode cX12_lookAt 62 = .ok (.iaload, 1) := by decide +kernel
theorem dX12_lookAt_63 : decode cX12_lookAt 63 = .ok (.if_icmp .ne 7, 3) := by decide +kernel
theorem dX12_lookAt_66 : decode cX12_lookAt 66 = .ok (.iconst 1, 1) := by decide +kernel
theorem dX12_lookAt_67 : decode cX12_lookAt 67 = .ok (.goto 4, 3) := by decide +kernel
theorem dX12_lookAt_70 : decode cX12_lookAt 70 = .ok (.iconst 0, 1) := by decide +kernel
theorem dX12_lookAt_71 : decode cX12_lookAt 71 = .ok (.iastore, 1) := by decide +kernel
theorem dX12_lookAt_72 : decode cX12_lookAt 72 = .ok (.aload_n 0, 1) := by decide +kernel
theorem dX12_lookAt_73 : decode cX12_lookAt 73 = .ok (.getfield 159, 3) := by decide +kernel
theorem dX12_lookAt_76 : decode cX12_lookAt 76 = .ok (.iconst 2, 1) := by decide +kernel
theorem dX12_lookAt_77 : decode cX12_lookAt 77 = .ok (.aload_n 0, 1) := by decide +kernel
theorem dX12_lookAt_78 : decode cX12_lookAt 78 = .ok (.iload 4, 2) := by decide +kernel
theorem dX12_lookAt_80 : decode cX12_lookAt 80 = .ok (.iload 5, 2) := by decide +kernel
theorem dX12_lookAt_82 : decode cX12_lookAt 82 = .ok (.invokevirtual 233, 3) := by decide +kernel
theorem dX12_lookAt_85 : decode cX12_lookAt 85 = .ok (.ifCond .eq 7, 3) := by decide +kernel
theorem dX12_lookAt_88 : decode cX12_lookAt 88 = .ok (.iconst 1, 1) := by decide +kernel
theorem dX12_lookAt_89 : decode cX12_lookAt 89 = .ok (.goto 4, 3) := by decide +kernel
theorem dX12_lookAt_92 : decode cX12_lookAt 92 = .ok (.iconst 0, 1) := by decide +kernel
theorem dX12_lookAt_93 : decode cX12_lookAt 93 = .ok (.iastore, 1) := by decide +kernel
theorem dX12_lookAt_94 : decode cX12_lookAt 94 = .ok (.aload_n 0, 1) := by decide +kernel
theorem dX12_lookAt_95 : decode cX12_lookAt 95 = .ok (.getfield 159, 3) := by decide +kernel
theorem dX12_lookAt_98 : decode cX12_lookAt 98 = .ok (.iconst 3, 1) := by decide +kernel
theorem dX12_lookAt_99 : decode cX12_lookAt 99 = .ok (.aload_n 0, 1) := by decide +kernel
theorem dX12_lookAt_100 : decode cX12_lookAt 100 = .ok (.getfield 66, 3) := by decide +kernel
theorem dX12_lookAt_103 : decode cX12_lookAt 103 = .ok (.iload_n 1, 1) := by decide +kernel
theorem dX12_lookAt_104 : decode cX12_lookAt 104 = .ok (.baload, 1) := by decide +kernel
theorem dX12_lookAt_105 : decode cX12_lookAt 105 = .ok (.ifCond .eq 7, 3) := by decide +kernel
theorem dX12_lookAt_108 : decode cX12_lookAt 108 = .ok (.iconst 1, 1) := by decide +kernel
theorem dX12_lookAt_109 : decode cX12_lookAt 109 = .ok (.goto 4, 3) := by decide +kernel
theorem dX12_lookAt_112 : decode cX12_lookAt 112 = .ok (.iconst 0, 1) := by decide +kernel
theorem dX12_lookAt_113 : decode cX12_lookAt 113 = .ok (.iastore, 1) := by decide +kernel
theorem dX12_lookAt_114 : decode cX12_lookAt 114 = .ok (.aload_n 0, 1) := by decide +kernel
theorem dX12_lookAt_115 : decode cX12_lookAt 115 = .ok (.getfield 159, 3) := by decide +kernel
theorem dX12_lookAt_118 : decode cX12_lookAt 118 = .ok (.iconst 4, 1) := by decide +kernel
theorem dX12_lookAt_119 : decode cX12_lookAt 119 = .ok (.aload_n 0, 1) := by decide +kernel
theorem dX12_lookAt_120 : decode cX12_lookAt 120 = .ok (.iload_n 1, 1) := by decide +kernel
theorem dX12_lookAt_121 : decode cX12_lookAt 121 = .ok (.invokevirtual 388, 3) := by decide +kernel
theorem dX12_lookAt_124 : decode cX12_lookAt 124 = .ok (.ifCond .eq 7, 3) := by decide +kernel
theorem dX12_lookAt_127 : decode cX12_lookAt 127 = .ok (.iconst 1, 1) := by decide +kernel
theorem dX12_lookAt_128 : decode cX12_lookAt 128 = .ok (.goto 4, 3) := by decide +kernel
theorem dX12_lookAt_131 : decode cX12_lookAt 131 = .ok (.iconst 0, 1) := by decide +kernel
theorem dX12_lookAt_132 : decode cX12_lookAt 132 = .ok (.iastore, 1) := by decide +kernel
theorem dX12_lookAt_133 : decode cX12_lookAt 133 = .ok (.aload_n 0, 1) := by decide +kernel
theorem dX12_lookAt_134 : decode cX12_lookAt 134 = .ok (.getfield 53, 3) := by decide +kernel
theorem dX12_lookAt_137 : decode cX12_lookAt 137 = .ok (.iload_n 1, 1) := by decide +kernel
theorem dX12_lookAt_138 : decode cX12_lookAt 138 = .ok (.iaload, 1) := by decide +kernel
theorem dX12_lookAt_139 : decode cX12_lookAt 139 = .ok (.aload_n 0, 1) := by decide +kernel
theorem dX12_lookAt_140 : decode cX12_lookAt 140 = .ok (.getfield 53, 3) := by decide +kernel
theorem dX12_lookAt_143 : decode cX12_lookAt 143 = .ok (.iload_n 2, 1) := by decide +kernel
theorem dX12_lookAt_144 : decode cX12_lookAt 144 = .ok (.iaload, 1) := by decide +kernel
theorem dX12_lookAt_145 : decode cX12_lookAt 145 = .ok (.invokestatic 391, 3) := by decide +kernel
theorem dX12_lookAt_148 : decode cX12_lookAt 148 = .ok (.istore 6, 2) := by decide +kernel
theorem dX12_lookAt_150 : decode cX12_lookAt 150 = .ok (.aload_n 0, 1) := by decide +kernel
theorem dX12_lookAt_151 : decode cX12_lookAt 151 = .ok (.getfield 159, 3) := by decide +kernel
theorem dX12_lookAt_154 : decode cX12_lookAt 154 = .ok (.iconst 5, 1) := by decide +kernel
theorem dX12_lookAt_155 : decode cX12_lookAt 155 = .ok (.iload 6, 2) := by decide +kernel
theorem dX12_lookAt_157 : decode cX12_lookAt 157 = .ok (.iconst 4, 1) := by decide +kernel
theorem dX12_lookAt_158 : decode cX12_lookAt 158 = .ok (.if_icmp .le 11, 3) := by decide +kernel
theorem dX12_lookAt_161 : decode cX12_lookAt 161 = .ok (.bipush 8, 2) := by decide +kernel
theorem dX12_lookAt_163 : decode cX12_lookAt 163 = .ok (.iload 6, 2) := by decide +kernel
theorem dX12_lookAt_165 : decode cX12_lookAt 165 = .ok (.isub, 1) := by decide +kernel
theorem dX12_lookAt_166 : decode cX12_lookAt 166 = .ok (.goto 5, 3) := by decide +kernel
theorem dX12_lookAt_169 : decode cX12_lookAt 169 = .ok (.iload 6, 2) := by decide +kernel
theorem dX12_lookAt_171 : decode cX12_lookAt 171 = .ok (.iastore, 1) := by decide +kernel
theorem dX12_lookAt_172 : decode cX12_lookAt 172 = .ok (.aload_n 0, 1) := by decide +kernel
theorem dX12_lookAt_173 : decode cX12_lookAt 173 = .ok (.getfield 159, 3) := by decide +kernel
theorem dX12_lookAt_176 : decode cX12_lookAt 176 = .ok (.bipush 6, 2) := by decide +kernel
theorem dX12_lookAt_178 : decode cX12_lookAt 178 = .ok (.aload_n 0, 1) := by decide +kernel
theorem dX12_lookAt_179 : decode cX12_lookAt 179 = .ok (.iload_n 1, 1) := by decide +kernel
theorem dX12_lookAt_180 : decode cX12_lookAt 180 = .ok (.iload_n 2, 1) := by decide +kernel
theorem dX12_lookAt_181 : decode cX12_lookAt 181 = .ok (.iload_n 3, 1) := by decide +kernel
theorem dX12_lookAt_182 : decode cX12_lookAt 182 = .ok (.aload_n 0, 1) := by decide +kernel
theorem dX12_lookAt_183 : decode cX12_lookAt 183 = .ok (.getfield 23, 3) := by decide +kernel
theorem dX12_lookAt_186 : decode cX12_lookAt 186 = .ok (.iconst 0, 1) := by decide +kernel
theorem dX12_lookAt_187 : decode cX12_lookAt 187 = .ok (.iaload, 1) := by decide +kernel
theorem dX12_lookAt_188 : decode cX12_lookAt 188 = .ok (.invokevirtual 265, 3) := by decide +kernel
theorem dX12_lookAt_191 : decode cX12_lookAt 191 = .ok (.iastore, 1) := by decide +kernel
theorem dX12_lookAt_192 : decode cX12_lookAt 192 = .ok (.aload_n 0, 1) := by decide +kernel
theorem dX12_lookAt_193 : decode cX12_lookAt 193 = .ok (.getfield 159, 3) := by decide +kernel
theorem dX12_lookAt_196 : decode cX12_lookAt 196 = .ok (.bipush 7, 2) := by decide +kernel
theorem dX12_lookAt_198 : decode cX12_lookAt 198 = .ok (.aload_n 0, 1) := by decide +kernel
theorem dX12_lookAt_199 : decode cX12_lookAt 199 = .ok (.iload_n 2, 1) := by decide +kernel
theorem dX12_lookAt_200 : decode cX12_lookAt 200 = .ok (.invokevirtual 275, 3) := by decide +kernel
theorem dX12_lookAt_203 : decode cX12_lookAt 203 = .ok (.iastore, 1) := by decide +kernel
theorem dX12_lookAt_204 : decode cX12_lookAt 204 = .ok (.aload_n 0, 1) := by decide +kernel
theorem dX12_lookAt_205 : decode cX12_lookAt 205 = .ok (.getfield 159, 3) := by decide +kernel
theorem dX12_lookAt_208 : decode cX12_lookAt 208 = .ok (.bipush 8, 2) := by decide +kernel
theorem dX12_lookAt_210 : decode cX12_lookAt 210 = .ok (.aload_n 0, 1) := by decide +kernel
theorem dX12_lookAt_211 : decode cX12_lookAt 211 = .ok (.iload_n 1, 1) := by decide +kernel
theorem dX12_lookAt_212 : decode cX12_lookAt 212 = .ok (.invokevirtual 275, 3) := by decide +kernel
theorem dX12_lookAt_215 : decode cX12_lookAt 215 = .ok (.iastore, 1) := by decide +kernel
theorem dX12_lookAt_216 : decode cX12_lookAt 216 = .ok (.aload_n 0, 1) := by decide +kernel
theorem dX12_lookAt_217 : decode cX12_lookAt 217 = .ok (.getfield 159, 3) := by decide +kernel
theorem dX12_lookAt_220 : decode cX12_lookAt 220 = .ok (.bipush 9, 2) := by decide +kernel
theorem dX12_lookAt_222 : decode cX12_lookAt 222 = .ok (.aload_n 0, 1) := by decide +kernel
theorem dX12_lookAt_223 : decode cX12_lookAt 223 = .ok (.iload_n 1, 1) := by decide +kernel
theorem dX12_lookAt_224 : decode cX12_lookAt 224 = .ok (.invokevirtual 275, 3) := by decide +kernel
theorem dX12_lookAt_227 : decode cX12_lookAt 227 = .ok (.aload_n 0, 1) := by decide +kernel
theorem dX12_lookAt_228 : decode cX12_lookAt 228 = .ok (.iload_n 2, 1) := by decide +kernel
theorem dX12_lookAt_229 : decode cX12_lookAt 229 = .ok (.invokevirtual 275, 3) := by decide +kernel
theorem dX12_lookAt_232 : decode cX12_lookAt 232 = .ok (.invokestatic 391, 3) := by decide +kernel
theorem dX12_lookAt_235 : decode cX12_lookAt 235 = .ok (.iastore, 1) := by decide +kernel
theorem dX12_lookAt_236 : decode cX12_lookAt 236 = .ok (.aload_n 0, 1) := by decide +kernel
theorem dX12_lookAt_237 : decode cX12_lookAt 237 = .ok (.getfield 159, 3) := by decide +kernel
theorem dX12_lookAt_240 : decode cX12_lookAt 240 = .ok (.bipush 10, 2) := by decide +kernel
theorem dX12_lookAt_242 : decode cX12_lookAt 242 = .ok (.aload_n 0, 1) := by decide +kernel
theorem dX12_lookAt_243 : decode cX12_lookAt 243 = .ok (.getfield 38, 3) := by decide +kernel
theorem dX12_lookAt_246 : decode cX12_lookAt 246 = .ok (.iload 5, 2) := by decide +kernel
theorem dX12_lookAt_248 : decode cX12_lookAt 248 = .ok (.iaload, 1) := by decide +kernel
theorem dX12_lookAt_249 : decode cX12_lookAt 249 = .ok (.iastore, 1) := by decide +kernel
theorem dX12_lookAt_250 : decode cX12_lookAt 250 = .ok (.return_, 1) := by decide +kernel
theorem dX12_holds_0 : decode cX12_holds 0 = .ok (.iconst 4, 1) := by decide +kernel
theorem dX12_holds_1 : decode cX12_holds 1 = .ok (.iload_n 1, 1) := by decide +kernel
theorem dX12_holds_2 : decode cX12_holds 2 = .ok (.imul, 1) := by decide +kernel
theorem dX12_holds_3 : decode cX12_holds 3 = .ok (.istore_n 2, 1) := by decide +kernel
theorem dX12_holds_4 : decode cX12_holds 4 = .ok (.iload_n 2, 1) := by decide +kernel
theorem dX12_holds_5 : decode cX12_holds 5 = .ok (.iconst 4, 1) := by decide +kernel
theorem dX12_holds_6 : decode cX12_holds 6 = .ok (.iload_n 1, 1) := by decide +kernel
theorem dX12_holds_7 : decode cX12_holds 7 = .ok (.imul, 1) := by decide +kernel
theorem dX12_holds_8 : decode cX12_holds 8 = .ok (.aload_n 0, 1) := by decide +kernel
theorem dX12_holds_9 : decode cX12_holds 9 = .ok (.getfield 111, 3) := by decide +kernel
theorem dX12_holds_12 : decode cX12_holds 12 = .ok (.iload_n 1, 1) := by decide +kernel
theorem dX12_holds_13 : decode cX12_holds 13 = .ok (.iaload, 1) := by decide +kernel
theorem dX12_holds_14 : decode cX12_holds 14 = .ok (.iadd, 1) := by decide +kernel
theorem dX12_holds_15 : decode cX12_holds 15 = .ok (.if_icmp .ge 118, 3) := by decide +kernel
theorem dX12_holds_18 : decode cX12_holds 18 = .ok (.aload_n 0, 1) := by decide +kernel
theorem dX12_holds_19 : decode cX12_holds 19 = .ok (.getfield 159, 3) := by decide +kernel
theorem dX12_holds_22 : decode cX12_holds 22 = .ok (.aload_n 0, 1) := by decide +kernel
theorem dX12_holds_23 : decode cX12_holds 23 = .ok (.getfield 120, 3) := by decide +kernel
theorem dX12_holds_26 : decode cX12_holds 26 = .ok (.iload_n 2, 1) := by decide +kernel
theorem dX12_holds_27 : decode cX12_holds 27 = .ok (.iaload, 1) := by decide +kernel
theorem dX12_holds_28 : decode cX12_holds 28 = .ok (.bipush 15, 2) := by decide +kernel
theorem dX12_holds_30 : decode cX12_holds 30 = .ok (.iand, 1) := by decide +kernel
theorem dX12_holds_31 : decode cX12_holds 31 = .ok (.iaload, 1) := by decide +kernel
theorem dX12_holds_32 : decode cX12_holds 32 = .ok (.istore_n 3, 1) := by decide +kernel
theorem dX12_holds_33 : decode cX12_holds 33 = .ok (.aload_n 0, 1) := by decide +kernel
theorem dX12_holds_34 : decode cX12_holds 34 = .ok (.getfield 126, 3) := by decide +kernel
theorem dX12_holds_37 : decode cX12_holds 37 = .ok (.iload_n 2, 1) := by decide +kernel
theorem dX12_holds_38 : decode cX12_holds 38 = .ok (.iaload, 1) := by decide +kernel
theorem dX12_holds_39 : decode cX12_holds 39 = .ok (.istore 4, 2) := by decide +kernel
theorem dX12_holds_41 : decode cX12_holds 41 = .ok (.aload_n 0, 1) := by decide +kernel
theorem dX12_holds_42 : decode cX12_holds 42 = .ok (.getfield 123, 3) := by decide +kernel
theorem dX12_holds_45 : decode cX12_holds 45 = .ok (.iload_n 2, 1) := by decide +kernel
theorem dX12_holds_46 : decode cX12_holds 46 = .ok (.iaload, 1) := by decide +kernel
theorem dX12_holds_47 : decode cX12_holds 47 = .ok (.bipush 60, 2) := by decide +kernel
theorem dX12_holds_49 : decode cX12_holds 49 = .ok (.if_icmp .ne 17, 3) := by decide +kernel
theorem dX12_holds_52 : decode cX12_holds 52 = .ok (.iload_n 3, 1) := by decide +kernel
theorem dX12_holds_53 : decode cX12_holds 53 = .ok (.iload 4, 2) := by decide +kernel
theorem dX12_holds_55 : decode cX12_holds 55 = .ok (.if_icmp .ge 7, 3) := by decide +kernel
theorem dX12_holds_58 : decode cX12_holds 58 = .ok (.iconst 1, 1) := by decide +kernel
theorem dX12_holds_59 : decode cX12_holds 59 = .ok (.goto 43, 3) := by decide +kernel
theorem dX12_holds_62 : decode cX12_holds 62 = .ok (.iconst 0, 1) := by decide +kernel
theorem dX12_holds_63 : decode cX12_holds 63 = .ok (.goto 39, 3) := by decide +kernel
theorem dX12_holds_66 : decode cX12_holds 66 = .ok (.aload_n 0, 1) := by decide +kernel
theorem dX12_holds_67 : decode cX12_holds 67 = .ok (.getfield 123, 3) := by decide +kernel
theorem dX12_holds_70 : decode cX12_holds 70 = .ok (.iload_n 2, 1) := by decide +kernel
theorem dX12_holds_71 : decode cX12_holds 71 = .ok (.iaload, 1) := by decide +kernel
theorem dX12_holds_72 : decode cX12_holds 72 = .ok (.bipush 62, 2) := by decide +kernel
theorem dX12_holds_74 : decode cX12_holds 74 = .ok (.if_icmp .ne 17, 3) := by decide +kernel
theorem dX12_holds_77 : decode cX12_holds 77 = .ok (.iload_n 3, 1) := by decide +kernel
theorem dX12_holds_78 : decode cX12_holds 78 = .ok (.iload 4, 2) := by decide +kernel
theorem dX12_holds_80 : decode cX12_holds 80 = .ok (.if_icmp .le 7, 3) := by decide +kernel
theorem dX12_holds_83 : decode cX12_holds 83 = .ok (.iconst 1, 1) := by decide +kernel
theorem dX12_holds_84 : decode cX12_holds 84 = .ok (.goto 18, 3) := by decide +kernel
theorem dX12_holds_87 : decode cX12_holds 87 = .ok (.iconst 0, 1) := by decide +kernel
theorem dX12_holds_88 : decode cX12_holds 88 = .ok (.goto 14, 3) := by decide +kernel
theorem dX12_holds_91 : decode cX12_holds 91 = .ok (.iload_n 3, 1) := by decide +kernel
theorem dX12_holds_92 : decode cX12_holds 92 = .ok (.iload 4, 2) := by decide +kernel
theorem dX12_holds_94 : decode cX12_holds 94 = .ok (.if_icmp .ne 7, 3) := by decide +kernel
theorem dX12_holds_97 : decode cX12_holds 97 = .ok (.iconst 1, 1) := by decide +kernel
theorem dX12_holds_98 : decode cX12_holds 98 = .ok (.goto 4, 3) := by decide +kernel
theorem dX12_holds_101 : decode cX12_holds 101 = .ok (.iconst 0, 1) := by decide +kernel
theorem dX12_holds_102 : decode cX12_holds 102 = .ok (.istore 5, 2) := by decide +kernel
theorem dX12_holds_104 : decode cX12_holds 104 = .ok (.iload 5, 2) := by decide +kernel
theorem dX12_holds_106 : decode cX12_holds 106 = .ok (.aload_n 0, 1) := by decide +kernel
theorem dX12_holds_107 : decode cX12_holds 107 = .ok (.getfield 120, 3) := by decide +kernel
theorem dX12_holds_110 : decode cX12_holds 110 = .ok (.iload_n 2, 1) := by decide +kernel
theorem dX12_holds_111 : decode cX12_holds 111 = .ok (.iaload, 1) := by decide +kernel
theorem dX12_holds_112 : decode cX12_holds 112 = .ok (.bipush 15, 2) := by decide +kernel
theorem dX12_holds_114 : decode cX12_holds 114 = .ok (.if_icmp .le 7, 3) := by decide +kernel
theorem dX12_holds_117 : decode cX12_holds 117 = .ok (.iconst 1, 1) := by decide +kernel
theorem dX12_holds_118 : decode cX12_holds 118 = .ok (.goto 4, 3) := by decide +kernel
theorem dX12_holds_121 : decode cX12_holds 121 = .ok (.iconst 0, 1) := by decide +kernel
theorem dX12_holds_122 : decode cX12_holds 122 = .ok (.if_icmp .ne 5, 3) := by decide +kernel
theorem dX12_holds_125 : decode cX12_holds 125 = .ok (.iconst 0, 1) := by decide +kernel
theorem dX12_holds_126 : decode cX12_holds 126 = .ok (.ireturn, 1) := by decide +kernel
theorem dX12_holds_127 : decode cX12_holds 127 = .ok (.iinc 2 1, 3) := by decide +kernel
theorem dX12_holds_130 : decode cX12_holds 130 = .ok (.goto (-126), 3) := by decide +kernel
theorem dX12_holds_133 : decode cX12_holds 133 = .ok (.iconst 1, 1) := by decide +kernel
theorem dX12_holds_134 : decode cX12_holds 134 = .ok (.ireturn, 1) := by decide +kernel
theorem dX12_readBy_0 : decode cX12_readBy 0 = .ok (.aload_n 0, 1) := by decide +kernel
theorem dX12_readBy_1 : decode cX12_readBy 1 = .ok (.iconst (-1), 1) := by decide +kernel
theorem dX12_readBy_2 : decode cX12_readBy 2 = .ok (.putfield 395, 3) := by decide +kernel
theorem dX12_readBy_5 : decode cX12_readBy 5 = .ok (.aload_n 0, 1) := by decide +kernel
theorem dX12_readBy_6 : decode cX12_readBy 6 = .ok (.iconst 0, 1) := by decide +kernel
theorem dX12_readBy_7 : decode cX12_readBy 7 = .ok (.putfield 398, 3) := by decide +kernel
theorem dX12_readBy_10 : decode cX12_readBy 10 = .ok (.aload_n 0, 1) := by decide +kernel
theorem dX12_readBy_11 : decode cX12_readBy 11 = .ok (.iconst 0, 1) := by decide +kernel
theorem dX12_readBy_12 : decode cX12_readBy 12 = .ok (.putfield 401, 3) := by decide +kernel
theorem dX12_readBy_15 : decode cX12_readBy 15 = .ok (.aload_n 0, 1) := by decide +kernel
theorem dX12_readBy_16 : decode cX12_readBy 16 = .ok (.iconst 0, 1) := by decide +kernel
theorem dX12_readBy_17 : decode cX12_readBy 17 = .ok (.putfield 404, 3) := by decide +kernel
theorem dX12_readBy_20 : decode cX12_readBy 20 = .ok (.iconst 0, 1) := by decide +kernel
theorem dX12_readBy_21 : decode cX12_readBy 21 = .ok (.istore_n 2, 1) := by decide +kernel
theorem dX12_readBy_22 : decode cX12_readBy 22 = .ok (.iload_n 2, 1) := by decide +kernel
theorem dX12_readBy_23 : decode cX12_readBy 23 = .ok (.aload_n 0, 1) := by decide +kernel
theorem dX12_readBy_24 : decode cX12_readBy 24 = .ok (.getfield 108, 3) := by decide +kernel
theorem dX12_readBy_27 : decode cX12_readBy 27 = .ok (.iload_n 1, 1) := by decide +kernel
theorem dX12_readBy_28 : decode cX12_readBy 28 = .ok (.iaload, 1) := by decide +kernel
theorem dX12_readBy_29 : decode cX12_readBy 29 = .ok (.if_icmp .ge 153, 3) := by decide +kernel
theorem dX12_readBy_32 : decode cX12_readBy 32 = .ok (.bipush 16, 2) := by decide +kernel
theorem dX12_readBy_34 : decode cX12_readBy 34 = .ok (.iload_n 1, 1) := by decide +kernel
theorem dX12_readBy_35 : decode cX12_readBy 35 = .ok (.imul, 1) := by decide +kernel
theorem dX12_readBy_36 : decode cX12_readBy 36 = .ok (.iload_n 2, 1) := by decide +kernel
theorem dX12_readBy_37 : decode cX12_readBy 37 = .ok (.iadd, 1) := by decide +kernel
theorem dX12_readBy_38 : decode cX12_readBy 38 = .ok (.istore_n 3, 1) := by decide +kernel
theorem dX12_readBy_39 : decode cX12_readBy 39 = .ok (.aload_n 0, 1) := by decide +kernel
theorem dX12_readBy_40 : decode cX12_readBy 40 = .ok (.iload_n 3, 1) := by decide +kernel
theorem dX12_readBy_41 : decode cX12_readBy 41 = .ok (.invokevirtual 407, 3) := by decide +kernel
theorem dX12_readBy_44 : decode cX12_readBy 44 = .ok (.ifCond .ne 6, 3) := by decide +kernel
theorem dX12_readBy_47 : decode cX12_readBy 47 = .ok (.goto 129, 3) := by decide +kernel
theorem dX12_readBy_50 : decode cX12_readBy 50 = .ok (.aload_n 0, 1) := by decide +kernel
theorem dX12_readBy_51 : decode cX12_readBy 51 = .ok (.getfield 117, 3) := by decide +kernel
theorem dX12_readBy_54 : decode cX12_readBy 54 = .ok (.iload_n 3, 1) := by decide +kernel
theorem dX12_readBy_55 : decode cX12_readBy 55 = .ok (.iaload, 1) := by decide +kernel
theorem dX12_readBy_56 : decode cX12_readBy 56 = .ok (.istore 4, 2) := by decide +kernel
theorem dX12_readBy_58 : decode cX12_readBy 58 = .ok (.aload_n 0, 1) := by decide +kernel
theorem dX12_readBy_59 : decode cX12_readBy 59 = .ok (.aload_n 0, 1) := by decide +kernel
theorem dX12_readBy_60 : decode cX12_readBy 60 = .ok (.getfield 114, 3) := by decide +kernel
theorem dX12_readBy_63 : decode cX12_readBy 63 = .ok (.iload_n 3, 1) := by decide +kernel
theorem dX12_readBy_64 : decode cX12_readBy 64 = .ok (.iaload, 1) := by decide +kernel
theorem dX12_readBy_65 : decode cX12_readBy 65 = .ok (.ifCond .ne 15, 3) := by decide +kernel
theorem dX12_readBy_68 : decode cX12_readBy 68 = .ok (.aload_n 0, 1) := by decide +kernel
theorem dX12_readBy_69 : decode cX12_readBy 69 = .ok (.getfield 395, 3) := by decide +kernel
theorem dX12_readBy_72 : decode cX12_readBy 72 = .ok (.iconst (-1), 1) := by decide +kernel
theorem dX12_readBy_73 : decode cX12_readBy 73 = .ok (.if_icmp .ne 7, 3) := by decide +kernel
theorem dX12_readBy_76 : decode cX12_readBy 76 = .ok (.iload_n 2, 1) := by decide +kernel
theorem dX12_readBy_77 : decode cX12_readBy 77 = .ok (.goto 7, 3) := by decide +kernel
theorem dX12_readBy_80 : decode cX12_readBy 80 = .ok (.aload_n 0, 1) := by decide +kernel
theorem dX12_readBy_81 : decode cX12_readBy 81 = .ok (.getfield 395, 3) := by decide +kernel
theorem dX12_readBy_84 : decode cX12_readBy 84 = .ok (.putfield 395, 3) := by decide +kernel
theorem dX12_readBy_87 : decode cX12_readBy 87 = .ok (.aload_n 0, 1) := by decide +kernel
theorem dX12_readBy_88 : decode cX12_readBy 88 = .ok (.dup, 1) := by decide +kernel
theorem dX12_readBy_89 : decode cX12_readBy 89 = .ok (.getfield 398, 3) := by decide +kernel
theorem dX12_readBy_92 : decode cX12_readBy 92 = .ok (.aload_n 0, 1) := by decide +kernel
theorem dX12_readBy_93 : decode cX12_readBy 93 = .ok (.getfield 114, 3) := by decide +kernel
theorem dX12_readBy_96 : decode cX12_readBy 96 = .ok (.iload_n 3, 1) := by decide +kernel
theorem dX12_readBy_97 : decode cX12_readBy 97 = .ok (.iaload, 1) := by decide +kernel
theorem dX12_readBy_98 : decode cX12_readBy 98 = .ok (.iconst 1, 1) := by decide +kernel
theorem dX12_readBy_99 : decode cX12_readBy 99 = .ok (.if_icmp .ne 8, 3) := by decide +kernel
theorem dX12_readBy_102 : decode cX12_readBy 102 = .ok (.iload 4, 2) := by decide +kernel
theorem dX12_readBy_104 : decode cX12_readBy 104 = .ok (.goto 4, 3) := by decide +kernel
theorem dX12_readBy_107 : decode cX12_readBy 107 = .ok (.iconst 0, 1) := by decide +kernel
theorem dX12_readBy_108 : decode cX12_readBy 108 = .ok (.iadd, 1) := by decide +kernel
theorem dX12_readBy_109 : decode cX12_readBy 109 = .ok (.putfield 398, 3) := by decide +kernel
