/-! links of methods, classes, constants -/
theorem cl_L_7 : Cond.classLink RL 7 RX11 ∈ gT := ch1 (List.mem_of_getElem? (i := 22) rfl) rfl
theorem ml_L_9 : Cond.methodLink RL 9 yX11_init ∈ gT := ch1 (List.mem_of_getElem? (i := 24) rfl) rfl
theorem ml_X11_3 : Cond.methodLink RX11 3 objectInit ∈ gT := ch1 (List.mem_of_getElem? (i := 27) rfl) rfl
theorem cl_X11_9 : Cond.classLink RX11 9 RX0 ∈ gT := ch1 (List.mem_of_getElem? (i := 30) rfl) rfl
theorem ml_X11_11 : Cond.methodLink RX11 11 yX0_init ∈ gT := ch1 (List.mem_of_getElem? (i := 32) rfl) rfl
theorem ml_X0_3 : Cond.methodLink RX0 3 objectInit ∈ gT := ch1 (List.mem_of_getElem? (i := 35) rfl) rfl
theorem cl_X0_9 : Cond.classLink RX0 9 RX1 ∈ gT := ch1 (List.mem_of_getElem? (i := 36) rfl) rfl
theorem ml_X1_3 : Cond.methodLink RX1 3 objectInit ∈ gT := ch1 (List.mem_of_getElem? (i := 41) rfl) rfl
theorem cl_X0_18 : Cond.classLink RX0 18 RX7 ∈ gT := ch1 (List.mem_of_getElem? (i := 69) rfl) rfl
theorem ml_X7_3 : Cond.methodLink RX7 3 objectInit ∈ gT := ch1 (List.mem_of_getElem? (i := 74) rfl) rfl
theorem cl_X0_25 : Cond.classLink RX0 25 RX5 ∈ gT := ch1 (List.mem_of_getElem? (i := 128) rfl) rfl
theorem ml_X0_27 : Cond.methodLink RX0 27 yX5_init ∈ gT := ch1 (List.mem_of_getElem? (i := 130) rfl) rfl
theorem ml_X5_3 : Cond.methodLink RX5 3 objectInit ∈ gT := ch1 (List.mem_of_getElem? (i := 133) rfl) rfl
theorem ml_X5_30 : Cond.methodLink RX5 30 yJ7_fill_53178 ∈ gT := ch1 (List.mem_of_getElem? (i := 134) rfl) rfl
theorem ml_X11_395 : Cond.methodLink RX11 395 yJ9_min_7cf53 ∈ gT := ch1 (List.mem_of_getElem? (i := 140) rfl) rfl
theorem ml_X11_400 : Cond.methodLink RX11 400 arraycopyName ∈ gT := ch1 (List.mem_of_getElem? (i := 143) rfl) rfl
theorem cl_X0_32 : Cond.classLink RX0 32 RX4 ∈ gT := ch1 (List.mem_of_getElem? (i := 172) rfl) rfl
theorem ml_X4_3 : Cond.methodLink RX4 3 objectInit ∈ gT := ch1 (List.mem_of_getElem? (i := 177) rfl) rfl
theorem cl_X4_39 : Cond.classLink RX4 39 RX10 ∈ gT := ch1 (List.mem_of_getElem? (i := 178) rfl) rfl
theorem cl_X0_39 : Cond.classLink RX0 39 RX10 ∈ gT := ch1 (List.mem_of_getElem? (i := 232) rfl) rfl
theorem ml_X0_53 : Cond.methodLink RX0 53 yX10_init ∈ gT := ch1 (List.mem_of_getElem? (i := 234) rfl) rfl
theorem ml_X10_3 : Cond.methodLink RX10 3 objectInit ∈ gT := ch1 (List.mem_of_getElem? (i := 237) rfl) rfl
theorem cl_X11_20 : Cond.classLink RX11 20 RX8 ∈ gT := ch2 (List.mem_of_getElem? (i := 88) rfl) rfl
theorem ml_X11_22 : Cond.methodLink RX11 22 yX8_init ∈ gT := ch2 (List.mem_of_getElem? (i := 90) rfl) rfl
theorem ml_X8_3 : Cond.methodLink RX8 3 objectInit ∈ gT := ch2 (List.mem_of_getElem? (i := 93) rfl) rfl
theorem cl_X8_9 : Cond.classLink RX8 9 RX10 ∈ gT := ch2 (List.mem_of_getElem? (i := 94) rfl) rfl
theorem ml_X8_11 : Cond.methodLink RX8 11 yX10_init ∈ gT := ch2 (List.mem_of_getElem? (i := 95) rfl) rfl
theorem cl_X11_29 : Cond.classLink RX11 29 RX3 ∈ gT := ch2 (List.mem_of_getElem? (i := 135) rfl) rfl
theorem ml_X11_31 : Cond.methodLink RX11 31 yX3_init ∈ gT := ch2 (List.mem_of_getElem? (i := 137) rfl) rfl
theorem ml_X3_5 : Cond.methodLink RX3 5 objectInit ∈ gT := ch2 (List.mem_of_getElem? (i := 140) rfl) rfl
theorem ml_X3_34 : Cond.methodLink RX3 34 yJ7_fill_53178 ∈ gT := ch2 (List.mem_of_getElem? (i := 141) rfl) rfl
theorem cl_X11_36 : Cond.classLink RX11 36 RX2 ∈ gT := ch2 (List.mem_of_getElem? (i := 167) rfl) rfl
theorem ml_X11_38 : Cond.methodLink RX11 38 yX2_init ∈ gT := ch2 (List.mem_of_getElem? (i := 169) rfl) rfl
theorem ml_X2_3 : Cond.methodLink RX2 3 objectInit ∈ gT := ch2 (List.mem_of_getElem? (i := 172) rfl) rfl
theorem cl_X11_45 : Cond.classLink RX11 45 RX6 ∈ gT := ch2 (List.mem_of_getElem? (i := 212) rfl) rfl
theorem ml_X11_47 : Cond.methodLink RX11 47 yX6_init ∈ gT := ch2 (List.mem_of_getElem? (i := 214) rfl) rfl
theorem ml_X6_3 : Cond.methodLink RX6 3 objectInit ∈ gT := ch2 (List.mem_of_getElem? (i := 217) rfl) rfl
theorem cl_X11_54 : Cond.classLink RX11 54 RX9 ∈ gT := ch3 (List.mem_of_getElem? (i := 30) rfl) rfl
theorem ml_X11_56 : Cond.methodLink RX11 56 yX9_init ∈ gT := ch3 (List.mem_of_getElem? (i := 32) rfl) rfl
theorem ml_X9_3 : Cond.methodLink RX9 3 objectInit ∈ gT := ch3 (List.mem_of_getElem? (i := 35) rfl) rfl
theorem ml_L_13 : Cond.methodLink RL 13 yX11_house ∈ gT := ch3 (List.mem_of_getElem? (i := 89) rfl) rfl
theorem ml_X11_63 : Cond.methodLink RX11 63 yX11_within ∈ gT := ch3 (List.mem_of_getElem? (i := 93) rfl) rfl
theorem ml_X11_67 : Cond.methodLink RX11 67 yX11_isVillage ∈ gT := ch3 (List.mem_of_getElem? (i := 96) rfl) rfl
theorem ck_X11_71 : Cond.constant RX11 71 (100000 : Int32) ∈ gT := ch3 (List.mem_of_getElem? (i := 99) rfl) rfl
theorem ml_X11_76 : Cond.methodLink RX11 76 yX1_add ∈ gT := ch3 (List.mem_of_getElem? (i := 100) rfl) rfl
theorem ml_L_18 : Cond.methodLink RL 18 yX11_person ∈ gT := ch3 (List.mem_of_getElem? (i := 104) rfl) rfl
theorem ml_X11_82 : Cond.methodLink RX11 82 yX1_has ∈ gT := ch3 (List.mem_of_getElem? (i := 108) rfl) rfl
theorem ml_X11_93 : Cond.methodLink RX11 93 yX7_add ∈ gT := ch3 (List.mem_of_getElem? (i := 112) rfl) rfl
theorem ml_L_23 : Cond.methodLink RL 23 yX11_road ∈ gT := ch3 (List.mem_of_getElem? (i := 116) rfl) rfl
theorem ml_X11_102 : Cond.methodLink RX11 102 yX5_setRoad ∈ gT := ch3 (List.mem_of_getElem? (i := 120) rfl) rfl
theorem ml_X5_40 : Cond.methodLink RX5 40 yX5_shortenWays ∈ gT := ch3 (List.mem_of_getElem? (i := 124) rfl) rfl
theorem ml_X5_44 : Cond.methodLink RX5 44 yX5_shorten ∈ gT := ch3 (List.mem_of_getElem? (i := 128) rfl) rfl
theorem ml_X11_108 : Cond.methodLink RX11 108 yX3_forget ∈ gT := ch3 (List.mem_of_getElem? (i := 132) rfl) rfl
theorem ml_L_28 : Cond.methodLink RL 28 yX11_feud ∈ gT := ch3 (List.mem_of_getElem? (i := 136) rfl) rfl
theorem ml_X11_111 : Cond.methodLink RX11 111 yX1_atFeud ∈ gT := ch3 (List.mem_of_getElem? (i := 140) rfl) rfl
theorem ml_X11_115 : Cond.methodLink RX11 115 yX1_setFeud ∈ gT := ch3 (List.mem_of_getElem? (i := 144) rfl) rfl
theorem ml_L_33 : Cond.methodLink RL 33 yX11_harvest ∈ gT := ch3 (List.mem_of_getElem? (i := 148) rfl) rfl
theorem ml_L_38 : Cond.methodLink RL 38 yX11_parent ∈ gT := ch3 (List.mem_of_getElem? (i := 152) rfl) rfl
theorem ml_X11_123 : Cond.methodLink RX11 123 yX7_has ∈ gT := ch3 (List.mem_of_getElem? (i := 156) rfl) rfl
theorem ml_X11_127 : Cond.methodLink RX11 127 yX5_add ∈ gT := ch3 (List.mem_of_getElem? (i := 160) rfl) rfl
theorem ml_L_42 : Cond.methodLink RL 42 yX11_heard ∈ gT := ch3 (List.mem_of_getElem? (i := 164) rfl) rfl
theorem ml_X11_128 : Cond.methodLink RX11 128 yX5_has ∈ gT := ch3 (List.mem_of_getElem? (i := 168) rfl) rfl
theorem ml_X11_129 : Cond.methodLink RX11 129 yX5_yearIn ∈ gT := ch3 (List.mem_of_getElem? (i := 172) rfl) rfl
theorem ml_L_46 : Cond.methodLink RL 46 yX11_die ∈ gT := ch3 (List.mem_of_getElem? (i := 176) rfl) rfl
theorem ml_X11_144 : Cond.methodLink RX11 144 yX4_isOpen ∈ gT := ch3 (List.mem_of_getElem? (i := 180) rfl) rfl
theorem ml_X4_56 : Cond.methodLink RX4 56 yX4_standsAs ∈ gT := ch3 (List.mem_of_getElem? (i := 184) rfl) rfl
theorem ml_X4_52 : Cond.methodLink RX4 52 yX4_has ∈ gT := ch3 (List.mem_of_getElem? (i := 188) rfl) rfl
theorem ml_X11_149 : Cond.methodLink RX11 149 yX11_closeMatch ∈ gT := ch3 (List.mem_of_getElem? (i := 192) rfl) rfl
theorem ml_X11_286 : Cond.methodLink RX11 286 yX4_stand ∈ gT := ch3 (List.mem_of_getElem? (i := 196) rfl) rfl
theorem ml_X11_153 : Cond.methodLink RX11 153 yX7_bury ∈ gT := ch3 (List.mem_of_getElem? (i := 200) rfl) rfl
theorem ml_X7_44 : Cond.methodLink RX7 44 yX7_has ∈ gT := ch3 (List.mem_of_getElem? (i := 204) rfl) rfl
theorem ml_L_51 : Cond.methodLink RL 51 yX11_year ∈ gT := ch3 (List.mem_of_getElem? (i := 205) rfl) rfl
theorem ml_L_56 : Cond.methodLink RL 56 yX11_kin ∈ gT := ch3 (List.mem_of_getElem? (i := 209) rfl) rfl
theorem ml_X11_157 : Cond.methodLink RX11 157 yX11_isKinAsked ∈ gT := ch3 (List.mem_of_getElem? (i := 213) rfl) rfl
theorem ml_X11_161 : Cond.methodLink RX11 161 yX3_steps ∈ gT := ch3 (List.mem_of_getElem? (i := 217) rfl) rfl
theorem ml_X3_40 : Cond.methodLink RX3 40 yX3_nearest ∈ gT := ch3 (List.mem_of_getElem? (i := 221) rfl) rfl
theorem ml_X3_56 : Cond.methodLink RX3 56 yX3_fill ∈ gT := ch3 (List.mem_of_getElem? (i := 225) rfl) rfl
theorem ml_X3_89 : Cond.methodLink RX3 89 yX5_yearIn ∈ gT := ch3 (List.mem_of_getElem? (i := 232) rfl) rfl
theorem ml_X3_59 : Cond.methodLink RX3 59 yX3_climb ∈ gT := ch3 (List.mem_of_getElem? (i := 233) rfl) rfl
theorem ml_X3_74 : Cond.methodLink RX3 74 yX3_isNearer ∈ gT := ch3 (List.mem_of_getElem? (i := 237) rfl) rfl
theorem ml_L_60 : Cond.methodLink RL 60 yX11_chain ∈ gT := ch4 (List.mem_of_getElem? (i := 1) rfl) rfl
theorem ml_X11_164 : Cond.methodLink RX11 164 yX3_link ∈ gT := ch4 (List.mem_of_getElem? (i := 5) rfl) rfl
theorem ml_X3_44 : Cond.methodLink RX3 44 yX3_rise ∈ gT := ch4 (List.mem_of_getElem? (i := 9) rfl) rfl
theorem ml_X3_104 : Cond.methodLink RX3 104 yX3_descend ∈ gT := ch4 (List.mem_of_getElem? (i := 13) rfl) rfl
theorem ml_X3_101 : Cond.methodLink RX3 101 yX3_isChildOf ∈ gT := ch4 (List.mem_of_getElem? (i := 17) rfl) rfl
theorem ml_X3_108 : Cond.methodLink RX3 108 yX3_leastParent ∈ gT := ch4 (List.mem_of_getElem? (i := 21) rfl) rfl
theorem ml_X3_48 : Cond.methodLink RX3 48 yX3_sink ∈ gT := ch4 (List.mem_of_getElem? (i := 25) rfl) rfl
theorem ml_X3_111 : Cond.methodLink RX3 111 yX3_leastChild ∈ gT := ch4 (List.mem_of_getElem? (i := 29) rfl) rfl
theorem ml_L_65 : Cond.methodLink RL 65 yX11_tell ∈ gT := ch4 (List.mem_of_getElem? (i := 33) rfl) rfl
theorem ml_X11_177 : Cond.methodLink RX11 177 yX11_bit ∈ gT := ch4 (List.mem_of_getElem? (i := 37) rfl) rfl
theorem ml_X11_187 : Cond.methodLink RX11 187 yX7_isFree ∈ gT := ch4 (List.mem_of_getElem? (i := 40) rfl) rfl
theorem ml_L_69 : Cond.methodLink RL 69 yX11_about ∈ gT := ch4 (List.mem_of_getElem? (i := 44) rfl) rfl
theorem ml_X11_199 : Cond.methodLink RX11 199 yX7_livingIn ∈ gT := ch4 (List.mem_of_getElem? (i := 48) rfl) rfl
theorem ml_L_73 : Cond.methodLink RL 73 yX11_feed ∈ gT := ch4 (List.mem_of_getElem? (i := 52) rfl) rfl
theorem ml_X11_206 : Cond.methodLink RX11 206 yX0_write ∈ gT := ch4 (List.mem_of_getElem? (i := 56) rfl) rfl
theorem ml_L_77 : Cond.methodLink RL 77 yX11_end ∈ gT := ch4 (List.mem_of_getElem? (i := 60) rfl) rfl
theorem ml_L_82 : Cond.methodLink RL 82 yX11_text ∈ gT := ch4 (List.mem_of_getElem? (i := 64) rfl) rfl
theorem ml_X11_215 : Cond.methodLink RX11 215 yX8_take ∈ gT := ch4 (List.mem_of_getElem? (i := 68) rfl) rfl
theorem ml_X8_44 : Cond.methodLink RX8 44 yX8_advance ∈ gT := ch4 (List.mem_of_getElem? (i := 72) rfl) rfl
theorem ml_X8_194 : Cond.methodLink RX8 194 yX8_kindOf ∈ gT := ch4 (List.mem_of_getElem? (i := 76) rfl) rfl
theorem ml_X8_198 : Cond.methodLink RX8 198 yX8_measure ∈ gT := ch4 (List.mem_of_getElem? (i := 79) rfl) rfl
theorem ml_X8_50 : Cond.methodLink RX8 50 yX8_readLine ∈ gT := ch4 (List.mem_of_getElem? (i := 83) rfl) rfl
theorem ml_X8_92 : Cond.methodLink RX8 92 yX8_note ∈ gT := ch4 (List.mem_of_getElem? (i := 87) rfl) rfl
theorem ml_X8_98 : Cond.methodLink RX8 98 yX8_isWord ∈ gT := ch4 (List.mem_of_getElem? (i := 92) rfl) rfl
theorem ml_X8_182 : Cond.methodLink RX8 182 yJ0_length_8abf5 ∈ gT := ch4 (List.mem_of_getElem? (i := 96) rfl) rfl
theorem ml_J0_335 : Cond.methodLink RJ0 335 yJ0_coder_7d493 ∈ gT := ch4 (List.mem_of_getElem? (i := 100) rfl) rfl
theorem ml_X8_187 : Cond.methodLink RX8 187 yJ0_charAt_5068e ∈ gT := ch4 (List.mem_of_getElem? (i := 106) rfl) rfl
theorem ml_J0_492 : Cond.methodLink RJ0 492 yJ0_isLatin1_aae02 ∈ gT := ch4 (List.mem_of_getElem? (i := 110) rfl) rfl
theorem ml_J0_495 : Cond.methodLink RJ0 495 yJ1_charAt_3b067 ∈ gT := ch4 (List.mem_of_getElem? (i := 114) rfl) rfl
theorem ml_J1_9 : Cond.methodLink RJ1 9 yJ0_checkIndex_df160 ∈ gT := ch4 (List.mem_of_getElem? (i := 117) rfl) rfl
theorem ml_J0_1059 : Cond.methodLink RJ0 1059 yJ3_checkIndex_8e157 ∈ gT := ch4 (List.mem_of_getElem? (i := 122) rfl) rfl
theorem ml_J0_498 : Cond.methodLink RJ0 498 yJ2_charAt_3b067 ∈ gT := ch4 (List.mem_of_getElem? (i := 125) rfl) rfl
theorem ml_J2_67 : Cond.methodLink RJ2 67 yJ2_checkIndex_2214a ∈ gT := ch4 (List.mem_of_getElem? (i := 128) rfl) rfl
theorem ml_J2_48 : Cond.methodLink RJ2 48 yJ2_length_9d52b ∈ gT := ch4 (List.mem_of_getElem? (i := 131) rfl) rfl
theorem ml_J2_414 : Cond.methodLink RJ2 414 yJ0_checkIndex_df160 ∈ gT := ch4 (List.mem_of_getElem? (i := 134) rfl) rfl
theorem ml_J2_71 : Cond.methodLink RJ2 71 yJ2_getChar_3b067 ∈ gT := ch4 (List.mem_of_getElem? (i := 135) rfl) rfl
theorem ml_X8_102 : Cond.methodLink RX8 102 yX8_readTests ∈ gT := ch4 (List.mem_of_getElem? (i := 144) rfl) rfl
theorem ml_X8_112 : Cond.methodLink RX8 112 yX8_readTest ∈ gT := ch4 (List.mem_of_getElem? (i := 148) rfl) rfl
theorem ml_X8_118 : Cond.methodLink RX8 118 yX8_subjectAtHand ∈ gT := ch4 (List.mem_of_getElem? (i := 153) rfl) rfl
theorem ml_X8_122 : Cond.methodLink RX8 122 yX8_refuse ∈ gT := ch4 (List.mem_of_getElem? (i := 168) rfl) rfl
theorem ml_X8_125 : Cond.methodLink RX8 125 yX8_keepTest ∈ gT := ch4 (List.mem_of_getElem? (i := 172) rfl) rfl
theorem ml_X8_129 : Cond.methodLink RX8 129 yX8_isSign ∈ gT := ch4 (List.mem_of_getElem? (i := 176) rfl) rfl
theorem ml_X8_108 : Cond.methodLink RX8 108 yX8_takeSign ∈ gT := ch4 (List.mem_of_getElem? (i := 181) rfl) rfl
theorem ml_X8_105 : Cond.methodLink RX8 105 yX8_readAct ∈ gT := ch4 (List.mem_of_getElem? (i := 185) rfl) rfl
theorem ml_X8_144 : Cond.methodLink RX8 144 yX8_actAtHand ∈ gT := ch4 (List.mem_of_getElem? (i := 189) rfl) rfl
theorem ml_X8_147 : Cond.methodLink RX8 147 yX8_keepLine ∈ gT := ch4 (List.mem_of_getElem? (i := 198) rfl) rfl
theorem ml_X8_54 : Cond.methodLink RX8 54 yX8_fairCopy ∈ gT := ch4 (List.mem_of_getElem? (i := 202) rfl) rfl
theorem ml_L_86 : Cond.methodLink RL 86 yX11_fault ∈ gT := ch4 (List.mem_of_getElem? (i := 210) rfl) rfl
theorem ml_L_90 : Cond.methodLink RL 90 yX11_read ∈ gT := ch4 (List.mem_of_getElem? (i := 214) rfl) rfl
theorem ml_X11_230 : Cond.methodLink RX11 230 yX11_isCouple ∈ gT := ch4 (List.mem_of_getElem? (i := 218) rfl) rfl
theorem ml_X11_392 : Cond.methodLink RX11 392 yX7_isOf ∈ gT := ch4 (List.mem_of_getElem? (i := 222) rfl) rfl
theorem ml_X11_233 : Cond.methodLink RX11 233 yX2_face ∈ gT := ch4 (List.mem_of_getElem? (i := 226) rfl) rfl
theorem ml_X2_48 : Cond.methodLink RX2 48 yJ9_abs_0f7a4 ∈ gT := ch4 (List.mem_of_getElem? (i := 230) rfl) rfl
theorem ml_X2_66 : Cond.methodLink RX2 66 yX1_atFeud ∈ gT := ch4 (List.mem_of_getElem? (i := 234) rfl) rfl
theorem ml_X2_74 : Cond.methodLink RX2 74 yX7_hasElder ∈ gT := ch4 (List.mem_of_getElem? (i := 235) rfl) rfl
theorem ml_X7_48 : Cond.methodLink RX7 48 yX7_isAhead ∈ gT := ch4 (List.mem_of_getElem? (i := 239) rfl) rfl
theorem ml_X2_78 : Cond.methodLink RX2 78 yJ9_min_7cf53 ∈ gT := ch5 (List.mem_of_getElem? (i := 3) rfl) rfl
theorem ml_X11_236 : Cond.methodLink RX11 236 yX2_readBy ∈ gT := ch5 (List.mem_of_getElem? (i := 4) rfl) rfl
theorem ml_X2_91 : Cond.methodLink RX2 91 yX10_asksKin ∈ gT := ch5 (List.mem_of_getElem? (i := 8) rfl) rfl
theorem ml_X2_97 : Cond.methodLink RX2 97 yX3_steps ∈ gT := ch5 (List.mem_of_getElem? (i := 12) rfl) rfl
theorem ml_X2_115 : Cond.methodLink RX2 115 yX10_holds ∈ gT := ch5 (List.mem_of_getElem? (i := 13) rfl) rfl
theorem ml_X10_38 : Cond.methodLink RX10 38 yX10_passes ∈ gT := ch5 (List.mem_of_getElem? (i := 17) rfl) rfl
theorem ml_X2_119 : Cond.methodLink RX2 119 yX2_obey ∈ gT := ch5 (List.mem_of_getElem? (i := 21) rfl) rfl
theorem ml_L_94 : Cond.methodLink RL 94 yX11_may ∈ gT := ch5 (List.mem_of_getElem? (i := 25) rfl) rfl
theorem ml_X11_249 : Cond.methodLink RX11 249 yX2_letsWed ∈ gT := ch5 (List.mem_of_getElem? (i := 29) rfl) rfl
theorem ml_X2_129 : Cond.methodLink RX2 129 yX2_face ∈ gT := ch5 (List.mem_of_getElem? (i := 33) rfl) rfl
theorem ml_X2_133 : Cond.methodLink RX2 133 yX0_customOf ∈ gT := ch5 (List.mem_of_getElem? (i := 34) rfl) rfl
theorem ml_X2_137 : Cond.methodLink RX2 137 yX2_readBy ∈ gT := ch5 (List.mem_of_getElem? (i := 38) rfl) rfl
theorem ml_X2_146 : Cond.methodLink RX2 146 yJ9_max_7cf53 ∈ gT := ch5 (List.mem_of_getElem? (i := 39) rfl) rfl
theorem ml_L_99 : Cond.methodLink RL 99 yX11_liking ∈ gT := ch5 (List.mem_of_getElem? (i := 42) rfl) rfl
theorem ck_X11_252 : Cond.constant RX11 252 (-1000000 : Int32) ∈ gT := ch5 (List.mem_of_getElem? (i := 46) rfl) rfl
theorem ml_X11_253 : Cond.methodLink RX11 253 yX2_likes ∈ gT := ch5 (List.mem_of_getElem? (i := 47) rfl) rfl
theorem ml_X2_156 : Cond.methodLink RX2 156 yX0_villageOf ∈ gT := ch5 (List.mem_of_getElem? (i := 51) rfl) rfl
theorem ml_L_103 : Cond.methodLink RL 103 yX11_ask ∈ gT := ch5 (List.mem_of_getElem? (i := 55) rfl) rfl
theorem ml_X11_256 : Cond.methodLink RX11 256 yX4_isFull ∈ gT := ch5 (List.mem_of_getElem? (i := 59) rfl) rfl
theorem ml_X11_260 : Cond.methodLink RX11 260 yX4_add ∈ gT := ch5 (List.mem_of_getElem? (i := 63) rfl) rfl
theorem ml_X4_60 : Cond.methodLink RX4 60 yX4_stand ∈ gT := ch5 (List.mem_of_getElem? (i := 67) rfl) rfl
theorem ml_L_107 : Cond.methodLink RL 107 yX11_promise ∈ gT := ch5 (List.mem_of_getElem? (i := 68) rfl) rfl
theorem ml_X11_271 : Cond.methodLink RX11 271 yX4_standsAs ∈ gT := ch5 (List.mem_of_getElem? (i := 72) rfl) rfl
theorem ml_X11_274 : Cond.methodLink RX11 274 yX11_hisHouse ∈ gT := ch5 (List.mem_of_getElem? (i := 73) rfl) rfl
theorem ml_X11_277 : Cond.methodLink RX11 277 yX11_herHouse ∈ gT := ch5 (List.mem_of_getElem? (i := 77) rfl) rfl
theorem ml_X11_280 : Cond.methodLink RX11 280 yX1_pay ∈ gT := ch5 (List.mem_of_getElem? (i := 81) rfl) rfl
theorem ml_L_111 : Cond.methodLink RL 111 yX11_wed ∈ gT := ch5 (List.mem_of_getElem? (i := 85) rfl) rfl
theorem ml_X11_298 : Cond.methodLink RX11 298 yX0_customOf ∈ gT := ch5 (List.mem_of_getElem? (i := 89) rfl) rfl
theorem ml_X11_302 : Cond.methodLink RX11 302 yX4_keepDay ∈ gT := ch5 (List.mem_of_getElem? (i := 90) rfl) rfl
theorem ml_X4_64 : Cond.methodLink RX4 64 arraycopyName ∈ gT := ch5 (List.mem_of_getElem? (i := 94) rfl) rfl
theorem ml_X11_306 : Cond.methodLink RX11 306 yX7_marry ∈ gT := ch5 (List.mem_of_getElem? (i := 95) rfl) rfl
theorem ml_L_115 : Cond.methodLink RL 115 yX11_breaks ∈ gT := ch5 (List.mem_of_getElem? (i := 99) rfl) rfl
theorem ml_L_120 : Cond.methodLink RL 120 yX11_match ∈ gT := ch5 (List.mem_of_getElem? (i := 103) rfl) rfl
theorem ml_X11_312 : Cond.methodLink RX11 312 yX4_has ∈ gT := ch5 (List.mem_of_getElem? (i := 107) rfl) rfl
theorem ml_X11_319 : Cond.methodLink RX11 319 yX2_isLate ∈ gT := ch5 (List.mem_of_getElem? (i := 108) rfl) rfl
theorem ml_X2_163 : Cond.methodLink RX2 163 yX4_standsAs ∈ gT := ch5 (List.mem_of_getElem? (i := 112) rfl) rfl
theorem ml_X2_179 : Cond.methodLink RX2 179 arraycopyName ∈ gT := ch5 (List.mem_of_getElem? (i := 113) rfl) rfl
theorem ml_L_124 : Cond.methodLink RL 124 yX11_late ∈ gT := ch5 (List.mem_of_getElem? (i := 114) rfl) rfl
theorem ml_L_128 : Cond.methodLink RL 128 yX11_parts ∈ gT := ch5 (List.mem_of_getElem? (i := 118) rfl) rfl
theorem ml_X11_326 : Cond.methodLink RX11 326 yX2_wouldPart ∈ gT := ch5 (List.mem_of_getElem? (i := 122) rfl) rfl
theorem ml_X2_194 : Cond.methodLink RX2 194 yX4_isOpen ∈ gT := ch5 (List.mem_of_getElem? (i := 126) rfl) rfl
theorem ml_X2_197 : Cond.methodLink RX2 197 yX2_letsWed ∈ gT := ch5 (List.mem_of_getElem? (i := 127) rfl) rfl
theorem ml_X2_200 : Cond.methodLink RX2 200 yX2_likes ∈ gT := ch5 (List.mem_of_getElem? (i := 128) rfl) rfl
theorem ml_L_132 : Cond.methodLink RL 132 yX11_best ∈ gT := ch5 (List.mem_of_getElem? (i := 129) rfl) rfl
theorem ml_X11_329 : Cond.methodLink RX11 329 yX6_gather ∈ gT := ch5 (List.mem_of_getElem? (i := 133) rfl) rfl
theorem ml_X6_54 : Cond.methodLink RX6 54 yX6_pick ∈ gT := ch5 (List.mem_of_getElem? (i := 137) rfl) rfl
theorem ml_X6_93 : Cond.methodLink RX6 93 yX7_isFree ∈ gT := ch5 (List.mem_of_getElem? (i := 141) rfl) rfl
theorem ml_X6_65 : Cond.methodLink RX6 65 yX2_letsWed ∈ gT := ch5 (List.mem_of_getElem? (i := 142) rfl) rfl
theorem ck_X6_77 : Cond.constant RX6 77 (20000000 : Int32) ∈ gT := ch5 (List.mem_of_getElem? (i := 143) rfl) rfl
theorem ck_X6_78 : Cond.constant RX6 78 (2000000 : Int32) ∈ gT := ch5 (List.mem_of_getElem? (i := 144) rfl) rfl
theorem ml_X11_332 : Cond.methodLink RX11 332 yX6_settleBest ∈ gT := ch5 (List.mem_of_getElem? (i := 145) rfl) rfl
theorem ml_X6_97 : Cond.methodLink RX6 97 yJ7_fill_53178 ∈ gT := ch5 (List.mem_of_getElem? (i := 149) rfl) rfl
theorem ml_X6_103 : Cond.methodLink RX6 103 yJ6_bitCount_0f7a4 ∈ gT := ch5 (List.mem_of_getElem? (i := 150) rfl) rfl
theorem ck_J6_265 : Cond.constant RJ6 265 (1431655765 : Int32) ∈ gT := ch5 (List.mem_of_getElem? (i := 153) rfl) rfl
theorem ck_J6_266 : Cond.constant RJ6 266 (858993459 : Int32) ∈ gT := ch5 (List.mem_of_getElem? (i := 154) rfl) rfl
theorem ck_J6_267 : Cond.constant RJ6 267 (252645135 : Int32) ∈ gT := ch5 (List.mem_of_getElem? (i := 155) rfl) rfl
theorem ml_X6_109 : Cond.methodLink RX6 109 yX6_mostWorth ∈ gT := ch5 (List.mem_of_getElem? (i := 156) rfl) rfl
theorem ml_X6_116 : Cond.methodLink RX6 116 yX6_worthWith ∈ gT := ch5 (List.mem_of_getElem? (i := 160) rfl) rfl
theorem ml_X6_120 : Cond.methodLink RX6 120 yJ9_max_7cf53 ∈ gT := ch5 (List.mem_of_getElem? (i := 164) rfl) rfl
theorem ml_X6_113 : Cond.methodLink RX6 113 yX6_leastChoice ∈ gT := ch5 (List.mem_of_getElem? (i := 165) rfl) rfl
theorem ml_X11_335 : Cond.methodLink RX11 335 yX6_weddings ∈ gT := ch5 (List.mem_of_getElem? (i := 169) rfl) rfl
theorem ml_X11_339 : Cond.methodLink RX11 339 yX6_feudsEnded ∈ gT := ch5 (List.mem_of_getElem? (i := 173) rfl) rfl
theorem ml_X11_342 : Cond.methodLink RX11 342 yX6_giftsTogether ∈ gT := ch5 (List.mem_of_getElem? (i := 177) rfl) rfl
theorem ml_L_136 : Cond.methodLink RL 136 yX11_bestFor ∈ gT := ch5 (List.mem_of_getElem? (i := 181) rfl) rfl
theorem ml_X11_345 : Cond.methodLink RX11 345 yX6_partnerOf ∈ gT := ch5 (List.mem_of_getElem? (i := 185) rfl) rfl
theorem ml_L_140 : Cond.methodLink RL 140 yX11_stable ∈ gT := ch5 (List.mem_of_getElem? (i := 189) rfl) rfl
theorem ml_X11_348 : Cond.methodLink RX11 348 yX6_askLikings ∈ gT := ch5 (List.mem_of_getElem? (i := 193) rfl) rfl
theorem ml_X6_129 : Cond.methodLink RX6 129 yX2_likes ∈ gT := ch5 (List.mem_of_getElem? (i := 197) rfl) rfl
theorem ml_X11_351 : Cond.methodLink RX11 351 yX6_settleStable ∈ gT := ch5 (List.mem_of_getElem? (i := 198) rfl) rfl
theorem ml_X6_125 : Cond.methodLink RX6 125 yX6_askAround ∈ gT := ch5 (List.mem_of_getElem? (i := 202) rfl) rfl
theorem ml_X6_132 : Cond.methodLink RX6 132 yX6_isKept ∈ gT := ch5 (List.mem_of_getElem? (i := 206) rfl) rfl
theorem ml_X6_135 : Cond.methodLink RX6 135 yX6_nextToAsk ∈ gT := ch5 (List.mem_of_getElem? (i := 210) rfl) rfl
theorem ml_X6_138 : Cond.methodLink RX6 138 yX6_hearOut ∈ gT := ch5 (List.mem_of_getElem? (i := 214) rfl) rfl
theorem ml_L_144 : Cond.methodLink RL 144 yX11_ring ∈ gT := ch5 (List.mem_of_getElem? (i := 218) rfl) rfl
theorem ml_X11_354 : Cond.methodLink RX11 354 yX9_search ∈ gT := ch5 (List.mem_of_getElem? (i := 222) rfl) rfl
theorem ml_X9_35 : Cond.methodLink RX9 35 yJ7_fill_53178 ∈ gT := ch5 (List.mem_of_getElem? (i := 226) rfl) rfl
theorem ml_X9_63 : Cond.methodLink RX9 63 yX9_offer ∈ gT := ch5 (List.mem_of_getElem? (i := 227) rfl) rfl
theorem ml_X9_83 : Cond.methodLink RX9 83 yX9_extend ∈ gT := ch5 (List.mem_of_getElem? (i := 231) rfl) rfl
theorem ml_X9_96 : Cond.methodLink RX9 96 yX9_consider ∈ gT := ch5 (List.mem_of_getElem? (i := 235) rfl) rfl
theorem ml_X9_99 : Cond.methodLink RX9 99 yX9_isOnTrial ∈ gT := ch6 (List.mem_of_getElem? (i := 0) rfl) rfl
theorem ml_L_148 : Cond.methodLink RL 148 yX11_ringed ∈ gT := ch6 (List.mem_of_getElem? (i := 4) rfl) rfl
theorem ml_X11_366 : Cond.methodLink RX11 366 yX9_brideAt ∈ gT := ch6 (List.mem_of_getElem? (i := 8) rfl) rfl
theorem ml_X9_107 : Cond.methodLink RX9 107 yX9_linkAt ∈ gT := ch6 (List.mem_of_getElem? (i := 12) rfl) rfl
theorem ml_X11_369 : Cond.methodLink RX11 369 yX9_groomAt ∈ gT := ch6 (List.mem_of_getElem? (i := 16) rfl) rfl
theorem ml_L_152 : Cond.methodLink RL 152 yX11_count ∈ gT := ch6 (List.mem_of_getElem? (i := 20) rfl) rfl
theorem ml_X11_374 : Cond.methodLink RX11 374 yX4_howMany ∈ gT := ch6 (List.mem_of_getElem? (i := 24) rfl) rfl
theorem ml_X11_377 : Cond.methodLink RX11 377 yX1_allFeuds ∈ gT := ch6 (List.mem_of_getElem? (i := 28) rfl) rfl
theorem ml_X1_28 : Cond.methodLink RX1 28 yJ6_bitCount_0f7a4 ∈ gT := ch6 (List.mem_of_getElem? (i := 32) rfl) rfl
theorem ml_X11_380 : Cond.methodLink RX11 380 yX1_allCoins ∈ gT := ch6 (List.mem_of_getElem? (i := 33) rfl) rfl
theorem ml_X11_383 : Cond.methodLink RX11 383 yX7_allFree ∈ gT := ch6 (List.mem_of_getElem? (i := 37) rfl) rfl
theorem ml_X7_52 : Cond.methodLink RX7 52 yX7_isFree ∈ gT := ch6 (List.mem_of_getElem? (i := 41) rfl) rfl
theorem ml_X11_386 : Cond.methodLink RX11 386 yX2_allLate ∈ gT := ch6 (List.mem_of_getElem? (i := 42) rfl) rfl
theorem ml_X2_188 : Cond.methodLink RX2 188 yX2_isLate ∈ gT := ch6 (List.mem_of_getElem? (i := 46) rfl) rfl
theorem ml_L_156 : Cond.methodLink RL 156 yX11_image ∈ gT := ch6 (List.mem_of_getElem? (i := 47) rfl) rfl
theorem ml_X11_389 : Cond.methodLink RX11 389 yX0_takeFrom ∈ gT := ch6 (List.mem_of_getElem? (i := 51) rfl) rfl
theorem ml_X0_69 : Cond.methodLink RX0 69 yX1_takeFrom ∈ gT := ch6 (List.mem_of_getElem? (i := 55) rfl) rfl
theorem ml_X0_73 : Cond.methodLink RX0 73 yX7_takeFrom ∈ gT := ch6 (List.mem_of_getElem? (i := 60) rfl) rfl
theorem ml_X0_76 : Cond.methodLink RX0 76 yX5_takeFrom ∈ gT := ch6 (List.mem_of_getElem? (i := 66) rfl) rfl
theorem ml_X0_79 : Cond.methodLink RX0 79 yX4_takeFrom ∈ gT := ch6 (List.mem_of_getElem? (i := 70) rfl) rfl
theorem ml_X0_86 : Cond.methodLink RX0 86 arraycopyName ∈ gT := ch6 (List.mem_of_getElem? (i := 79) rfl) rfl
theorem ml_L_160 : Cond.methodLink RL 160 yX11_again ∈ gT := ch6 (List.mem_of_getElem? (i := 80) rfl) rfl
theorem cl_L_10 : Cond.classLink RL 10 RX12 ∈ gT := ch6 (List.mem_of_getElem? (i := 84) rfl) rfl
theorem ml_L_12 : Cond.methodLink RL 12 yX12_init ∈ gT := ch6 (List.mem_of_getElem? (i := 86) rfl) rfl
theorem ml_X12_1 : Cond.methodLink RX12 1 objectInit ∈ gT := ch6 (List.mem_of_getElem? (i := 89) rfl) rfl
theorem ml_L_17 : Cond.methodLink RL 17 yX12_house ∈ gT := ch7 (List.mem_of_getElem? (i := 101) rfl) rfl
theorem ml_X12_218 : Cond.methodLink RX12 218 yX12_in ∈ gT := ch7 (List.mem_of_getElem? (i := 105) rfl) rfl
theorem ml_X12_226 : Cond.methodLink RX12 226 yX12_isVillage ∈ gT := ch7 (List.mem_of_getElem? (i := 108) rfl) rfl
theorem ck_X12_229 : Cond.constant RX12 229 (100000 : Int32) ∈ gT := ch7 (List.mem_of_getElem? (i := 111) rfl) rfl
theorem ml_L_22 : Cond.methodLink RL 22 yX12_person ∈ gT := ch7 (List.mem_of_getElem? (i := 112) rfl) rfl
theorem ml_X12_230 : Cond.methodLink RX12 230 yX12_isHouse ∈ gT := ch7 (List.mem_of_getElem? (i := 116) rfl) rfl
theorem ml_L_27 : Cond.methodLink RL 27 yX12_road ∈ gT := ch7 (List.mem_of_getElem? (i := 120) rfl) rfl
theorem ml_L_32 : Cond.methodLink RL 32 yX12_feud ∈ gT := ch7 (List.mem_of_getElem? (i := 124) rfl) rfl
theorem ml_X12_233 : Cond.methodLink RX12 233 yX12_areFeuding ∈ gT := ch7 (List.mem_of_getElem? (i := 128) rfl) rfl
theorem ml_X12_237 : Cond.methodLink RX12 237 yX12_setFeud ∈ gT := ch7 (List.mem_of_getElem? (i := 132) rfl) rfl
theorem ml_L_37 : Cond.methodLink RL 37 yX12_harvest ∈ gT := ch7 (List.mem_of_getElem? (i := 136) rfl) rfl
theorem ml_L_41 : Cond.methodLink RL 41 yX12_parent ∈ gT := ch7 (List.mem_of_getElem? (i := 140) rfl) rfl
theorem ml_X12_222 : Cond.methodLink RX12 222 yX12_isPerson ∈ gT := ch7 (List.mem_of_getElem? (i := 144) rfl) rfl
theorem ml_L_45 : Cond.methodLink RL 45 yX12_heard ∈ gT := ch7 (List.mem_of_getElem? (i := 148) rfl) rfl
theorem ml_X12_241 : Cond.methodLink RX12 241 yX12_findTakes ∈ gT := ch7 (List.mem_of_getElem? (i := 152) rfl) rfl
theorem ml_L_50 : Cond.methodLink RL 50 yX12_die ∈ gT := ch7 (List.mem_of_getElem? (i := 156) rfl) rfl
theorem ml_X12_245 : Cond.methodLink RX12 245 yX12_openOf ∈ gT := ch7 (List.mem_of_getElem? (i := 160) rfl) rfl
theorem ml_X12_272 : Cond.methodLink RX12 272 yX12_isOpen ∈ gT := ch7 (List.mem_of_getElem? (i := 164) rfl) rfl
theorem ml_X12_249 : Cond.methodLink RX12 249 yX12_comes ∈ gT := ch7 (List.mem_of_getElem? (i := 168) rfl) rfl
theorem ml_L_55 : Cond.methodLink RL 55 yX12_year ∈ gT := ch7 (List.mem_of_getElem? (i := 172) rfl) rfl
theorem ml_L_59 : Cond.methodLink RL 59 yX12_kin ∈ gT := ch7 (List.mem_of_getElem? (i := 176) rfl) rfl
theorem ml_X12_262 : Cond.methodLink RX12 262 yX12_isYear ∈ gT := ch7 (List.mem_of_getElem? (i := 180) rfl) rfl
theorem ml_X12_265 : Cond.methodLink RX12 265 yX12_kinOf ∈ gT := ch7 (List.mem_of_getElem? (i := 183) rfl) rfl
theorem ml_X12_252 : Cond.methodLink RX12 252 yX12_findParents ∈ gT := ch7 (List.mem_of_getElem? (i := 187) rfl) rfl
theorem ml_X12_255 : Cond.methodLink RX12 255 yX12_findUp ∈ gT := ch7 (List.mem_of_getElem? (i := 191) rfl) rfl
theorem ml_L_64 : Cond.methodLink RL 64 yX12_chain ∈ gT := ch7 (List.mem_of_getElem? (i := 195) rfl) rfl
theorem ml_X12_269 : Cond.methodLink RX12 269 yX12_nearer ∈ gT := ch7 (List.mem_of_getElem? (i := 199) rfl) rfl
theorem ml_L_68 : Cond.methodLink RL 68 yX12_tell ∈ gT := ch7 (List.mem_of_getElem? (i := 203) rfl) rfl
theorem ml_X12_275 : Cond.methodLink RX12 275 yX12_ageOf ∈ gT := ch7 (List.mem_of_getElem? (i := 207) rfl) rfl
theorem ml_X12_278 : Cond.methodLink RX12 278 yX12_isFree ∈ gT := ch7 (List.mem_of_getElem? (i := 211) rfl) rfl
theorem ml_L_72 : Cond.methodLink RL 72 yX12_about ∈ gT := ch7 (List.mem_of_getElem? (i := 215) rfl) rfl
theorem ml_L_76 : Cond.methodLink RL 76 yX12_feed ∈ gT := ch7 (List.mem_of_getElem? (i := 219) rfl) rfl
theorem ml_X12_281 : Cond.methodLink RX12 281 yX12_four ∈ gT := ch7 (List.mem_of_getElem? (i := 223) rfl) rfl
theorem ml_L_81 : Cond.methodLink RL 81 yX12_end ∈ gT := ch7 (List.mem_of_getElem? (i := 227) rfl) rfl
theorem ml_L_85 : Cond.methodLink RL 85 yX12_text ∈ gT := ch7 (List.mem_of_getElem? (i := 231) rfl) rfl
theorem ml_X12_320 : Cond.methodLink RX12 320 yX12_token ∈ gT := ch7 (List.mem_of_getElem? (i := 235) rfl) rfl
theorem ml_X12_290 : Cond.methodLink RX12 290 yX12_see ∈ gT := ch7 (List.mem_of_getElem? (i := 239) rfl) rfl
theorem ml_X12_384 : Cond.methodLink RX12 384 yX12_oneLine ∈ gT := ch8 (List.mem_of_getElem? (i := 3) rfl) rfl
theorem ml_X12_349 : Cond.methodLink RX12 349 yX12_later ∈ gT := ch8 (List.mem_of_getElem? (i := 7) rfl) rfl
theorem ck_X12_370 : Cond.constantLong RX12 370 (26982 : Int64) ∈ gT := ch8 (List.mem_of_getElem? (i := 11) rfl) rfl
theorem ml_X12_325 : Cond.methodLink RX12 325 yX12_isWord ∈ gT := ch8 (List.mem_of_getElem? (i := 12) rfl) rfl
theorem ml_X12_372 : Cond.methodLink RX12 372 yX12_test ∈ gT := ch8 (List.mem_of_getElem? (i := 16) rfl) rfl
theorem ck_X12_352 : Cond.constantLong RX12 352 (7237492 : Int64) ∈ gT := ch8 (List.mem_of_getElem? (i := 20) rfl) rfl
theorem ml_X12_354 : Cond.methodLink RX12 354 yX12_testWord ∈ gT := ch8 (List.mem_of_getElem? (i := 21) rfl) rfl
theorem ck_X12_323 : Cond.constantLong RX12 323 (1668047214 : Int64) ∈ gT := ch8 (List.mem_of_getElem? (i := 25) rfl) rfl
theorem ck_X12_329 : Cond.constantLong RX12 329 (1752132965 : Int64) ∈ gT := ch8 (List.mem_of_getElem? (i := 26) rfl) rfl
theorem ck_X12_331 : Cond.constantLong RX12 331 (1717925220 : Int64) ∈ gT := ch8 (List.mem_of_getElem? (i := 27) rfl) rfl
theorem ck_X12_333 : Cond.constantLong RX12 333 (512869298039 : Int64) ∈ gT := ch8 (List.mem_of_getElem? (i := 28) rfl) rfl
theorem ck_X12_335 : Cond.constantLong RX12 335 (435610215794 : Int64) ∈ gT := ch8 (List.mem_of_getElem? (i := 29) rfl) rfl
theorem ck_X12_337 : Cond.constantLong RX12 337 (1937006962 : Int64) ∈ gT := ch8 (List.mem_of_getElem? (i := 30) rfl) rfl
theorem ck_X12_339 : Cond.constantLong RX12 339 (7039342 : Int64) ∈ gT := ch8 (List.mem_of_getElem? (i := 31) rfl) rfl
theorem ck_X12_341 : Cond.constantLong RX12 341 (6383461 : Int64) ∈ gT := ch8 (List.mem_of_getElem? (i := 32) rfl) rfl
theorem ck_X12_343 : Cond.constantLong RX12 343 (422826304613 : Int64) ∈ gT := ch8 (List.mem_of_getElem? (i := 33) rfl) rfl
theorem ck_X12_345 : Cond.constantLong RX12 345 (6775152 : Int64) ∈ gT := ch8 (List.mem_of_getElem? (i := 34) rfl) rfl
theorem ck_X12_347 : Cond.constantLong RX12 347 (1919509352 : Int64) ∈ gT := ch8 (List.mem_of_getElem? (i := 35) rfl) rfl
theorem ml_X12_316 : Cond.methodLink RX12 316 yX12_wrong ∈ gT := ch8 (List.mem_of_getElem? (i := 36) rfl) rfl
theorem ck_X12_375 : Cond.constantLong RX12 375 (6385252 : Int64) ∈ gT := ch8 (List.mem_of_getElem? (i := 40) rfl) rfl
theorem ml_X12_377 : Cond.methodLink RX12 377 yX12_need ∈ gT := ch8 (List.mem_of_getElem? (i := 41) rfl) rfl
theorem ml_X12_380 : Cond.methodLink RX12 380 yX12_actWord ∈ gT := ch8 (List.mem_of_getElem? (i := 45) rfl) rfl
theorem ck_X12_357 : Cond.constantLong RX12 357 (1836020325 : Int64) ∈ gT := ch8 (List.mem_of_getElem? (i := 49) rfl) rfl
theorem ck_X12_359 : Cond.constantLong RX12 359 (1818588019 : Int64) ∈ gT := ch8 (List.mem_of_getElem? (i := 50) rfl) rfl
theorem ck_X12_361 : Cond.constantLong RX12 361 (6447474 : Int64) ∈ gT := ch8 (List.mem_of_getElem? (i := 51) rfl) rfl
theorem ck_X12_363 : Cond.constantLong RX12 363 (1734960756 : Int64) ∈ gT := ch8 (List.mem_of_getElem? (i := 52) rfl) rfl
theorem ck_X12_365 : Cond.constantLong RX12 365 (1650549611 : Int64) ∈ gT := ch8 (List.mem_of_getElem? (i := 53) rfl) rfl
theorem ml_L_89 : Cond.methodLink RL 89 yX12_fault ∈ gT := ch8 (List.mem_of_getElem? (i := 54) rfl) rfl
theorem ml_L_93 : Cond.methodLink RL 93 yX12_read ∈ gT := ch8 (List.mem_of_getElem? (i := 58) rfl) rfl
theorem ml_X12_410 : Cond.methodLink RX12 410 yX12_areCouple ∈ gT := ch8 (List.mem_of_getElem? (i := 62) rfl) rfl
theorem ml_X12_413 : Cond.methodLink RX12 413 yX12_lookAt ∈ gT := ch8 (List.mem_of_getElem? (i := 66) rfl) rfl
theorem ml_X12_388 : Cond.methodLink RX12 388 yX12_hasElder ∈ gT := ch8 (List.mem_of_getElem? (i := 70) rfl) rfl
theorem ml_X12_391 : Cond.methodLink RX12 391 yX12_apart ∈ gT := ch8 (List.mem_of_getElem? (i := 74) rfl) rfl
theorem ml_X12_417 : Cond.methodLink RX12 417 yX12_readBy ∈ gT := ch8 (List.mem_of_getElem? (i := 77) rfl) rfl
theorem ml_X12_407 : Cond.methodLink RX12 407 yX12_holds ∈ gT := ch8 (List.mem_of_getElem? (i := 81) rfl) rfl
theorem ml_L_98 : Cond.methodLink RL 98 yX12_may ∈ gT := ch8 (List.mem_of_getElem? (i := 85) rfl) rfl
theorem ml_X12_426 : Cond.methodLink RX12 426 yX12_mayWed ∈ gT := ch8 (List.mem_of_getElem? (i := 89) rfl) rfl
theorem ml_L_102 : Cond.methodLink RL 102 yX12_liking ∈ gT := ch8 (List.mem_of_getElem? (i := 93) rfl) rfl
theorem ml_X12_429 : Cond.methodLink RX12 429 yX12_likingOf ∈ gT := ch8 (List.mem_of_getElem? (i := 97) rfl) rfl
theorem ck_X12_432 : Cond.constant RX12 432 (-1000000 : Int32) ∈ gT := ch8 (List.mem_of_getElem? (i := 101) rfl) rfl
theorem ml_L_106 : Cond.methodLink RL 106 yX12_ask ∈ gT := ch8 (List.mem_of_getElem? (i := 102) rfl) rfl
theorem ml_L_110 : Cond.methodLink RL 110 yX12_promise ∈ gT := ch8 (List.mem_of_getElem? (i := 106) rfl) rfl
theorem ml_X12_433 : Cond.methodLink RX12 433 yX12_isMatch ∈ gT := ch8 (List.mem_of_getElem? (i := 110) rfl) rfl
theorem ml_X12_436 : Cond.methodLink RX12 436 yX12_pays ∈ gT := ch8 (List.mem_of_getElem? (i := 114) rfl) rfl
theorem ml_L_114 : Cond.methodLink RL 114 yX12_wed ∈ gT := ch8 (List.mem_of_getElem? (i := 118) rfl) rfl
theorem ml_X12_439 : Cond.methodLink RX12 439 yX12_copyText ∈ gT := ch8 (List.mem_of_getElem? (i := 122) rfl) rfl
theorem ml_L_119 : Cond.methodLink RL 119 yX12_breaks ∈ gT := ch8 (List.mem_of_getElem? (i := 126) rfl) rfl
theorem ck_X12_442 : Cond.constantLong RX12 442 (100 : Int64) ∈ gT := ch8 (List.mem_of_getElem? (i := 130) rfl) rfl
theorem ml_L_123 : Cond.methodLink RL 123 yX12_match ∈ gT := ch8 (List.mem_of_getElem? (i := 131) rfl) rfl
theorem ml_X12_444 : Cond.methodLink RX12 444 yX12_isLate ∈ gT := ch8 (List.mem_of_getElem? (i := 135) rfl) rfl
theorem ml_L_127 : Cond.methodLink RL 127 yX12_late ∈ gT := ch8 (List.mem_of_getElem? (i := 139) rfl) rfl
theorem ml_L_131 : Cond.methodLink RL 131 yX12_parts ∈ gT := ch8 (List.mem_of_getElem? (i := 143) rfl) rfl
theorem ml_X12_447 : Cond.methodLink RX12 447 yX12_wouldPart ∈ gT := ch8 (List.mem_of_getElem? (i := 147) rfl) rfl
theorem ml_L_135 : Cond.methodLink RL 135 yX12_best ∈ gT := ch8 (List.mem_of_getElem? (i := 151) rfl) rfl
theorem ml_X12_463 : Cond.methodLink RX12 463 yX12_findBest ∈ gT := ch8 (List.mem_of_getElem? (i := 155) rfl) rfl
theorem ml_X12_456 : Cond.methodLink RX12 456 yX12_findFree ∈ gT := ch8 (List.mem_of_getElem? (i := 159) rfl) rfl
theorem ml_X12_459 : Cond.methodLink RX12 459 yX12_brings ∈ gT := ch8 (List.mem_of_getElem? (i := 163) rfl) rfl
theorem ck_X12_450 : Cond.constantLong RX12 450 (-1 : Int64) ∈ gT := ch8 (List.mem_of_getElem? (i := 167) rfl) rfl
theorem ck_X12_452 : Cond.constantLong RX12 452 (1000000000 : Int64) ∈ gT := ch8 (List.mem_of_getElem? (i := 168) rfl) rfl
theorem ck_X12_454 : Cond.constantLong RX12 454 (100000000000 : Int64) ∈ gT := ch8 (List.mem_of_getElem? (i := 169) rfl) rfl
theorem ml_L_139 : Cond.methodLink RL 139 yX12_bestFor ∈ gT := ch8 (List.mem_of_getElem? (i := 170) rfl) rfl
theorem ml_X12_466 : Cond.methodLink RX12 466 yX12_withWhom ∈ gT := ch8 (List.mem_of_getElem? (i := 174) rfl) rfl
theorem ml_L_143 : Cond.methodLink RL 143 yX12_stable ∈ gT := ch8 (List.mem_of_getElem? (i := 178) rfl) rfl
theorem ml_X12_469 : Cond.methodLink RX12 469 yX12_isTaken ∈ gT := ch8 (List.mem_of_getElem? (i := 182) rfl) rfl
theorem ml_X12_472 : Cond.methodLink RX12 472 yX12_nextFor ∈ gT := ch8 (List.mem_of_getElem? (i := 186) rfl) rfl
theorem ml_X12_475 : Cond.methodLink RX12 475 yX12_rather ∈ gT := ch8 (List.mem_of_getElem? (i := 190) rfl) rfl
theorem ml_L_147 : Cond.methodLink RL 147 yX12_ring ∈ gT := ch8 (List.mem_of_getElem? (i := 194) rfl) rfl
theorem ml_X12_490 : Cond.methodLink RX12 490 yX12_findRing ∈ gT := ch8 (List.mem_of_getElem? (i := 198) rfl) rfl
theorem ml_X12_478 : Cond.methodLink RX12 478 yX12_findCouples ∈ gT := ch8 (List.mem_of_getElem? (i := 202) rfl) rfl
theorem ml_X12_487 : Cond.methodLink RX12 487 yX12_ringOf ∈ gT := ch8 (List.mem_of_getElem? (i := 206) rfl) rfl
theorem ml_L_151 : Cond.methodLink RL 151 yX12_ringed ∈ gT := ch8 (List.mem_of_getElem? (i := 210) rfl) rfl
theorem ml_L_155 : Cond.methodLink RL 155 yX12_count ∈ gT := ch8 (List.mem_of_getElem? (i := 214) rfl) rfl
theorem ml_L_159 : Cond.methodLink RL 159 yX12_image ∈ gT := ch8 (List.mem_of_getElem? (i := 218) rfl) rfl
theorem ml_X12_493 : Cond.methodLink RX12 493 yX12_copy ∈ gT := ch8 (List.mem_of_getElem? (i := 222) rfl) rfl
theorem ml_X12_206 : Cond.methodLink RX12 206 yX12_move ∈ gT := ch8 (List.mem_of_getElem? (i := 226) rfl) rfl
theorem ml_X12_210 : Cond.methodLink RX12 210 yX12_moveBits ∈ gT := ch8 (List.mem_of_getElem? (i := 229) rfl) rfl
theorem ml_X12_214 : Cond.methodLink RX12 214 yX12_copyMatches ∈ gT := ch8 (List.mem_of_getElem? (i := 232) rfl) rfl
theorem ml_L_163 : Cond.methodLink RL 163 yX12_again ∈ gT := ch8 (List.mem_of_getElem? (i := 236) rfl) rfl
theorem ac_native : Cond.native arraycopyName ∈ gT := ch1 (List.mem_of_getElem? (i := 145) rfl) rfl
theorem ac_static : Cond.static arraycopyName ∈ gT := ch1 (List.mem_of_getElem? (i := 144) rfl) rfl
