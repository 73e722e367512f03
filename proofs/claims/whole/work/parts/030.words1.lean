/-! methods as constants; the words of each class, link and call -/
theorem ch0 {w : Cond} (h : w ∈ k2_sels lw_privs) (hg : goodWord w = true) : w ∈ gT := gT_lw (List.mem_append_left _ h) hg
theorem chT {w : Cond} (h : w ∈ tables_1) (hg : goodWord w = true) : w ∈ gT := gT_lw (List.mem_append_right _ h) hg
theorem ch1 {w : Cond} (h : w ∈ tables_1_1) (hg : goodWord w = true) : w ∈ gT := chT (List.mem_append_left _ h) hg
theorem ch2 {w : Cond} (h : w ∈ tables_1_2) (hg : goodWord w = true) : w ∈ gT := chT (List.mem_append_right _ (List.mem_append_left _ h)) hg
theorem ch3 {w : Cond} (h : w ∈ tables_1_3) (hg : goodWord w = true) : w ∈ gT := chT (List.mem_append_right _ (List.mem_append_right _ (List.mem_append_left _ h))) hg
theorem ch4 {w : Cond} (h : w ∈ tables_1_4) (hg : goodWord w = true) : w ∈ gT := chT (List.mem_append_right _ (List.mem_append_right _ (List.mem_append_right _ (List.mem_append_left _ h)))) hg
theorem ch5 {w : Cond} (h : w ∈ tables_1_5) (hg : goodWord w = true) : w ∈ gT := chT (List.mem_append_right _ (List.mem_append_right _ (List.mem_append_right _ (List.mem_append_right _ (List.mem_append_left _ h))))) hg
theorem ch6 {w : Cond} (h : w ∈ tables_1_6) (hg : goodWord w = true) : w ∈ gT := chT (List.mem_append_right _ (List.mem_append_right _ (List.mem_append_right _ (List.mem_append_right _ (List.mem_append_right _ (List.mem_append_left _ h)))))) hg
theorem ch7 {w : Cond} (h : w ∈ tables_1_7) (hg : goodWord w = true) : w ∈ gT := chT (List.mem_append_right _ (List.mem_append_right _ (List.mem_append_right _ (List.mem_append_right _ (List.mem_append_right _ (List.mem_append_right _ (List.mem_append_left _ h))))))) hg
theorem ch8 {w : Cond} (h : w ∈ tables_1_8) (hg : goodWord w = true) : w ∈ gT := chT (List.mem_append_right _ (List.mem_append_right _ (List.mem_append_right _ (List.mem_append_right _ (List.mem_append_right _ (List.mem_append_right _ (List.mem_append_right _ (List.mem_append_left _ h)))))))) hg
theorem ch9 {w : Cond} (h : w ∈ tables_1_9) (hg : goodWord w = true) : w ∈ gT := chT (List.mem_append_right _ (List.mem_append_right _ (List.mem_append_right _ (List.mem_append_right _ (List.mem_append_right _ (List.mem_append_right _ (List.mem_append_right _ (List.mem_append_right _ h)))))))) hg
theorem cls0 : ClsOK 0 RX0 TX0 10 := ⟨rfl, by decide +kernel, tyX0_ok, nmX0, rfl, by decide⟩
theorem cls1 : ClsOK 1 RX1 TX1 5 := ⟨rfl, by decide +kernel, tyX1_ok, nmX1, rfl, by decide⟩
theorem cls2 : ClsOK 2 RX2 TX2 10 := ⟨rfl, by decide +kernel, tyX2_ok, nmX2, rfl, by decide⟩
theorem cls3 : ClsOK 3 RX3 TX3 8 := ⟨rfl, by decide +kernel, tyX3_ok, nmX3, rfl, by decide⟩
theorem cls4 : ClsOK 4 RX4 TX4 12 := ⟨rfl, by decide +kernel, tyX4_ok, nmX4, rfl, by decide⟩
theorem cls5 : ClsOK 5 RX5 TX5 7 := ⟨rfl, by decide +kernel, tyX5_ok, nmX5, rfl, by decide⟩
theorem cls6 : ClsOK 6 RX6 TX6 15 := ⟨rfl, by decide +kernel, tyX6_ok, nmX6, rfl, by decide⟩
theorem cls7 : ClsOK 7 RX7 TX7 10 := ⟨rfl, by decide +kernel, tyX7_ok, nmX7, rfl, by decide⟩
theorem cls8 : ClsOK 8 RX8 TX8 12 := ⟨rfl, by decide +kernel, tyX8_ok, nmX8, rfl, by decide⟩
theorem cls9 : ClsOK 9 RX9 TX9 9 := ⟨rfl, by decide +kernel, tyX9_ok, nmX9, rfl, by decide⟩
theorem cls10 : ClsOK 10 RX10 TX10 8 := ⟨rfl, by decide +kernel, tyX10_ok, nmX10, rfl, by decide⟩
theorem cls11 : ClsOK 11 RX11 TX11 7 := ⟨rfl, by decide +kernel, tyX11_ok, nmX11, rfl, by decide⟩
theorem cls12 : ClsOK 12 RX12 TX12 83 := ⟨rfl, by decide +kernel, tyX12_ok, nmX12, rfl, by decide⟩
theorem aI : Cond.arrayClass .int ∈ gT := ch1 (List.mem_of_getElem? (i := 68) rfl) rfl
theorem aZ : Cond.arrayClass .boolean ∈ gT := ch1 (List.mem_of_getElem? (i := 127) rfl) rfl
theorem aBy : Cond.arrayClass .byte ∈ gT := ch2 (List.mem_of_getElem? (i := 34) rfl) rfl
theorem aLo : Cond.arrayClass .long ∈ gT := ch7 (List.mem_of_getElem? (i := 100) rfl) rfl
theorem oi1 : Cond.instanceMethod objectInit ∈ gT := ch1 (List.mem_of_getElem? (i := 28) rfl) rfl
-- Jvm.Cond.code ({ cls := "java/lang/Object", name := "<init>", desc := "()V" } : Jvm.MethodName) object_method_1_code (1 : Nat) (Option.none : Option Jvm.ClassFile.FieldType)
theorem oi2 : Cond.code objectInit ⟨#[0xb1]⟩ 1 none ∈ gT := ch1 (List.mem_of_getElem? (i := 29) rfl) rfl
theorem inX0 : Cond.initialized RX0 ∈ gT := ch1 (List.mem_of_getElem? (i := 2) rfl) rfl
theorem isX0 : Cond.instantiable RX0 10 ∈ gT := ch1 (List.mem_of_getElem? (i := 31) rfl) rfl
theorem inX1 : Cond.initialized RX1 ∈ gT := ch1 (List.mem_of_getElem? (i := 3) rfl) rfl
theorem isX1 : Cond.instantiable RX1 5 ∈ gT := ch1 (List.mem_of_getElem? (i := 37) rfl) rfl
theorem inX2 : Cond.initialized RX2 ∈ gT := ch1 (List.mem_of_getElem? (i := 13) rfl) rfl
theorem isX2 : Cond.instantiable RX2 10 ∈ gT := ch2 (List.mem_of_getElem? (i := 168) rfl) rfl
theorem inX3 : Cond.initialized RX3 ∈ gT := ch1 (List.mem_of_getElem? (i := 12) rfl) rfl
theorem isX3 : Cond.instantiable RX3 8 ∈ gT := ch2 (List.mem_of_getElem? (i := 136) rfl) rfl
theorem inX4 : Cond.initialized RX4 ∈ gT := ch1 (List.mem_of_getElem? (i := 9) rfl) rfl
theorem isX4 : Cond.instantiable RX4 12 ∈ gT := ch1 (List.mem_of_getElem? (i := 173) rfl) rfl
theorem inX5 : Cond.initialized RX5 ∈ gT := ch1 (List.mem_of_getElem? (i := 5) rfl) rfl
theorem isX5 : Cond.instantiable RX5 7 ∈ gT := ch1 (List.mem_of_getElem? (i := 129) rfl) rfl
theorem inX6 : Cond.initialized RX6 ∈ gT := ch1 (List.mem_of_getElem? (i := 14) rfl) rfl
theorem isX6 : Cond.instantiable RX6 15 ∈ gT := ch2 (List.mem_of_getElem? (i := 213) rfl) rfl
theorem inX7 : Cond.initialized RX7 ∈ gT := ch1 (List.mem_of_getElem? (i := 4) rfl) rfl
theorem isX7 : Cond.instantiable RX7 10 ∈ gT := ch1 (List.mem_of_getElem? (i := 70) rfl) rfl
theorem inX8 : Cond.initialized RX8 ∈ gT := ch1 (List.mem_of_getElem? (i := 11) rfl) rfl
theorem isX8 : Cond.instantiable RX8 12 ∈ gT := ch2 (List.mem_of_getElem? (i := 89) rfl) rfl
theorem inX9 : Cond.initialized RX9 ∈ gT := ch1 (List.mem_of_getElem? (i := 15) rfl) rfl
theorem isX9 : Cond.instantiable RX9 9 ∈ gT := ch3 (List.mem_of_getElem? (i := 31) rfl) rfl
theorem inX10 : Cond.initialized RX10 ∈ gT := ch1 (List.mem_of_getElem? (i := 10) rfl) rfl
theorem isX10 : Cond.instantiable RX10 8 ∈ gT := ch1 (List.mem_of_getElem? (i := 233) rfl) rfl
theorem inX11 : Cond.initialized RX11 ∈ gT := ch1 (List.mem_of_getElem? (i := 1) rfl) rfl
theorem isX11 : Cond.instantiable RX11 7 ∈ gT := ch1 (List.mem_of_getElem? (i := 23) rfl) rfl
theorem inX12 : Cond.initialized RX12 ∈ gT := ch1 (List.mem_of_getElem? (i := 16) rfl) rfl
theorem isX12 : Cond.instantiable RX12 83 ∈ gT := ch6 (List.mem_of_getElem? (i := 85) rfl) rfl
theorem inJ0 : Cond.initialized RJ0 ∈ gT := ch1 (List.mem_of_getElem? (i := 17) rfl) rfl
theorem inJ1 : Cond.initialized RJ1 ∈ gT := ch1 (List.mem_of_getElem? (i := 18) rfl) rfl
theorem inJ2 : Cond.initialized RJ2 ∈ gT := ch1 (List.mem_of_getElem? (i := 20) rfl) rfl
theorem inJ3 : Cond.initialized RJ3 ∈ gT := ch1 (List.mem_of_getElem? (i := 19) rfl) rfl
theorem inJ6 : Cond.initialized RJ6 ∈ gT := ch1 (List.mem_of_getElem? (i := 21) rfl) rfl
theorem inJ7 : Cond.initialized RJ7 ∈ gT := ch1 (List.mem_of_getElem? (i := 6) rfl) rfl
theorem inJ9 : Cond.initialized RJ9 ∈ gT := ch1 (List.mem_of_getElem? (i := 7) rfl) rfl
theorem inJ10 : Cond.initialized RJ10 ∈ gT := ch1 (List.mem_of_getElem? (i := 8) rfl) rfl
abbrev mX0_init : Mth := (yX0_init, cX0_init, 3, none)
theorem cv_X0_init : CalI mX0_init 0 := ⟨⟨inX0, ch1 (List.mem_of_getElem? (i := 34) rfl) rfl, ⟨by decide, by decide, by decide +kernel⟩, by decide⟩, ch1 (List.mem_of_getElem? (i := 33) rfl) rfl, rfl, rfl⟩
abbrev mX0_write : Mth := (yX0_write, cX0_write, 3, none)
theorem cv_X0_write : CalV mX0_write 1 := ⟨⟨inX0, ch4 (List.mem_of_getElem? (i := 59) rfl) rfl, ⟨by decide, by decide, by decide +kernel⟩, by decide⟩, ch4 (List.mem_of_getElem? (i := 57) rfl) rfl, ch4 (List.mem_of_getElem? (i := 58) rfl) rfl⟩
abbrev mX0_villageOf : Mth := (yX0_villageOf, cX0_villageOf, 2, (some .int))
theorem cv_X0_villageOf : CalV mX0_villageOf 1 := ⟨⟨inX0, ch5 (List.mem_of_getElem? (i := 54) rfl) rfl, ⟨by decide, by decide, by decide +kernel⟩, by decide⟩, ch5 (List.mem_of_getElem? (i := 52) rfl) rfl, ch5 (List.mem_of_getElem? (i := 53) rfl) rfl⟩
abbrev mX0_customOf : Mth := (yX0_customOf, cX0_customOf, 2, (some (.object "MatchBook$Text")))
theorem cv_X0_customOf : CalV mX0_customOf 1 := ⟨⟨inX0, ch5 (List.mem_of_getElem? (i := 37) rfl) rfl, ⟨by decide, by decide, by decide +kernel⟩, by decide⟩, ch5 (List.mem_of_getElem? (i := 35) rfl) rfl, ch5 (List.mem_of_getElem? (i := 36) rfl) rfl⟩
abbrev mX0_takeFrom : Mth := (yX0_takeFrom, cX0_takeFrom, 2, none)
theorem cv_X0_takeFrom : CalV mX0_takeFrom 1 := ⟨⟨inX0, ch6 (List.mem_of_getElem? (i := 54) rfl) rfl, ⟨by decide, by decide, by decide +kernel⟩, by decide⟩, ch6 (List.mem_of_getElem? (i := 52) rfl) rfl, ch6 (List.mem_of_getElem? (i := 53) rfl) rfl⟩
abbrev mX1_init : Mth := (yX1_init, cX1_init, 1, none)
theorem cv_X1_init : CalI mX1_init 0 := ⟨⟨inX1, ch1 (List.mem_of_getElem? (i := 40) rfl) rfl, ⟨by decide, by decide, by decide +kernel⟩, by decide⟩, ch1 (List.mem_of_getElem? (i := 39) rfl) rfl, rfl, rfl⟩
abbrev mX1_has : Mth := (yX1_has, cX1_has, 2, (some .boolean))
theorem cv_X1_has : CalV mX1_has 1 := ⟨⟨inX1, ch3 (List.mem_of_getElem? (i := 111) rfl) rfl, ⟨by decide, by decide, by decide +kernel⟩, by decide⟩, ch3 (List.mem_of_getElem? (i := 109) rfl) rfl, ch3 (List.mem_of_getElem? (i := 110) rfl) rfl⟩
abbrev mX1_add : Mth := (yX1_add, cX1_add, 4, (some .int))
theorem cv_X1_add : CalV mX1_add 3 := ⟨⟨inX1, ch3 (List.mem_of_getElem? (i := 103) rfl) rfl, ⟨by decide, by decide, by decide +kernel⟩, by decide⟩, ch3 (List.mem_of_getElem? (i := 101) rfl) rfl, ch3 (List.mem_of_getElem? (i := 102) rfl) rfl⟩
abbrev mX1_atFeud : Mth := (yX1_atFeud, cX1_atFeud, 3, (some .boolean))
theorem cv_X1_atFeud : CalV mX1_atFeud 2 := ⟨⟨inX1, ch3 (List.mem_of_getElem? (i := 143) rfl) rfl, ⟨by decide, by decide, by decide +kernel⟩, by decide⟩, ch3 (List.mem_of_getElem? (i := 141) rfl) rfl, ch3 (List.mem_of_getElem? (i := 142) rfl) rfl⟩
abbrev mX1_setFeud : Mth := (yX1_setFeud, cX1_setFeud, 4, none)
theorem cv_X1_setFeud : CalV mX1_setFeud 3 := ⟨⟨inX1, ch3 (List.mem_of_getElem? (i := 147) rfl) rfl, ⟨by decide, by decide, by decide +kernel⟩, by decide⟩, ch3 (List.mem_of_getElem? (i := 145) rfl) rfl, ch3 (List.mem_of_getElem? (i := 146) rfl) rfl⟩
abbrev mX1_pay : Mth := (yX1_pay, cX1_pay, 4, (some .boolean))
theorem cv_X1_pay : CalV mX1_pay 3 := ⟨⟨inX1, ch5 (List.mem_of_getElem? (i := 84) rfl) rfl, ⟨by decide, by decide, by decide +kernel⟩, by decide⟩, ch5 (List.mem_of_getElem? (i := 82) rfl) rfl, ch5 (List.mem_of_getElem? (i := 83) rfl) rfl⟩
abbrev mX1_allFeuds : Mth := (yX1_allFeuds, cX1_allFeuds, 3, (some .int))
theorem cv_X1_allFeuds : CalV mX1_allFeuds 0 := ⟨⟨inX1, ch6 (List.mem_of_getElem? (i := 31) rfl) rfl, ⟨by decide, by decide, by decide +kernel⟩, by decide⟩, ch6 (List.mem_of_getElem? (i := 29) rfl) rfl, ch6 (List.mem_of_getElem? (i := 30) rfl) rfl⟩
abbrev mX1_allCoins : Mth := (yX1_allCoins, cX1_allCoins, 3, (some .int))
theorem cv_X1_allCoins : CalV mX1_allCoins 0 := ⟨⟨inX1, ch6 (List.mem_of_getElem? (i := 36) rfl) rfl, ⟨by decide, by decide, by decide +kernel⟩, by decide⟩, ch6 (List.mem_of_getElem? (i := 34) rfl) rfl, ch6 (List.mem_of_getElem? (i := 35) rfl) rfl⟩
abbrev mX1_takeFrom : Mth := (yX1_takeFrom, cX1_takeFrom, 2, none)
theorem cv_X1_takeFrom : CalV mX1_takeFrom 1 := ⟨⟨inX1, ch6 (List.mem_of_getElem? (i := 58) rfl) rfl, ⟨by decide, by decide, by decide +kernel⟩, by decide⟩, ch6 (List.mem_of_getElem? (i := 56) rfl) rfl, ch6 (List.mem_of_getElem? (i := 57) rfl) rfl⟩
abbrev mX2_init : Mth := (yX2_init, cX2_init, 3, none)
theorem cv_X2_init : CalI mX2_init 2 := ⟨⟨inX2, ch2 (List.mem_of_getElem? (i := 171) rfl) rfl, ⟨by decide, by decide, by decide +kernel⟩, by decide⟩, ch2 (List.mem_of_getElem? (i := 170) rfl) rfl, rfl, rfl⟩
abbrev mX2_face : Mth := (yX2_face, cX2_face, 8, none)
theorem cv_X2_face : CalV mX2_face 2 := ⟨⟨inX2, ch4 (List.mem_of_getElem? (i := 229) rfl) rfl, ⟨by decide, by decide, by decide +kernel⟩, by decide⟩, ch4 (List.mem_of_getElem? (i := 227) rfl) rfl, ch4 (List.mem_of_getElem? (i := 228) rfl) rfl⟩
abbrev mX2_readBy : Mth := (yX2_readBy, cX2_readBy, 4, none)
theorem cv_X2_readBy : CalV mX2_readBy 2 := ⟨⟨inX2, ch5 (List.mem_of_getElem? (i := 7) rfl) rfl, ⟨by decide, by decide, by decide +kernel⟩, by decide⟩, ch5 (List.mem_of_getElem? (i := 5) rfl) rfl, ch5 (List.mem_of_getElem? (i := 6) rfl) rfl⟩
abbrev mX2_obey : Mth := (yX2_obey, cX2_obey, 3, none)
theorem cv_X2_obey : CalV mX2_obey 2 := ⟨⟨inX2, ch5 (List.mem_of_getElem? (i := 24) rfl) rfl, ⟨by decide, by decide, by decide +kernel⟩, by decide⟩, ch5 (List.mem_of_getElem? (i := 23) rfl) rfl, ch0 (List.mem_of_getElem? (i := 33) rfl) rfl⟩
abbrev mX2_letsWed : Mth := (yX2_letsWed, cX2_letsWed, 6, (some .boolean))
theorem cv_X2_letsWed : CalV mX2_letsWed 2 := ⟨⟨inX2, ch5 (List.mem_of_getElem? (i := 32) rfl) rfl, ⟨by decide, by decide, by decide +kernel⟩, by decide⟩, ch5 (List.mem_of_getElem? (i := 30) rfl) rfl, ch5 (List.mem_of_getElem? (i := 31) rfl) rfl⟩
abbrev mX2_likes : Mth := (yX2_likes, cX2_likes, 8, (some .int))
theorem cv_X2_likes : CalV mX2_likes 2 := ⟨⟨inX2, ch5 (List.mem_of_getElem? (i := 50) rfl) rfl, ⟨by decide, by decide, by decide +kernel⟩, by decide⟩, ch5 (List.mem_of_getElem? (i := 48) rfl) rfl, ch5 (List.mem_of_getElem? (i := 49) rfl) rfl⟩
abbrev mX2_isLate : Mth := (yX2_isLate, cX2_isLate, 5, (some .boolean))
theorem cv_X2_isLate : CalV mX2_isLate 1 := ⟨⟨inX2, ch5 (List.mem_of_getElem? (i := 111) rfl) rfl, ⟨by decide, by decide, by decide +kernel⟩, by decide⟩, ch5 (List.mem_of_getElem? (i := 109) rfl) rfl, ch5 (List.mem_of_getElem? (i := 110) rfl) rfl⟩
abbrev mX2_allLate : Mth := (yX2_allLate, cX2_allLate, 3, (some .int))
theorem cv_X2_allLate : CalV mX2_allLate 0 := ⟨⟨inX2, ch6 (List.mem_of_getElem? (i := 45) rfl) rfl, ⟨by decide, by decide, by decide +kernel⟩, by decide⟩, ch6 (List.mem_of_getElem? (i := 43) rfl) rfl, ch6 (List.mem_of_getElem? (i := 44) rfl) rfl⟩
abbrev mX2_wouldPart : Mth := (yX2_wouldPart, cX2_wouldPart, 6, (some .boolean))
theorem cv_X2_wouldPart : CalV mX2_wouldPart 2 := ⟨⟨inX2, ch5 (List.mem_of_getElem? (i := 125) rfl) rfl, ⟨by decide, by decide, by decide +kernel⟩, by decide⟩, ch5 (List.mem_of_getElem? (i := 123) rfl) rfl, ch5 (List.mem_of_getElem? (i := 124) rfl) rfl⟩
abbrev mX3_init : Mth := (yX3_init, cX3_init, 2, none)
theorem cv_X3_init : CalI mX3_init 1 := ⟨⟨inX3, ch2 (List.mem_of_getElem? (i := 139) rfl) rfl, ⟨by decide, by decide, by decide +kernel⟩, by decide⟩, ch2 (List.mem_of_getElem? (i := 138) rfl) rfl, rfl, rfl⟩
abbrev mX3_forget : Mth := (yX3_forget, cX3_forget, 1, none)
theorem cv_X3_forget : CalV mX3_forget 0 := ⟨⟨inX3, ch3 (List.mem_of_getElem? (i := 135) rfl) rfl, ⟨by decide, by decide, by decide +kernel⟩, by decide⟩, ch3 (List.mem_of_getElem? (i := 133) rfl) rfl, ch3 (List.mem_of_getElem? (i := 134) rfl) rfl⟩
abbrev mX3_steps : Mth := (yX3_steps, cX3_steps, 6, (some .int))
theorem cv_X3_steps : CalV mX3_steps 4 := ⟨⟨inX3, ch3 (List.mem_of_getElem? (i := 220) rfl) rfl, ⟨by decide, by decide, by decide +kernel⟩, by decide⟩, ch3 (List.mem_of_getElem? (i := 218) rfl) rfl, ch3 (List.mem_of_getElem? (i := 219) rfl) rfl⟩
abbrev mX3_link : Mth := (yX3_link, cX3_link, 7, (some .int))
theorem cv_X3_link : CalV mX3_link 5 := ⟨⟨inX3, ch4 (List.mem_of_getElem? (i := 8) rfl) rfl, ⟨by decide, by decide, by decide +kernel⟩, by decide⟩, ch4 (List.mem_of_getElem? (i := 6) rfl) rfl, ch4 (List.mem_of_getElem? (i := 7) rfl) rfl⟩
abbrev mX3_nearest : Mth := (yX3_nearest, cX3_nearest, 7, (some .int))
theorem cv_X3_nearest : CalV mX3_nearest 4 := ⟨⟨inX3, ch3 (List.mem_of_getElem? (i := 224) rfl) rfl, ⟨by decide, by decide, by decide +kernel⟩, by decide⟩, ch3 (List.mem_of_getElem? (i := 223) rfl) rfl, ch0 (List.mem_of_getElem? (i := 4) rfl) rfl⟩
abbrev mX3_isNearer : Mth := (yX3_isNearer, cX3_isNearer, 5, (some .boolean))
theorem cv_X3_isNearer : CalV mX3_isNearer 2 := ⟨⟨inX3, ch4 (List.mem_of_getElem? (i := 0) rfl) rfl, ⟨by decide, by decide, by decide +kernel⟩, by decide⟩, ch3 (List.mem_of_getElem? (i := 239) rfl) rfl, ch0 (List.mem_of_getElem? (i := 7) rfl) rfl⟩
abbrev mX3_fill : Mth := (yX3_fill, cX3_fill, 7, none)
theorem cv_X3_fill : CalV mX3_fill 2 := ⟨⟨inX3, ch3 (List.mem_of_getElem? (i := 228) rfl) rfl, ⟨by decide, by decide, by decide +kernel⟩, by decide⟩, ch3 (List.mem_of_getElem? (i := 227) rfl) rfl, ch0 (List.mem_of_getElem? (i := 5) rfl) rfl⟩
abbrev mX3_climb : Mth := (yX3_climb, cX3_climb, 8, none)
theorem cv_X3_climb : CalV mX3_climb 2 := ⟨⟨inX3, ch3 (List.mem_of_getElem? (i := 236) rfl) rfl, ⟨by decide, by decide, by decide +kernel⟩, by decide⟩, ch3 (List.mem_of_getElem? (i := 235) rfl) rfl, ch0 (List.mem_of_getElem? (i := 6) rfl) rfl⟩
abbrev mX3_descend : Mth := (yX3_descend, cX3_descend, 5, none)
theorem cv_X3_descend : CalV mX3_descend 1 := ⟨⟨inX3, ch4 (List.mem_of_getElem? (i := 16) rfl) rfl, ⟨by decide, by decide, by decide +kernel⟩, by decide⟩, ch4 (List.mem_of_getElem? (i := 15) rfl) rfl, ch0 (List.mem_of_getElem? (i := 9) rfl) rfl⟩
abbrev mX3_isChildOf : Mth := (yX3_isChildOf, cX3_isChildOf, 4, (some .boolean))
theorem cv_X3_isChildOf : CalV mX3_isChildOf 2 := ⟨⟨inX3, ch4 (List.mem_of_getElem? (i := 20) rfl) rfl, ⟨by decide, by decide, by decide +kernel⟩, by decide⟩, ch4 (List.mem_of_getElem? (i := 19) rfl) rfl, ch0 (List.mem_of_getElem? (i := 10) rfl) rfl⟩
abbrev mX3_rise : Mth := (yX3_rise, cX3_rise, 6, (some .int))
theorem cv_X3_rise : CalV mX3_rise 3 := ⟨⟨inX3, ch4 (List.mem_of_getElem? (i := 12) rfl) rfl, ⟨by decide, by decide, by decide +kernel⟩, by decide⟩, ch4 (List.mem_of_getElem? (i := 11) rfl) rfl, ch0 (List.mem_of_getElem? (i := 8) rfl) rfl⟩
abbrev mX3_leastParent : Mth := (yX3_leastParent, cX3_leastParent, 4, (some .int))
theorem cv_X3_leastParent : CalV mX3_leastParent 2 := ⟨⟨inX3, ch4 (List.mem_of_getElem? (i := 24) rfl) rfl, ⟨by decide, by decide, by decide +kernel⟩, by decide⟩, ch4 (List.mem_of_getElem? (i := 23) rfl) rfl, ch0 (List.mem_of_getElem? (i := 11) rfl) rfl⟩
abbrev mX3_sink : Mth := (yX3_sink, cX3_sink, 5, (some .int))
theorem cv_X3_sink : CalV mX3_sink 2 := ⟨⟨inX3, ch4 (List.mem_of_getElem? (i := 28) rfl) rfl, ⟨by decide, by decide, by decide +kernel⟩, by decide⟩, ch4 (List.mem_of_getElem? (i := 27) rfl) rfl, ch0 (List.mem_of_getElem? (i := 12) rfl) rfl⟩
abbrev mX3_leastChild : Mth := (yX3_leastChild, cX3_leastChild, 4, (some .int))
theorem cv_X3_leastChild : CalV mX3_leastChild 2 := ⟨⟨inX3, ch4 (List.mem_of_getElem? (i := 32) rfl) rfl, ⟨by decide, by decide, by decide +kernel⟩, by decide⟩, ch4 (List.mem_of_getElem? (i := 31) rfl) rfl, ch0 (List.mem_of_getElem? (i := 13) rfl) rfl⟩
abbrev mX4_init : Mth := (yX4_init, cX4_init, 1, none)
theorem cv_X4_init : CalI mX4_init 0 := ⟨⟨inX4, ch1 (List.mem_of_getElem? (i := 176) rfl) rfl, ⟨by decide, by decide, by decide +kernel⟩, by decide⟩, ch1 (List.mem_of_getElem? (i := 175) rfl) rfl, rfl, rfl⟩
abbrev mX4_has : Mth := (yX4_has, cX4_has, 2, (some .boolean))
theorem cv_X4_has : CalV mX4_has 1 := ⟨⟨inX4, ch3 (List.mem_of_getElem? (i := 191) rfl) rfl, ⟨by decide, by decide, by decide +kernel⟩, by decide⟩, ch3 (List.mem_of_getElem? (i := 189) rfl) rfl, ch3 (List.mem_of_getElem? (i := 190) rfl) rfl⟩
abbrev mX4_isFull : Mth := (yX4_isFull, cX4_isFull, 1, (some .boolean))
theorem cv_X4_isFull : CalV mX4_isFull 0 := ⟨⟨inX4, ch5 (List.mem_of_getElem? (i := 62) rfl) rfl, ⟨by decide, by decide, by decide +kernel⟩, by decide⟩, ch5 (List.mem_of_getElem? (i := 60) rfl) rfl, ch5 (List.mem_of_getElem? (i := 61) rfl) rfl⟩
abbrev mX4_standsAs : Mth := (yX4_standsAs, cX4_standsAs, 3, (some .boolean))
theorem cv_X4_standsAs : CalV mX4_standsAs 2 := ⟨⟨inX4, ch3 (List.mem_of_getElem? (i := 187) rfl) rfl, ⟨by decide, by decide, by decide +kernel⟩, by decide⟩, ch3 (List.mem_of_getElem? (i := 185) rfl) rfl, ch3 (List.mem_of_getElem? (i := 186) rfl) rfl⟩
abbrev mX4_isOpen : Mth := (yX4_isOpen, cX4_isOpen, 2, (some .boolean))
theorem cv_X4_isOpen : CalV mX4_isOpen 1 := ⟨⟨inX4, ch3 (List.mem_of_getElem? (i := 183) rfl) rfl, ⟨by decide, by decide, by decide +kernel⟩, by decide⟩, ch3 (List.mem_of_getElem? (i := 181) rfl) rfl, ch3 (List.mem_of_getElem? (i := 182) rfl) rfl⟩
abbrev mX4_add : Mth := (yX4_add, cX4_add, 4, (some .int))
theorem cv_X4_add : CalV mX4_add 3 := ⟨⟨inX4, ch5 (List.mem_of_getElem? (i := 66) rfl) rfl, ⟨by decide, by decide, by decide +kernel⟩, by decide⟩, ch5 (List.mem_of_getElem? (i := 64) rfl) rfl, ch5 (List.mem_of_getElem? (i := 65) rfl) rfl⟩
abbrev mX4_stand : Mth := (yX4_stand, cX4_stand, 4, none)
theorem cv_X4_stand : CalV mX4_stand 3 := ⟨⟨inX4, ch3 (List.mem_of_getElem? (i := 199) rfl) rfl, ⟨by decide, by decide, by decide +kernel⟩, by decide⟩, ch3 (List.mem_of_getElem? (i := 197) rfl) rfl, ch3 (List.mem_of_getElem? (i := 198) rfl) rfl⟩
abbrev mX4_keepDay : Mth := (yX4_keepDay, cX4_keepDay, 5, none)
theorem cv_X4_keepDay : CalV mX4_keepDay 4 := ⟨⟨inX4, ch5 (List.mem_of_getElem? (i := 93) rfl) rfl, ⟨by decide, by decide, by decide +kernel⟩, by decide⟩, ch5 (List.mem_of_getElem? (i := 91) rfl) rfl, ch5 (List.mem_of_getElem? (i := 92) rfl) rfl⟩
abbrev mX4_howMany : Mth := (yX4_howMany, cX4_howMany, 4, (some .int))
theorem cv_X4_howMany : CalV mX4_howMany 1 := ⟨⟨inX4, ch6 (List.mem_of_getElem? (i := 27) rfl) rfl, ⟨by decide, by decide, by decide +kernel⟩, by decide⟩, ch6 (List.mem_of_getElem? (i := 25) rfl) rfl, ch6 (List.mem_of_getElem? (i := 26) rfl) rfl⟩
abbrev mX4_takeFrom : Mth := (yX4_takeFrom, cX4_takeFrom, 2, none)
theorem cv_X4_takeFrom : CalV mX4_takeFrom 1 := ⟨⟨inX4, ch6 (List.mem_of_getElem? (i := 73) rfl) rfl, ⟨by decide, by decide, by decide +kernel⟩, by decide⟩, ch6 (List.mem_of_getElem? (i := 71) rfl) rfl, ch6 (List.mem_of_getElem? (i := 72) rfl) rfl⟩
abbrev mX5_init : Mth := (yX5_init, cX5_init, 2, none)
theorem cv_X5_init : CalI mX5_init 0 := ⟨⟨inX5, ch1 (List.mem_of_getElem? (i := 132) rfl) rfl, ⟨by decide, by decide, by decide +kernel⟩, by decide⟩, ch1 (List.mem_of_getElem? (i := 131) rfl) rfl, rfl, rfl⟩
abbrev mX5_setRoad : Mth := (yX5_setRoad, cX5_setRoad, 5, none)
theorem cv_X5_setRoad : CalV mX5_setRoad 3 := ⟨⟨inX5, ch3 (List.mem_of_getElem? (i := 123) rfl) rfl, ⟨by decide, by decide, by decide +kernel⟩, by decide⟩, ch3 (List.mem_of_getElem? (i := 121) rfl) rfl, ch3 (List.mem_of_getElem? (i := 122) rfl) rfl⟩
abbrev mX5_shortenWays : Mth := (yX5_shortenWays, cX5_shortenWays, 6, none)
theorem cv_X5_shortenWays : CalV mX5_shortenWays 1 := ⟨⟨inX5, ch3 (List.mem_of_getElem? (i := 127) rfl) rfl, ⟨by decide, by decide, by decide +kernel⟩, by decide⟩, ch3 (List.mem_of_getElem? (i := 126) rfl) rfl, ch0 (List.mem_of_getElem? (i := 0) rfl) rfl⟩
abbrev mX5_shorten : Mth := (yX5_shorten, cX5_shorten, 3, none)
theorem cv_X5_shorten : CalV mX5_shorten 2 := ⟨⟨inX5, ch3 (List.mem_of_getElem? (i := 131) rfl) rfl, ⟨by decide, by decide, by decide +kernel⟩, by decide⟩, ch3 (List.mem_of_getElem? (i := 130) rfl) rfl, ch0 (List.mem_of_getElem? (i := 1) rfl) rfl⟩
abbrev mX5_has : Mth := (yX5_has, cX5_has, 2, (some .boolean))
theorem cv_X5_has : CalV mX5_has 1 := ⟨⟨inX5, ch3 (List.mem_of_getElem? (i := 171) rfl) rfl, ⟨by decide, by decide, by decide +kernel⟩, by decide⟩, ch3 (List.mem_of_getElem? (i := 169) rfl) rfl, ch3 (List.mem_of_getElem? (i := 170) rfl) rfl⟩
abbrev mX5_yearIn : Mth := (yX5_yearIn, cX5_yearIn, 4, (some .int))
theorem cv_X5_yearIn : CalV mX5_yearIn 2 := ⟨⟨inX5, ch3 (List.mem_of_getElem? (i := 175) rfl) rfl, ⟨by decide, by decide, by decide +kernel⟩, by decide⟩, ch3 (List.mem_of_getElem? (i := 173) rfl) rfl, ch3 (List.mem_of_getElem? (i := 174) rfl) rfl⟩
abbrev mX5_add : Mth := (yX5_add, cX5_add, 5, (some .int))
theorem cv_X5_add : CalV mX5_add 4 := ⟨⟨inX5, ch3 (List.mem_of_getElem? (i := 163) rfl) rfl, ⟨by decide, by decide, by decide +kernel⟩, by decide⟩, ch3 (List.mem_of_getElem? (i := 161) rfl) rfl, ch3 (List.mem_of_getElem? (i := 162) rfl) rfl⟩
abbrev mX5_takeFrom : Mth := (yX5_takeFrom, cX5_takeFrom, 2, none)
theorem cv_X5_takeFrom : CalV mX5_takeFrom 1 := ⟨⟨inX5, ch6 (List.mem_of_getElem? (i := 69) rfl) rfl, ⟨by decide, by decide, by decide +kernel⟩, by decide⟩, ch6 (List.mem_of_getElem? (i := 67) rfl) rfl, ch6 (List.mem_of_getElem? (i := 68) rfl) rfl⟩
abbrev mX6_init : Mth := (yX6_init, cX6_init, 3, none)
theorem cv_X6_init : CalI mX6_init 2 := ⟨⟨inX6, ch2 (List.mem_of_getElem? (i := 216) rfl) rfl, ⟨by decide, by decide, by decide +kernel⟩, by decide⟩, ch2 (List.mem_of_getElem? (i := 215) rfl) rfl, rfl, rfl⟩
abbrev mX6_gather : Mth := (yX6_gather, cX6_gather, 4, none)
theorem cv_X6_gather : CalV mX6_gather 0 := ⟨⟨inX6, ch5 (List.mem_of_getElem? (i := 136) rfl) rfl, ⟨by decide, by decide, by decide +kernel⟩, by decide⟩, ch5 (List.mem_of_getElem? (i := 134) rfl) rfl, ch5 (List.mem_of_getElem? (i := 135) rfl) rfl⟩
abbrev mX6_pick : Mth := (yX6_pick, cX6_pick, 5, (some .int))
theorem cv_X6_pick : CalV mX6_pick 2 := ⟨⟨inX6, ch5 (List.mem_of_getElem? (i := 140) rfl) rfl, ⟨by decide, by decide, by decide +kernel⟩, by decide⟩, ch5 (List.mem_of_getElem? (i := 139) rfl) rfl, ch0 (List.mem_of_getElem? (i := 36) rfl) rfl⟩
abbrev mX6_settleBest : Mth := (yX6_settleBest, cX6_settleBest, 4, none)
theorem cv_X6_settleBest : CalV mX6_settleBest 0 := ⟨⟨inX6, ch5 (List.mem_of_getElem? (i := 148) rfl) rfl, ⟨by decide, by decide, by decide +kernel⟩, by decide⟩, ch5 (List.mem_of_getElem? (i := 146) rfl) rfl, ch5 (List.mem_of_getElem? (i := 147) rfl) rfl⟩
abbrev mX6_mostWorth : Mth := (yX6_mostWorth, cX6_mostWorth, 5, (some .int))
theorem cv_X6_mostWorth : CalV mX6_mostWorth 2 := ⟨⟨inX6, ch5 (List.mem_of_getElem? (i := 159) rfl) rfl, ⟨by decide, by decide, by decide +kernel⟩, by decide⟩, ch5 (List.mem_of_getElem? (i := 158) rfl) rfl, ch0 (List.mem_of_getElem? (i := 37) rfl) rfl⟩
abbrev mX6_leastChoice : Mth := (yX6_leastChoice, cX6_leastChoice, 4, (some .int))
theorem cv_X6_leastChoice : CalV mX6_leastChoice 2 := ⟨⟨inX6, ch5 (List.mem_of_getElem? (i := 168) rfl) rfl, ⟨by decide, by decide, by decide +kernel⟩, by decide⟩, ch5 (List.mem_of_getElem? (i := 167) rfl) rfl, ch0 (List.mem_of_getElem? (i := 39) rfl) rfl⟩
abbrev mX6_worthWith : Mth := (yX6_worthWith, cX6_worthWith, 4, (some .int))
theorem cv_X6_worthWith : CalV mX6_worthWith 3 := ⟨⟨inX6, ch5 (List.mem_of_getElem? (i := 163) rfl) rfl, ⟨by decide, by decide, by decide +kernel⟩, by decide⟩, ch5 (List.mem_of_getElem? (i := 162) rfl) rfl, ch0 (List.mem_of_getElem? (i := 38) rfl) rfl⟩
abbrev mX6_weddings : Mth := (yX6_weddings, cX6_weddings, 3, (some .int))
theorem cv_X6_weddings : CalV mX6_weddings 0 := ⟨⟨inX6, ch5 (List.mem_of_getElem? (i := 172) rfl) rfl, ⟨by decide, by decide, by decide +kernel⟩, by decide⟩, ch5 (List.mem_of_getElem? (i := 170) rfl) rfl, ch5 (List.mem_of_getElem? (i := 171) rfl) rfl⟩
abbrev mX6_feudsEnded : Mth := (yX6_feudsEnded, cX6_feudsEnded, 3, (some .int))
theorem cv_X6_feudsEnded : CalV mX6_feudsEnded 0 := ⟨⟨inX6, ch5 (List.mem_of_getElem? (i := 176) rfl) rfl, ⟨by decide, by decide, by decide +kernel⟩, by decide⟩, ch5 (List.mem_of_getElem? (i := 174) rfl) rfl, ch5 (List.mem_of_getElem? (i := 175) rfl) rfl⟩
abbrev mX6_giftsTogether : Mth := (yX6_giftsTogether, cX6_giftsTogether, 3, (some .int))
theorem cv_X6_giftsTogether : CalV mX6_giftsTogether 0 := ⟨⟨inX6, ch5 (List.mem_of_getElem? (i := 180) rfl) rfl, ⟨by decide, by decide, by decide +kernel⟩, by decide⟩, ch5 (List.mem_of_getElem? (i := 178) rfl) rfl, ch5 (List.mem_of_getElem? (i := 179) rfl) rfl⟩
abbrev mX6_partnerOf : Mth := (yX6_partnerOf, cX6_partnerOf, 4, (some .int))
theorem cv_X6_partnerOf : CalV mX6_partnerOf 1 := ⟨⟨inX6, ch5 (List.mem_of_getElem? (i := 188) rfl) rfl, ⟨by decide, by decide, by decide +kernel⟩, by decide⟩, ch5 (List.mem_of_getElem? (i := 186) rfl) rfl, ch5 (List.mem_of_getElem? (i := 187) rfl) rfl⟩
abbrev mX6_settleStable : Mth := (yX6_settleStable, cX6_settleStable, 3, none)
theorem cv_X6_settleStable : CalV mX6_settleStable 0 := ⟨⟨inX6, ch5 (List.mem_of_getElem? (i := 201) rfl) rfl, ⟨by decide, by decide, by decide +kernel⟩, by decide⟩, ch5 (List.mem_of_getElem? (i := 199) rfl) rfl, ch5 (List.mem_of_getElem? (i := 200) rfl) rfl⟩
abbrev mX6_askLikings : Mth := (yX6_askLikings, cX6_askLikings, 4, none)
theorem cv_X6_askLikings : CalV mX6_askLikings 0 := ⟨⟨inX6, ch5 (List.mem_of_getElem? (i := 196) rfl) rfl, ⟨by decide, by decide, by decide +kernel⟩, by decide⟩, ch5 (List.mem_of_getElem? (i := 194) rfl) rfl, ch5 (List.mem_of_getElem? (i := 195) rfl) rfl⟩
abbrev mX6_askAround : Mth := (yX6_askAround, cX6_askAround, 4, (some .boolean))
theorem cv_X6_askAround : CalV mX6_askAround 0 := ⟨⟨inX6, ch5 (List.mem_of_getElem? (i := 205) rfl) rfl, ⟨by decide, by decide, by decide +kernel⟩, by decide⟩, ch5 (List.mem_of_getElem? (i := 204) rfl) rfl, ch0 (List.mem_of_getElem? (i := 40) rfl) rfl⟩
abbrev mX6_isKept : Mth := (yX6_isKept, cX6_isKept, 3, (some .boolean))
theorem cv_X6_isKept : CalV mX6_isKept 1 := ⟨⟨inX6, ch5 (List.mem_of_getElem? (i := 209) rfl) rfl, ⟨by decide, by decide, by decide +kernel⟩, by decide⟩, ch5 (List.mem_of_getElem? (i := 208) rfl) rfl, ch0 (List.mem_of_getElem? (i := 41) rfl) rfl⟩
abbrev mX6_nextToAsk : Mth := (yX6_nextToAsk, cX6_nextToAsk, 5, (some .int))
theorem cv_X6_nextToAsk : CalV mX6_nextToAsk 1 := ⟨⟨inX6, ch5 (List.mem_of_getElem? (i := 213) rfl) rfl, ⟨by decide, by decide, by decide +kernel⟩, by decide⟩, ch5 (List.mem_of_getElem? (i := 212) rfl) rfl, ch0 (List.mem_of_getElem? (i := 42) rfl) rfl⟩
abbrev mX6_hearOut : Mth := (yX6_hearOut, cX6_hearOut, 5, none)
theorem cv_X6_hearOut : CalV mX6_hearOut 2 := ⟨⟨inX6, ch5 (List.mem_of_getElem? (i := 217) rfl) rfl, ⟨by decide, by decide, by decide +kernel⟩, by decide⟩, ch5 (List.mem_of_getElem? (i := 216) rfl) rfl, ch0 (List.mem_of_getElem? (i := 43) rfl) rfl⟩
abbrev mX7_init : Mth := (yX7_init, cX7_init, 1, none)
theorem cv_X7_init : CalI mX7_init 0 := ⟨⟨inX7, ch1 (List.mem_of_getElem? (i := 73) rfl) rfl, ⟨by decide, by decide, by decide +kernel⟩, by decide⟩, ch1 (List.mem_of_getElem? (i := 72) rfl) rfl, rfl, rfl⟩
abbrev mX7_has : Mth := (yX7_has, cX7_has, 2, (some .boolean))
theorem cv_X7_has : CalV mX7_has 1 := ⟨⟨inX7, ch3 (List.mem_of_getElem? (i := 159) rfl) rfl, ⟨by decide, by decide, by decide +kernel⟩, by decide⟩, ch3 (List.mem_of_getElem? (i := 157) rfl) rfl, ch3 (List.mem_of_getElem? (i := 158) rfl) rfl⟩
abbrev mX7_isOf : Mth := (yX7_isOf, cX7_isOf, 3, (some .boolean))
theorem cv_X7_isOf : CalV mX7_isOf 2 := ⟨⟨inX7, ch4 (List.mem_of_getElem? (i := 225) rfl) rfl, ⟨by decide, by decide, by decide +kernel⟩, by decide⟩, ch4 (List.mem_of_getElem? (i := 223) rfl) rfl, ch4 (List.mem_of_getElem? (i := 224) rfl) rfl⟩
abbrev mX7_isFree : Mth := (yX7_isFree, cX7_isFree, 2, (some .boolean))
theorem cv_X7_isFree : CalV mX7_isFree 1 := ⟨⟨inX7, ch4 (List.mem_of_getElem? (i := 43) rfl) rfl, ⟨by decide, by decide, by decide +kernel⟩, by decide⟩, ch4 (List.mem_of_getElem? (i := 41) rfl) rfl, ch4 (List.mem_of_getElem? (i := 42) rfl) rfl⟩
abbrev mX7_add : Mth := (yX7_add, cX7_add, 5, (some .int))
theorem cv_X7_add : CalV mX7_add 4 := ⟨⟨inX7, ch3 (List.mem_of_getElem? (i := 115) rfl) rfl, ⟨by decide, by decide, by decide +kernel⟩, by decide⟩, ch3 (List.mem_of_getElem? (i := 113) rfl) rfl, ch3 (List.mem_of_getElem? (i := 114) rfl) rfl⟩
abbrev mX7_marry : Mth := (yX7_marry, cX7_marry, 3, none)
theorem cv_X7_marry : CalV mX7_marry 2 := ⟨⟨inX7, ch5 (List.mem_of_getElem? (i := 98) rfl) rfl, ⟨by decide, by decide, by decide +kernel⟩, by decide⟩, ch5 (List.mem_of_getElem? (i := 96) rfl) rfl, ch5 (List.mem_of_getElem? (i := 97) rfl) rfl⟩
abbrev mX7_bury : Mth := (yX7_bury, cX7_bury, 3, none)
theorem cv_X7_bury : CalV mX7_bury 1 := ⟨⟨inX7, ch3 (List.mem_of_getElem? (i := 203) rfl) rfl, ⟨by decide, by decide, by decide +kernel⟩, by decide⟩, ch3 (List.mem_of_getElem? (i := 201) rfl) rfl, ch3 (List.mem_of_getElem? (i := 202) rfl) rfl⟩
abbrev mX7_hasElder : Mth := (yX7_hasElder, cX7_hasElder, 3, (some .boolean))
theorem cv_X7_hasElder : CalV mX7_hasElder 1 := ⟨⟨inX7, ch4 (List.mem_of_getElem? (i := 238) rfl) rfl, ⟨by decide, by decide, by decide +kernel⟩, by decide⟩, ch4 (List.mem_of_getElem? (i := 236) rfl) rfl, ch4 (List.mem_of_getElem? (i := 237) rfl) rfl⟩
abbrev mX7_isAhead : Mth := (yX7_isAhead, cX7_isAhead, 3, (some .boolean))
theorem cv_X7_isAhead : CalV mX7_isAhead 2 := ⟨⟨inX7, ch5 (List.mem_of_getElem? (i := 2) rfl) rfl, ⟨by decide, by decide, by decide +kernel⟩, by decide⟩, ch5 (List.mem_of_getElem? (i := 1) rfl) rfl, ch0 (List.mem_of_getElem? (i := 31) rfl) rfl⟩
abbrev mX7_livingIn : Mth := (yX7_livingIn, cX7_livingIn, 4, (some .int))
theorem cv_X7_livingIn : CalV mX7_livingIn 1 := ⟨⟨inX7, ch4 (List.mem_of_getElem? (i := 51) rfl) rfl, ⟨by decide, by decide, by decide +kernel⟩, by decide⟩, ch4 (List.mem_of_getElem? (i := 49) rfl) rfl, ch4 (List.mem_of_getElem? (i := 50) rfl) rfl⟩
abbrev mX7_allFree : Mth := (yX7_allFree, cX7_allFree, 4, (some .int))
theorem cv_X7_allFree : CalV mX7_allFree 1 := ⟨⟨inX7, ch6 (List.mem_of_getElem? (i := 40) rfl) rfl, ⟨by decide, by decide, by decide +kernel⟩, by decide⟩, ch6 (List.mem_of_getElem? (i := 38) rfl) rfl, ch6 (List.mem_of_getElem? (i := 39) rfl) rfl⟩
abbrev mX7_takeFrom : Mth := (yX7_takeFrom, cX7_takeFrom, 2, none)
theorem cv_X7_takeFrom : CalV mX7_takeFrom 1 := ⟨⟨inX7, ch6 (List.mem_of_getElem? (i := 63) rfl) rfl, ⟨by decide, by decide, by decide +kernel⟩, by decide⟩, ch6 (List.mem_of_getElem? (i := 61) rfl) rfl, ch6 (List.mem_of_getElem? (i := 62) rfl) rfl⟩
abbrev mX8_init : Mth := (yX8_init, cX8_init, 2, none)
theorem cv_X8_init : CalI mX8_init 1 := ⟨⟨inX8, ch2 (List.mem_of_getElem? (i := 92) rfl) rfl, ⟨by decide, by decide, by decide +kernel⟩, by decide⟩, ch2 (List.mem_of_getElem? (i := 91) rfl) rfl, rfl, rfl⟩
abbrev mX8_take : Mth := (yX8_take, cX8_take, 4, (some (.object "MatchBook$Text")))
theorem cv_X8_take : CalV mX8_take 1 := ⟨⟨inX8, ch4 (List.mem_of_getElem? (i := 71) rfl) rfl, ⟨by decide, by decide, by decide +kernel⟩, by decide⟩, ch4 (List.mem_of_getElem? (i := 69) rfl) rfl, ch4 (List.mem_of_getElem? (i := 70) rfl) rfl⟩
abbrev mX8_fairCopy : Mth := (yX8_fairCopy, cX8_fairCopy, 2, (some (.object "MatchBook$Text")))
theorem cv_X8_fairCopy : CalV mX8_fairCopy 0 := ⟨⟨inX8, ch4 (List.mem_of_getElem? (i := 205) rfl) rfl, ⟨by decide, by decide, by decide +kernel⟩, by decide⟩, ch4 (List.mem_of_getElem? (i := 204) rfl) rfl, ch0 (List.mem_of_getElem? (i := 29) rfl) rfl⟩
abbrev mX8_readLine : Mth := (yX8_readLine, cX8_readLine, 1, (some .boolean))
theorem cv_X8_readLine : CalV mX8_readLine 0 := ⟨⟨inX8, ch4 (List.mem_of_getElem? (i := 86) rfl) rfl, ⟨by decide, by decide, by decide +kernel⟩, by decide⟩, ch4 (List.mem_of_getElem? (i := 85) rfl) rfl, ch0 (List.mem_of_getElem? (i := 16) rfl) rfl⟩
abbrev mX8_readTests : Mth := (yX8_readTests, cX8_readTests, 3, (some .boolean))
theorem cv_X8_readTests : CalV mX8_readTests 0 := ⟨⟨inX8, ch4 (List.mem_of_getElem? (i := 147) rfl) rfl, ⟨by decide, by decide, by decide +kernel⟩, by decide⟩, ch4 (List.mem_of_getElem? (i := 146) rfl) rfl, ch0 (List.mem_of_getElem? (i := 19) rfl) rfl⟩
abbrev mX8_readTest : Mth := (yX8_readTest, cX8_readTest, 4, (some .boolean))
theorem cv_X8_readTest : CalV mX8_readTest 0 := ⟨⟨inX8, ch4 (List.mem_of_getElem? (i := 151) rfl) rfl, ⟨by decide, by decide, by decide +kernel⟩, by decide⟩, ch4 (List.mem_of_getElem? (i := 150) rfl) rfl, ch0 (List.mem_of_getElem? (i := 20) rfl) rfl⟩
abbrev mX8_keepTest : Mth := (yX8_keepTest, cX8_keepTest, 5, none)
theorem cv_X8_keepTest : CalV mX8_keepTest 4 := ⟨⟨inX8, ch4 (List.mem_of_getElem? (i := 175) rfl) rfl, ⟨by decide, by decide, by decide +kernel⟩, by decide⟩, ch4 (List.mem_of_getElem? (i := 174) rfl) rfl, ch0 (List.mem_of_getElem? (i := 23) rfl) rfl⟩
abbrev mX8_readAct : Mth := (yX8_readAct, cX8_readAct, 3, (some .boolean))
theorem cv_X8_readAct : CalV mX8_readAct 0 := ⟨⟨inX8, ch4 (List.mem_of_getElem? (i := 188) rfl) rfl, ⟨by decide, by decide, by decide +kernel⟩, by decide⟩, ch4 (List.mem_of_getElem? (i := 187) rfl) rfl, ch0 (List.mem_of_getElem? (i := 26) rfl) rfl⟩
abbrev mX8_keepLine : Mth := (yX8_keepLine, cX8_keepLine, 3, none)
theorem cv_X8_keepLine : CalV mX8_keepLine 2 := ⟨⟨inX8, ch4 (List.mem_of_getElem? (i := 201) rfl) rfl, ⟨by decide, by decide, by decide +kernel⟩, by decide⟩, ch4 (List.mem_of_getElem? (i := 200) rfl) rfl, ch0 (List.mem_of_getElem? (i := 28) rfl) rfl⟩
abbrev mX8_takeSign : Mth := (yX8_takeSign, cX8_takeSign, 2, (some .boolean))
theorem cv_X8_takeSign : CalV mX8_takeSign 1 := ⟨⟨inX8, ch4 (List.mem_of_getElem? (i := 184) rfl) rfl, ⟨by decide, by decide, by decide +kernel⟩, by decide⟩, ch4 (List.mem_of_getElem? (i := 183) rfl) rfl, ch0 (List.mem_of_getElem? (i := 25) rfl) rfl⟩
abbrev mX8_refuse : Mth := (yX8_refuse, cX8_refuse, 1, (some .boolean))
theorem cv_X8_refuse : CalV mX8_refuse 0 := ⟨⟨inX8, ch4 (List.mem_of_getElem? (i := 171) rfl) rfl, ⟨by decide, by decide, by decide +kernel⟩, by decide⟩, ch4 (List.mem_of_getElem? (i := 170) rfl) rfl, ch0 (List.mem_of_getElem? (i := 22) rfl) rfl⟩
abbrev mX8_note : Mth := (yX8_note, cX8_note, 2, none)
theorem cv_X8_note : CalV mX8_note 1 := ⟨⟨inX8, ch4 (List.mem_of_getElem? (i := 90) rfl) rfl, ⟨by decide, by decide, by decide +kernel⟩, by decide⟩, ch4 (List.mem_of_getElem? (i := 89) rfl) rfl, ch0 (List.mem_of_getElem? (i := 17) rfl) rfl⟩
abbrev mX8_subjectAtHand : Mth := (yX8_subjectAtHand, cX8_subjectAtHand, 1, (some .int))
theorem cv_X8_subjectAtHand : CalV mX8_subjectAtHand 0 := ⟨⟨inX8, ch4 (List.mem_of_getElem? (i := 156) rfl) rfl, ⟨by decide, by decide, by decide +kernel⟩, by decide⟩, ch4 (List.mem_of_getElem? (i := 155) rfl) rfl, ch0 (List.mem_of_getElem? (i := 21) rfl) rfl⟩
abbrev mX8_actAtHand : Mth := (yX8_actAtHand, cX8_actAtHand, 1, (some .int))
theorem cv_X8_actAtHand : CalV mX8_actAtHand 0 := ⟨⟨inX8, ch4 (List.mem_of_getElem? (i := 192) rfl) rfl, ⟨by decide, by decide, by decide +kernel⟩, by decide⟩, ch4 (List.mem_of_getElem? (i := 191) rfl) rfl, ch0 (List.mem_of_getElem? (i := 27) rfl) rfl⟩
abbrev mX8_isWord : Mth := (yX8_isWord, cX8_isWord, 3, (some .boolean))
theorem cv_X8_isWord : CalV mX8_isWord 1 := ⟨⟨inX8, ch4 (List.mem_of_getElem? (i := 95) rfl) rfl, ⟨by decide, by decide, by decide +kernel⟩, by decide⟩, ch4 (List.mem_of_getElem? (i := 94) rfl) rfl, ch0 (List.mem_of_getElem? (i := 18) rfl) rfl⟩
abbrev mX8_isSign : Mth := (yX8_isSign, cX8_isSign, 2, (some .boolean))
theorem cv_X8_isSign : CalV mX8_isSign 1 := ⟨⟨inX8, ch4 (List.mem_of_getElem? (i := 179) rfl) rfl, ⟨by decide, by decide, by decide +kernel⟩, by decide⟩, ch4 (List.mem_of_getElem? (i := 178) rfl) rfl, ch0 (List.mem_of_getElem? (i := 24) rfl) rfl⟩
abbrev mX8_advance : Mth := (yX8_advance, cX8_advance, 1, none)
theorem cv_X8_advance : CalV mX8_advance 0 := ⟨⟨inX8, ch4 (List.mem_of_getElem? (i := 75) rfl) rfl, ⟨by decide, by decide, by decide +kernel⟩, by decide⟩, ch4 (List.mem_of_getElem? (i := 74) rfl) rfl, ch0 (List.mem_of_getElem? (i := 14) rfl) rfl⟩
abbrev mX8_measure : Mth := (yX8_measure, cX8_measure, 2, none)
theorem cv_X8_measure : CalV mX8_measure 0 := ⟨⟨inX8, ch4 (List.mem_of_getElem? (i := 82) rfl) rfl, ⟨by decide, by decide, by decide +kernel⟩, by decide⟩, ch4 (List.mem_of_getElem? (i := 81) rfl) rfl, ch0 (List.mem_of_getElem? (i := 15) rfl) rfl⟩
abbrev mX8_kindOf : Mth := (yX8_kindOf, cX8_kindOf, 1, (some .int))
theorem cv_X8_kindOf : CalS mX8_kindOf 1 := ⟨⟨inX8, ch4 (List.mem_of_getElem? (i := 78) rfl) rfl, ⟨by decide, by decide, by decide +kernel⟩, by decide⟩, ch4 (List.mem_of_getElem? (i := 77) rfl) rfl⟩
abbrev mX9_init : Mth := (yX9_init, cX9_init, 3, none)
theorem cv_X9_init : CalI mX9_init 2 := ⟨⟨inX9, ch3 (List.mem_of_getElem? (i := 34) rfl) rfl, ⟨by decide, by decide, by decide +kernel⟩, by decide⟩, ch3 (List.mem_of_getElem? (i := 33) rfl) rfl, rfl, rfl⟩
abbrev mX9_search : Mth := (yX9_search, cX9_search, 3, none)
theorem cv_X9_search : CalV mX9_search 0 := ⟨⟨inX9, ch5 (List.mem_of_getElem? (i := 225) rfl) rfl, ⟨by decide, by decide, by decide +kernel⟩, by decide⟩, ch5 (List.mem_of_getElem? (i := 223) rfl) rfl, ch5 (List.mem_of_getElem? (i := 224) rfl) rfl⟩
abbrev mX9_offer : Mth := (yX9_offer, cX9_offer, 5, none)
theorem cv_X9_offer : CalV mX9_offer 3 := ⟨⟨inX9, ch5 (List.mem_of_getElem? (i := 230) rfl) rfl, ⟨by decide, by decide, by decide +kernel⟩, by decide⟩, ch5 (List.mem_of_getElem? (i := 229) rfl) rfl, ch0 (List.mem_of_getElem? (i := 44) rfl) rfl⟩
abbrev mX9_extend : Mth := (yX9_extend, cX9_extend, 7, none)
theorem cv_X9_extend : CalV mX9_extend 2 := ⟨⟨inX9, ch5 (List.mem_of_getElem? (i := 234) rfl) rfl, ⟨by decide, by decide, by decide +kernel⟩, by decide⟩, ch5 (List.mem_of_getElem? (i := 233) rfl) rfl, ch0 (List.mem_of_getElem? (i := 45) rfl) rfl⟩
abbrev mX9_isOnTrial : Mth := (yX9_isOnTrial, cX9_isOnTrial, 4, (some .boolean))
theorem cv_X9_isOnTrial : CalV mX9_isOnTrial 2 := ⟨⟨inX9, ch6 (List.mem_of_getElem? (i := 3) rfl) rfl, ⟨by decide, by decide, by decide +kernel⟩, by decide⟩, ch6 (List.mem_of_getElem? (i := 2) rfl) rfl, ch0 (List.mem_of_getElem? (i := 47) rfl) rfl⟩
abbrev mX9_consider : Mth := (yX9_consider, cX9_consider, 3, none)
theorem cv_X9_consider : CalV mX9_consider 2 := ⟨⟨inX9, ch5 (List.mem_of_getElem? (i := 238) rfl) rfl, ⟨by decide, by decide, by decide +kernel⟩, by decide⟩, ch5 (List.mem_of_getElem? (i := 237) rfl) rfl, ch0 (List.mem_of_getElem? (i := 46) rfl) rfl⟩
abbrev mX9_brideAt : Mth := (yX9_brideAt, cX9_brideAt, 2, (some .int))
theorem cv_X9_brideAt : CalV mX9_brideAt 1 := ⟨⟨inX9, ch6 (List.mem_of_getElem? (i := 11) rfl) rfl, ⟨by decide, by decide, by decide +kernel⟩, by decide⟩, ch6 (List.mem_of_getElem? (i := 9) rfl) rfl, ch6 (List.mem_of_getElem? (i := 10) rfl) rfl⟩
abbrev mX9_groomAt : Mth := (yX9_groomAt, cX9_groomAt, 2, (some .int))
theorem cv_X9_groomAt : CalV mX9_groomAt 1 := ⟨⟨inX9, ch6 (List.mem_of_getElem? (i := 19) rfl) rfl, ⟨by decide, by decide, by decide +kernel⟩, by decide⟩, ch6 (List.mem_of_getElem? (i := 17) rfl) rfl, ch6 (List.mem_of_getElem? (i := 18) rfl) rfl⟩
abbrev mX9_linkAt : Mth := (yX9_linkAt, cX9_linkAt, 3, (some .int))
theorem cv_X9_linkAt : CalV mX9_linkAt 1 := ⟨⟨inX9, ch6 (List.mem_of_getElem? (i := 15) rfl) rfl, ⟨by decide, by decide, by decide +kernel⟩, by decide⟩, ch6 (List.mem_of_getElem? (i := 14) rfl) rfl, ch0 (List.mem_of_getElem? (i := 48) rfl) rfl⟩
abbrev mX10_init : Mth := (yX10_init, cX10_init, 3, none)
theorem cv_X10_init : CalI mX10_init 2 := ⟨⟨inX10, ch1 (List.mem_of_getElem? (i := 236) rfl) rfl, ⟨by decide, by decide, by decide +kernel⟩, by decide⟩, ch1 (List.mem_of_getElem? (i := 235) rfl) rfl, rfl, rfl⟩
abbrev mX10_asksKin : Mth := (yX10_asksKin, cX10_asksKin, 2, (some .boolean))
theorem cv_X10_asksKin : CalV mX10_asksKin 0 := ⟨⟨inX10, ch5 (List.mem_of_getElem? (i := 11) rfl) rfl, ⟨by decide, by decide, by decide +kernel⟩, by decide⟩, ch5 (List.mem_of_getElem? (i := 9) rfl) rfl, ch5 (List.mem_of_getElem? (i := 10) rfl) rfl⟩
abbrev mX10_holds : Mth := (yX10_holds, cX10_holds, 4, (some .boolean))
theorem cv_X10_holds : CalV mX10_holds 2 := ⟨⟨inX10, ch5 (List.mem_of_getElem? (i := 16) rfl) rfl, ⟨by decide, by decide, by decide +kernel⟩, by decide⟩, ch5 (List.mem_of_getElem? (i := 14) rfl) rfl, ch5 (List.mem_of_getElem? (i := 15) rfl) rfl⟩
abbrev mX10_passes : Mth := (yX10_passes, cX10_passes, 3, (some .boolean))
theorem cv_X10_passes : CalV mX10_passes 2 := ⟨⟨inX10, ch5 (List.mem_of_getElem? (i := 20) rfl) rfl, ⟨by decide, by decide, by decide +kernel⟩, by decide⟩, ch5 (List.mem_of_getElem? (i := 19) rfl) rfl, ch0 (List.mem_of_getElem? (i := 32) rfl) rfl⟩
abbrev mX11_init : Mth := (yX11_init, cX11_init, 1, none)
theorem cv_X11_init : CalI mX11_init 0 := ⟨⟨inX11, ch1 (List.mem_of_getElem? (i := 26) rfl) rfl, ⟨by decide, by decide, by decide +kernel⟩, by decide⟩, ch1 (List.mem_of_getElem? (i := 25) rfl) rfl, rfl, rfl⟩
abbrev mX11_house : Mth := (yX11_house, cX11_house, 4, (some .int))
theorem cv_X11_house : CalV mX11_house 3 := ⟨⟨inX11, ch3 (List.mem_of_getElem? (i := 92) rfl) rfl, ⟨by decide, by decide, by decide +kernel⟩, by decide⟩, ch3 (List.mem_of_getElem? (i := 90) rfl) rfl, ch3 (List.mem_of_getElem? (i := 91) rfl) rfl⟩
abbrev mX11_person : Mth := (yX11_person, cX11_person, 5, (some .int))
theorem cv_X11_person : CalV mX11_person 4 := ⟨⟨inX11, ch3 (List.mem_of_getElem? (i := 107) rfl) rfl, ⟨by decide, by decide, by decide +kernel⟩, by decide⟩, ch3 (List.mem_of_getElem? (i := 105) rfl) rfl, ch3 (List.mem_of_getElem? (i := 106) rfl) rfl⟩
abbrev mX11_road : Mth := (yX11_road, cX11_road, 4, (some .boolean))
theorem cv_X11_road : CalV mX11_road 3 := ⟨⟨inX11, ch3 (List.mem_of_getElem? (i := 119) rfl) rfl, ⟨by decide, by decide, by decide +kernel⟩, by decide⟩, ch3 (List.mem_of_getElem? (i := 117) rfl) rfl, ch3 (List.mem_of_getElem? (i := 118) rfl) rfl⟩
abbrev mX11_feud : Mth := (yX11_feud, cX11_feud, 5, (some .boolean))
theorem cv_X11_feud : CalV mX11_feud 3 := ⟨⟨inX11, ch3 (List.mem_of_getElem? (i := 139) rfl) rfl, ⟨by decide, by decide, by decide +kernel⟩, by decide⟩, ch3 (List.mem_of_getElem? (i := 137) rfl) rfl, ch3 (List.mem_of_getElem? (i := 138) rfl) rfl⟩
abbrev mX11_harvest : Mth := (yX11_harvest, cX11_harvest, 3, (some .int))
theorem cv_X11_harvest : CalV mX11_harvest 2 := ⟨⟨inX11, ch3 (List.mem_of_getElem? (i := 151) rfl) rfl, ⟨by decide, by decide, by decide +kernel⟩, by decide⟩, ch3 (List.mem_of_getElem? (i := 149) rfl) rfl, ch3 (List.mem_of_getElem? (i := 150) rfl) rfl⟩
abbrev mX11_parent : Mth := (yX11_parent, cX11_parent, 5, (some .int))
theorem cv_X11_parent : CalV mX11_parent 3 := ⟨⟨inX11, ch3 (List.mem_of_getElem? (i := 155) rfl) rfl, ⟨by decide, by decide, by decide +kernel⟩, by decide⟩, ch3 (List.mem_of_getElem? (i := 153) rfl) rfl, ch3 (List.mem_of_getElem? (i := 154) rfl) rfl⟩
abbrev mX11_heard : Mth := (yX11_heard, cX11_heard, 3, (some .int))
theorem cv_X11_heard : CalV mX11_heard 2 := ⟨⟨inX11, ch3 (List.mem_of_getElem? (i := 167) rfl) rfl, ⟨by decide, by decide, by decide +kernel⟩, by decide⟩, ch3 (List.mem_of_getElem? (i := 165) rfl) rfl, ch3 (List.mem_of_getElem? (i := 166) rfl) rfl⟩
abbrev mX11_die : Mth := (yX11_die, cX11_die, 4, (some .boolean))
theorem cv_X11_die : CalV mX11_die 1 := ⟨⟨inX11, ch3 (List.mem_of_getElem? (i := 179) rfl) rfl, ⟨by decide, by decide, by decide +kernel⟩, by decide⟩, ch3 (List.mem_of_getElem? (i := 177) rfl) rfl, ch3 (List.mem_of_getElem? (i := 178) rfl) rfl⟩
abbrev mX11_year : Mth := (yX11_year, cX11_year, 1, (some .int))
theorem cv_X11_year : CalV mX11_year 0 := ⟨⟨inX11, ch3 (List.mem_of_getElem? (i := 208) rfl) rfl, ⟨by decide, by decide, by decide +kernel⟩, by decide⟩, ch3 (List.mem_of_getElem? (i := 206) rfl) rfl, ch3 (List.mem_of_getElem? (i := 207) rfl) rfl⟩
abbrev mX11_kin : Mth := (yX11_kin, cX11_kin, 5, (some .int))
theorem cv_X11_kin : CalV mX11_kin 4 := ⟨⟨inX11, ch3 (List.mem_of_getElem? (i := 212) rfl) rfl, ⟨by decide, by decide, by decide +kernel⟩, by decide⟩, ch3 (List.mem_of_getElem? (i := 210) rfl) rfl, ch3 (List.mem_of_getElem? (i := 211) rfl) rfl⟩
abbrev mX11_chain : Mth := (yX11_chain, cX11_chain, 6, (some .int))
theorem cv_X11_chain : CalV mX11_chain 5 := ⟨⟨inX11, ch4 (List.mem_of_getElem? (i := 4) rfl) rfl, ⟨by decide, by decide, by decide +kernel⟩, by decide⟩, ch4 (List.mem_of_getElem? (i := 2) rfl) rfl, ch4 (List.mem_of_getElem? (i := 3) rfl) rfl⟩
abbrev mX11_tell : Mth := (yX11_tell, cX11_tell, 4, (some .int))
theorem cv_X11_tell : CalV mX11_tell 2 := ⟨⟨inX11, ch4 (List.mem_of_getElem? (i := 36) rfl) rfl, ⟨by decide, by decide, by decide +kernel⟩, by decide⟩, ch4 (List.mem_of_getElem? (i := 34) rfl) rfl, ch4 (List.mem_of_getElem? (i := 35) rfl) rfl⟩
abbrev mX11_about : Mth := (yX11_about, cX11_about, 4, (some .int))
theorem cv_X11_about : CalV mX11_about 2 := ⟨⟨inX11, ch4 (List.mem_of_getElem? (i := 47) rfl) rfl, ⟨by decide, by decide, by decide +kernel⟩, by decide⟩, ch4 (List.mem_of_getElem? (i := 45) rfl) rfl, ch4 (List.mem_of_getElem? (i := 46) rfl) rfl⟩
abbrev mX11_feed : Mth := (yX11_feed, cX11_feed, 6, (some .int))
theorem cv_X11_feed : CalV mX11_feed 5 := ⟨⟨inX11, ch4 (List.mem_of_getElem? (i := 55) rfl) rfl, ⟨by decide, by decide, by decide +kernel⟩, by decide⟩, ch4 (List.mem_of_getElem? (i := 53) rfl) rfl, ch4 (List.mem_of_getElem? (i := 54) rfl) rfl⟩
abbrev mX11_end : Mth := (yX11_end, cX11_end, 2, (some .int))
theorem cv_X11_end : CalV mX11_end 1 := ⟨⟨inX11, ch4 (List.mem_of_getElem? (i := 63) rfl) rfl, ⟨by decide, by decide, by decide +kernel⟩, by decide⟩, ch4 (List.mem_of_getElem? (i := 61) rfl) rfl, ch4 (List.mem_of_getElem? (i := 62) rfl) rfl⟩
abbrev mX11_text : Mth := (yX11_text, cX11_text, 3, (some .int))
theorem cv_X11_text : CalV mX11_text 1 := ⟨⟨inX11, ch4 (List.mem_of_getElem? (i := 67) rfl) rfl, ⟨by decide, by decide, by decide +kernel⟩, by decide⟩, ch4 (List.mem_of_getElem? (i := 65) rfl) rfl, ch4 (List.mem_of_getElem? (i := 66) rfl) rfl⟩
abbrev mX11_fault : Mth := (yX11_fault, cX11_fault, 2, (some .int))
theorem cv_X11_fault : CalV mX11_fault 1 := ⟨⟨inX11, ch4 (List.mem_of_getElem? (i := 213) rfl) rfl, ⟨by decide, by decide, by decide +kernel⟩, by decide⟩, ch4 (List.mem_of_getElem? (i := 211) rfl) rfl, ch4 (List.mem_of_getElem? (i := 212) rfl) rfl⟩
abbrev mX11_read : Mth := (yX11_read, cX11_read, 5, (some .int))
theorem cv_X11_read : CalV mX11_read 4 := ⟨⟨inX11, ch4 (List.mem_of_getElem? (i := 217) rfl) rfl, ⟨by decide, by decide, by decide +kernel⟩, by decide⟩, ch4 (List.mem_of_getElem? (i := 215) rfl) rfl, ch4 (List.mem_of_getElem? (i := 216) rfl) rfl⟩
abbrev mX11_may : Mth := (yX11_may, cX11_may, 3, (some .boolean))
theorem cv_X11_may : CalV mX11_may 2 := ⟨⟨inX11, ch5 (List.mem_of_getElem? (i := 28) rfl) rfl, ⟨by decide, by decide, by decide +kernel⟩, by decide⟩, ch5 (List.mem_of_getElem? (i := 26) rfl) rfl, ch5 (List.mem_of_getElem? (i := 27) rfl) rfl⟩
abbrev mX11_liking : Mth := (yX11_liking, cX11_liking, 4, (some .int))
theorem cv_X11_liking : CalV mX11_liking 2 := ⟨⟨inX11, ch5 (List.mem_of_getElem? (i := 45) rfl) rfl, ⟨by decide, by decide, by decide +kernel⟩, by decide⟩, ch5 (List.mem_of_getElem? (i := 43) rfl) rfl, ch5 (List.mem_of_getElem? (i := 44) rfl) rfl⟩
abbrev mX11_ask : Mth := (yX11_ask, cX11_ask, 4, (some .int))
theorem cv_X11_ask : CalV mX11_ask 2 := ⟨⟨inX11, ch5 (List.mem_of_getElem? (i := 58) rfl) rfl, ⟨by decide, by decide, by decide +kernel⟩, by decide⟩, ch5 (List.mem_of_getElem? (i := 56) rfl) rfl, ch5 (List.mem_of_getElem? (i := 57) rfl) rfl⟩
abbrev mX11_promise : Mth := (yX11_promise, cX11_promise, 4, (some .boolean))
theorem cv_X11_promise : CalV mX11_promise 1 := ⟨⟨inX11, ch5 (List.mem_of_getElem? (i := 71) rfl) rfl, ⟨by decide, by decide, by decide +kernel⟩, by decide⟩, ch5 (List.mem_of_getElem? (i := 69) rfl) rfl, ch5 (List.mem_of_getElem? (i := 70) rfl) rfl⟩
abbrev mX11_wed : Mth := (yX11_wed, cX11_wed, 8, (some .boolean))
theorem cv_X11_wed : CalV mX11_wed 1 := ⟨⟨inX11, ch5 (List.mem_of_getElem? (i := 88) rfl) rfl, ⟨by decide, by decide, by decide +kernel⟩, by decide⟩, ch5 (List.mem_of_getElem? (i := 86) rfl) rfl, ch5 (List.mem_of_getElem? (i := 87) rfl) rfl⟩
abbrev mX11_breaks : Mth := (yX11_breaks, cX11_breaks, 6, (some .boolean))
theorem cv_X11_breaks : CalV mX11_breaks 2 := ⟨⟨inX11, ch5 (List.mem_of_getElem? (i := 102) rfl) rfl, ⟨by decide, by decide, by decide +kernel⟩, by decide⟩, ch5 (List.mem_of_getElem? (i := 100) rfl) rfl, ch5 (List.mem_of_getElem? (i := 101) rfl) rfl⟩
abbrev mX11_match : Mth := (yX11_match, cX11_match, 4, (some .int))
theorem cv_X11_match : CalV mX11_match 2 := ⟨⟨inX11, ch5 (List.mem_of_getElem? (i := 106) rfl) rfl, ⟨by decide, by decide, by decide +kernel⟩, by decide⟩, ch5 (List.mem_of_getElem? (i := 104) rfl) rfl, ch5 (List.mem_of_getElem? (i := 105) rfl) rfl⟩
abbrev mX11_late : Mth := (yX11_late, cX11_late, 4, (some .int))
theorem cv_X11_late : CalV mX11_late 1 := ⟨⟨inX11, ch5 (List.mem_of_getElem? (i := 117) rfl) rfl, ⟨by decide, by decide, by decide +kernel⟩, by decide⟩, ch5 (List.mem_of_getElem? (i := 115) rfl) rfl, ch5 (List.mem_of_getElem? (i := 116) rfl) rfl⟩
abbrev mX11_parts : Mth := (yX11_parts, cX11_parts, 5, (some .int))
theorem cv_X11_parts : CalV mX11_parts 1 := ⟨⟨inX11, ch5 (List.mem_of_getElem? (i := 121) rfl) rfl, ⟨by decide, by decide, by decide +kernel⟩, by decide⟩, ch5 (List.mem_of_getElem? (i := 119) rfl) rfl, ch5 (List.mem_of_getElem? (i := 120) rfl) rfl⟩
abbrev mX11_best : Mth := (yX11_best, cX11_best, 2, (some .int))
theorem cv_X11_best : CalV mX11_best 1 := ⟨⟨inX11, ch5 (List.mem_of_getElem? (i := 132) rfl) rfl, ⟨by decide, by decide, by decide +kernel⟩, by decide⟩, ch5 (List.mem_of_getElem? (i := 130) rfl) rfl, ch5 (List.mem_of_getElem? (i := 131) rfl) rfl⟩
abbrev mX11_bestFor : Mth := (yX11_bestFor, cX11_bestFor, 2, (some .int))
theorem cv_X11_bestFor : CalV mX11_bestFor 1 := ⟨⟨inX11, ch5 (List.mem_of_getElem? (i := 184) rfl) rfl, ⟨by decide, by decide, by decide +kernel⟩, by decide⟩, ch5 (List.mem_of_getElem? (i := 182) rfl) rfl, ch5 (List.mem_of_getElem? (i := 183) rfl) rfl⟩
abbrev mX11_stable : Mth := (yX11_stable, cX11_stable, 2, (some .int))
theorem cv_X11_stable : CalV mX11_stable 1 := ⟨⟨inX11, ch5 (List.mem_of_getElem? (i := 192) rfl) rfl, ⟨by decide, by decide, by decide +kernel⟩, by decide⟩, ch5 (List.mem_of_getElem? (i := 190) rfl) rfl, ch5 (List.mem_of_getElem? (i := 191) rfl) rfl⟩
abbrev mX11_ring : Mth := (yX11_ring, cX11_ring, 2, (some .int))
theorem cv_X11_ring : CalV mX11_ring 1 := ⟨⟨inX11, ch5 (List.mem_of_getElem? (i := 221) rfl) rfl, ⟨by decide, by decide, by decide +kernel⟩, by decide⟩, ch5 (List.mem_of_getElem? (i := 219) rfl) rfl, ch5 (List.mem_of_getElem? (i := 220) rfl) rfl⟩
abbrev mX11_ringed : Mth := (yX11_ringed, cX11_ringed, 3, (some .int))
theorem cv_X11_ringed : CalV mX11_ringed 2 := ⟨⟨inX11, ch6 (List.mem_of_getElem? (i := 7) rfl) rfl, ⟨by decide, by decide, by decide +kernel⟩, by decide⟩, ch6 (List.mem_of_getElem? (i := 5) rfl) rfl, ch6 (List.mem_of_getElem? (i := 6) rfl) rfl⟩
abbrev mX11_count : Mth := (yX11_count, cX11_count, 2, (some .int))
theorem cv_X11_count : CalV mX11_count 1 := ⟨⟨inX11, ch6 (List.mem_of_getElem? (i := 23) rfl) rfl, ⟨by decide, by decide, by decide +kernel⟩, by decide⟩, ch6 (List.mem_of_getElem? (i := 21) rfl) rfl, ch6 (List.mem_of_getElem? (i := 22) rfl) rfl⟩
abbrev mX11_image : Mth := (yX11_image, cX11_image, 3, (some .boolean))
theorem cv_X11_image : CalV mX11_image 1 := ⟨⟨inX11, ch6 (List.mem_of_getElem? (i := 50) rfl) rfl, ⟨by decide, by decide, by decide +kernel⟩, by decide⟩, ch6 (List.mem_of_getElem? (i := 48) rfl) rfl, ch6 (List.mem_of_getElem? (i := 49) rfl) rfl⟩
abbrev mX11_again : Mth := (yX11_again, cX11_again, 3, (some .boolean))
theorem cv_X11_again : CalV mX11_again 1 := ⟨⟨inX11, ch6 (List.mem_of_getElem? (i := 83) rfl) rfl, ⟨by decide, by decide, by decide +kernel⟩, by decide⟩, ch6 (List.mem_of_getElem? (i := 81) rfl) rfl, ch6 (List.mem_of_getElem? (i := 82) rfl) rfl⟩
abbrev mX11_isKinAsked : Mth := (yX11_isKinAsked, cX11_isKinAsked, 5, (some .boolean))
theorem cv_X11_isKinAsked : CalV mX11_isKinAsked 4 := ⟨⟨inX11, ch3 (List.mem_of_getElem? (i := 216) rfl) rfl, ⟨by decide, by decide, by decide +kernel⟩, by decide⟩, ch3 (List.mem_of_getElem? (i := 215) rfl) rfl, ch0 (List.mem_of_getElem? (i := 3) rfl) rfl⟩
abbrev mX11_isCouple : Mth := (yX11_isCouple, cX11_isCouple, 3, (some .boolean))
theorem cv_X11_isCouple : CalV mX11_isCouple 2 := ⟨⟨inX11, ch4 (List.mem_of_getElem? (i := 221) rfl) rfl, ⟨by decide, by decide, by decide +kernel⟩, by decide⟩, ch4 (List.mem_of_getElem? (i := 220) rfl) rfl, ch0 (List.mem_of_getElem? (i := 30) rfl) rfl⟩
abbrev mX11_herHouse : Mth := (yX11_herHouse, cX11_herHouse, 2, (some .int))
theorem cv_X11_herHouse : CalV mX11_herHouse 1 := ⟨⟨inX11, ch5 (List.mem_of_getElem? (i := 80) rfl) rfl, ⟨by decide, by decide, by decide +kernel⟩, by decide⟩, ch5 (List.mem_of_getElem? (i := 79) rfl) rfl, ch0 (List.mem_of_getElem? (i := 35) rfl) rfl⟩
abbrev mX11_hisHouse : Mth := (yX11_hisHouse, cX11_hisHouse, 2, (some .int))
theorem cv_X11_hisHouse : CalV mX11_hisHouse 1 := ⟨⟨inX11, ch5 (List.mem_of_getElem? (i := 76) rfl) rfl, ⟨by decide, by decide, by decide +kernel⟩, by decide⟩, ch5 (List.mem_of_getElem? (i := 75) rfl) rfl, ch0 (List.mem_of_getElem? (i := 34) rfl) rfl⟩
abbrev mX11_closeMatch : Mth := (yX11_closeMatch, cX11_closeMatch, 3, none)
theorem cv_X11_closeMatch : CalV mX11_closeMatch 2 := ⟨⟨inX11, ch3 (List.mem_of_getElem? (i := 195) rfl) rfl, ⟨by decide, by decide, by decide +kernel⟩, by decide⟩, ch3 (List.mem_of_getElem? (i := 194) rfl) rfl, ch0 (List.mem_of_getElem? (i := 2) rfl) rfl⟩
abbrev mX11_within : Mth := (yX11_within, cX11_within, 3, (some .boolean))
theorem cv_X11_within : CalS mX11_within 3 := ⟨⟨inX11, ch3 (List.mem_of_getElem? (i := 95) rfl) rfl, ⟨by decide, by decide, by decide +kernel⟩, by decide⟩, ch3 (List.mem_of_getElem? (i := 94) rfl) rfl⟩
abbrev mX11_isVillage : Mth := (yX11_isVillage, cX11_isVillage, 1, (some .boolean))
theorem cv_X11_isVillage : CalS mX11_isVillage 1 := ⟨⟨inX11, ch3 (List.mem_of_getElem? (i := 98) rfl) rfl, ⟨by decide, by decide, by decide +kernel⟩, by decide⟩, ch3 (List.mem_of_getElem? (i := 97) rfl) rfl⟩
abbrev mX11_bit : Mth := (yX11_bit, cX11_bit, 1, (some .int))
theorem cv_X11_bit : CalS mX11_bit 1 := ⟨⟨inX11, ch4 (List.mem_of_getElem? (i := 39) rfl) rfl, ⟨by decide, by decide, by decide +kernel⟩, by decide⟩, ch4 (List.mem_of_getElem? (i := 38) rfl) rfl⟩
abbrev mX11_copy : Mth := (yX11_copy, cX11_copy, 2, none)
theorem cv_X11_copy : CalS mX11_copy 2 := ⟨⟨inX11, ch1 (List.mem_of_getElem? (i := 139) rfl) rfl, ⟨by decide, by decide, by decide +kernel⟩, by decide⟩, ch1 (List.mem_of_getElem? (i := 138) rfl) rfl⟩
abbrev mX11_copyFlags : Mth := (yX11_copyFlags, cX11_copyFlags, 3, none)
theorem cv_X11_copyFlags : CalS mX11_copyFlags 2 := ⟨⟨inX11, ch4 (List.mem_of_getElem? (i := 209) rfl) rfl, ⟨by decide, by decide, by decide +kernel⟩, by decide⟩, ch4 (List.mem_of_getElem? (i := 208) rfl) rfl⟩
abbrev mX11_copyTexts : Mth := (yX11_copyTexts, cX11_copyTexts, 3, none)
theorem cv_X11_copyTexts : CalS mX11_copyTexts 2 := ⟨⟨inX11, ch6 (List.mem_of_getElem? (i := 77) rfl) rfl, ⟨by decide, by decide, by decide +kernel⟩, by decide⟩, ch6 (List.mem_of_getElem? (i := 76) rfl) rfl⟩
abbrev mX11_clearRow : Mth := (yX11_clearRow, cX11_clearRow, 4, none)
theorem cv_X11_clearRow : CalS mX11_clearRow 3 := ⟨⟨inX11, ch3 (List.mem_of_getElem? (i := 231) rfl) rfl, ⟨by decide, by decide, by decide +kernel⟩, by decide⟩, ch3 (List.mem_of_getElem? (i := 230) rfl) rfl⟩
abbrev mX12_init : Mth := (yX12_init, cX12_init, 2, none)
theorem cv_X12_init : CalI mX12_init 0 := ⟨⟨inX12, ch6 (List.mem_of_getElem? (i := 88) rfl) rfl, ⟨by decide, by decide, by decide +kernel⟩, by decide⟩, ch6 (List.mem_of_getElem? (i := 87) rfl) rfl, rfl, rfl⟩
abbrev mX12_in : Mth := (yX12_in, cX12_in, 3, (some .boolean))
theorem cv_X12_in : CalS mX12_in 3 := ⟨⟨inX12, ch7 (List.mem_of_getElem? (i := 107) rfl) rfl, ⟨by decide, by decide, by decide +kernel⟩, by decide⟩, ch7 (List.mem_of_getElem? (i := 106) rfl) rfl⟩
abbrev mX12_move : Mth := (yX12_move, cX12_move, 5, none)
theorem cv_X12_move : CalS mX12_move 4 := ⟨⟨inX12, ch8 (List.mem_of_getElem? (i := 228) rfl) rfl, ⟨by decide, by decide, by decide +kernel⟩, by decide⟩, ch8 (List.mem_of_getElem? (i := 227) rfl) rfl⟩
abbrev mX12_moveBits : Mth := (yX12_moveBits, cX12_moveBits, 5, none)
theorem cv_X12_moveBits : CalS mX12_moveBits 4 := ⟨⟨inX12, ch8 (List.mem_of_getElem? (i := 231) rfl) rfl, ⟨by decide, by decide, by decide +kernel⟩, by decide⟩, ch8 (List.mem_of_getElem? (i := 230) rfl) rfl⟩
abbrev mX12_copy : Mth := (yX12_copy, cX12_copy, 4, none)
theorem cv_X12_copy : CalV mX12_copy 2 := ⟨⟨inX12, ch8 (List.mem_of_getElem? (i := 225) rfl) rfl, ⟨by decide, by decide, by decide +kernel⟩, by decide⟩, ch8 (List.mem_of_getElem? (i := 224) rfl) rfl, ch0 (List.mem_of_getElem? (i := 96) rfl) rfl⟩
abbrev mX12_copyMatches : Mth := (yX12_copyMatches, cX12_copyMatches, 4, none)
theorem cv_X12_copyMatches : CalV mX12_copyMatches 2 := ⟨⟨inX12, ch8 (List.mem_of_getElem? (i := 235) rfl) rfl, ⟨by decide, by decide, by decide +kernel⟩, by decide⟩, ch8 (List.mem_of_getElem? (i := 234) rfl) rfl, ch0 (List.mem_of_getElem? (i := 97) rfl) rfl⟩
abbrev mX12_isVillage : Mth := (yX12_isVillage, cX12_isVillage, 1, (some .boolean))
theorem cv_X12_isVillage : CalS mX12_isVillage 1 := ⟨⟨inX12, ch7 (List.mem_of_getElem? (i := 110) rfl) rfl, ⟨by decide, by decide, by decide +kernel⟩, by decide⟩, ch7 (List.mem_of_getElem? (i := 109) rfl) rfl⟩
abbrev mX12_isHouse : Mth := (yX12_isHouse, cX12_isHouse, 2, (some .boolean))
theorem cv_X12_isHouse : CalV mX12_isHouse 1 := ⟨⟨inX12, ch7 (List.mem_of_getElem? (i := 119) rfl) rfl, ⟨by decide, by decide, by decide +kernel⟩, by decide⟩, ch7 (List.mem_of_getElem? (i := 118) rfl) rfl, ch0 (List.mem_of_getElem? (i := 49) rfl) rfl⟩
abbrev mX12_isPerson : Mth := (yX12_isPerson, cX12_isPerson, 2, (some .boolean))
theorem cv_X12_isPerson : CalV mX12_isPerson 1 := ⟨⟨inX12, ch7 (List.mem_of_getElem? (i := 147) rfl) rfl, ⟨by decide, by decide, by decide +kernel⟩, by decide⟩, ch7 (List.mem_of_getElem? (i := 146) rfl) rfl, ch0 (List.mem_of_getElem? (i := 52) rfl) rfl⟩
abbrev mX12_areCouple : Mth := (yX12_areCouple, cX12_areCouple, 3, (some .boolean))
theorem cv_X12_areCouple : CalV mX12_areCouple 2 := ⟨⟨inX12, ch8 (List.mem_of_getElem? (i := 65) rfl) rfl, ⟨by decide, by decide, by decide +kernel⟩, by decide⟩, ch8 (List.mem_of_getElem? (i := 64) rfl) rfl, ch0 (List.mem_of_getElem? (i := 74) rfl) rfl⟩
abbrev mX12_ageOf : Mth := (yX12_ageOf, cX12_ageOf, 2, (some .int))
theorem cv_X12_ageOf : CalV mX12_ageOf 1 := ⟨⟨inX12, ch7 (List.mem_of_getElem? (i := 210) rfl) rfl, ⟨by decide, by decide, by decide +kernel⟩, by decide⟩, ch7 (List.mem_of_getElem? (i := 209) rfl) rfl, ch0 (List.mem_of_getElem? (i := 61) rfl) rfl⟩
abbrev mX12_house : Mth := (yX12_house, cX12_house, 5, (some .int))
theorem cv_X12_house : CalV mX12_house 3 := ⟨⟨inX12, ch7 (List.mem_of_getElem? (i := 104) rfl) rfl, ⟨by decide, by decide, by decide +kernel⟩, by decide⟩, ch7 (List.mem_of_getElem? (i := 102) rfl) rfl, ch7 (List.mem_of_getElem? (i := 103) rfl) rfl⟩
abbrev mX12_person : Mth := (yX12_person, cX12_person, 6, (some .int))
theorem cv_X12_person : CalV mX12_person 4 := ⟨⟨inX12, ch7 (List.mem_of_getElem? (i := 115) rfl) rfl, ⟨by decide, by decide, by decide +kernel⟩, by decide⟩, ch7 (List.mem_of_getElem? (i := 113) rfl) rfl, ch7 (List.mem_of_getElem? (i := 114) rfl) rfl⟩
abbrev mX12_road : Mth := (yX12_road, cX12_road, 4, (some .boolean))
theorem cv_X12_road : CalV mX12_road 3 := ⟨⟨inX12, ch7 (List.mem_of_getElem? (i := 123) rfl) rfl, ⟨by decide, by decide, by decide +kernel⟩, by decide⟩, ch7 (List.mem_of_getElem? (i := 121) rfl) rfl, ch7 (List.mem_of_getElem? (i := 122) rfl) rfl⟩
abbrev mX12_areFeuding : Mth := (yX12_areFeuding, cX12_areFeuding, 3, (some .boolean))
theorem cv_X12_areFeuding : CalV mX12_areFeuding 2 := ⟨⟨inX12, ch7 (List.mem_of_getElem? (i := 131) rfl) rfl, ⟨by decide, by decide, by decide +kernel⟩, by decide⟩, ch7 (List.mem_of_getElem? (i := 130) rfl) rfl, ch0 (List.mem_of_getElem? (i := 50) rfl) rfl⟩
abbrev mX12_setFeud : Mth := (yX12_setFeud, cX12_setFeud, 4, none)
theorem cv_X12_setFeud : CalV mX12_setFeud 3 := ⟨⟨inX12, ch7 (List.mem_of_getElem? (i := 135) rfl) rfl, ⟨by decide, by decide, by decide +kernel⟩, by decide⟩, ch7 (List.mem_of_getElem? (i := 134) rfl) rfl, ch0 (List.mem_of_getElem? (i := 51) rfl) rfl⟩
abbrev mX12_feud : Mth := (yX12_feud, cX12_feud, 4, (some .boolean))
theorem cv_X12_feud : CalV mX12_feud 3 := ⟨⟨inX12, ch7 (List.mem_of_getElem? (i := 127) rfl) rfl, ⟨by decide, by decide, by decide +kernel⟩, by decide⟩, ch7 (List.mem_of_getElem? (i := 125) rfl) rfl, ch7 (List.mem_of_getElem? (i := 126) rfl) rfl⟩
abbrev mX12_harvest : Mth := (yX12_harvest, cX12_harvest, 3, (some .int))
theorem cv_X12_harvest : CalV mX12_harvest 2 := ⟨⟨inX12, ch7 (List.mem_of_getElem? (i := 139) rfl) rfl, ⟨by decide, by decide, by decide +kernel⟩, by decide⟩, ch7 (List.mem_of_getElem? (i := 137) rfl) rfl, ch7 (List.mem_of_getElem? (i := 138) rfl) rfl⟩
abbrev mX12_parent : Mth := (yX12_parent, cX12_parent, 5, (some .int))
theorem cv_X12_parent : CalV mX12_parent 3 := ⟨⟨inX12, ch7 (List.mem_of_getElem? (i := 143) rfl) rfl, ⟨by decide, by decide, by decide +kernel⟩, by decide⟩, ch7 (List.mem_of_getElem? (i := 141) rfl) rfl, ch7 (List.mem_of_getElem? (i := 142) rfl) rfl⟩
abbrev mX12_findTakes : Mth := (yX12_findTakes, cX12_findTakes, 7, none)
theorem cv_X12_findTakes : CalV mX12_findTakes 1 := ⟨⟨inX12, ch7 (List.mem_of_getElem? (i := 155) rfl) rfl, ⟨by decide, by decide, by decide +kernel⟩, by decide⟩, ch7 (List.mem_of_getElem? (i := 154) rfl) rfl, ch0 (List.mem_of_getElem? (i := 53) rfl) rfl⟩
abbrev mX12_heard : Mth := (yX12_heard, cX12_heard, 4, (some .int))
theorem cv_X12_heard : CalV mX12_heard 2 := ⟨⟨inX12, ch7 (List.mem_of_getElem? (i := 151) rfl) rfl, ⟨by decide, by decide, by decide +kernel⟩, by decide⟩, ch7 (List.mem_of_getElem? (i := 149) rfl) rfl, ch7 (List.mem_of_getElem? (i := 150) rfl) rfl⟩
abbrev mX12_die : Mth := (yX12_die, cX12_die, 4, (some .boolean))
theorem cv_X12_die : CalV mX12_die 1 := ⟨⟨inX12, ch7 (List.mem_of_getElem? (i := 159) rfl) rfl, ⟨by decide, by decide, by decide +kernel⟩, by decide⟩, ch7 (List.mem_of_getElem? (i := 157) rfl) rfl, ch7 (List.mem_of_getElem? (i := 158) rfl) rfl⟩
abbrev mX12_year : Mth := (yX12_year, cX12_year, 1, (some .int))
theorem cv_X12_year : CalV mX12_year 0 := ⟨⟨inX12, ch7 (List.mem_of_getElem? (i := 175) rfl) rfl, ⟨by decide, by decide, by decide +kernel⟩, by decide⟩, ch7 (List.mem_of_getElem? (i := 173) rfl) rfl, ch7 (List.mem_of_getElem? (i := 174) rfl) rfl⟩
abbrev mX12_findParents : Mth := (yX12_findParents, cX12_findParents, 6, none)
theorem cv_X12_findParents : CalV mX12_findParents 2 := ⟨⟨inX12, ch7 (List.mem_of_getElem? (i := 190) rfl) rfl, ⟨by decide, by decide, by decide +kernel⟩, by decide⟩, ch7 (List.mem_of_getElem? (i := 189) rfl) rfl, ch0 (List.mem_of_getElem? (i := 58) rfl) rfl⟩
abbrev mX12_findUp : Mth := (yX12_findUp, cX12_findUp, 7, none)
theorem cv_X12_findUp : CalV mX12_findUp 2 := ⟨⟨inX12, ch7 (List.mem_of_getElem? (i := 194) rfl) rfl, ⟨by decide, by decide, by decide +kernel⟩, by decide⟩, ch7 (List.mem_of_getElem? (i := 193) rfl) rfl, ch0 (List.mem_of_getElem? (i := 59) rfl) rfl⟩
abbrev mX12_kinOf : Mth := (yX12_kinOf, cX12_kinOf, 9, (some .int))
theorem cv_X12_kinOf : CalV mX12_kinOf 4 := ⟨⟨inX12, ch7 (List.mem_of_getElem? (i := 186) rfl) rfl, ⟨by decide, by decide, by decide +kernel⟩, by decide⟩, ch7 (List.mem_of_getElem? (i := 185) rfl) rfl, ch0 (List.mem_of_getElem? (i := 57) rfl) rfl⟩
abbrev mX12_isYear : Mth := (yX12_isYear, cX12_isYear, 1, (some .boolean))
theorem cv_X12_isYear : CalS mX12_isYear 1 := ⟨⟨inX12, ch7 (List.mem_of_getElem? (i := 182) rfl) rfl, ⟨by decide, by decide, by decide +kernel⟩, by decide⟩, ch7 (List.mem_of_getElem? (i := 181) rfl) rfl⟩
abbrev mX12_kin : Mth := (yX12_kin, cX12_kin, 5, (some .int))
theorem cv_X12_kin : CalV mX12_kin 4 := ⟨⟨inX12, ch7 (List.mem_of_getElem? (i := 179) rfl) rfl, ⟨by decide, by decide, by decide +kernel⟩, by decide⟩, ch7 (List.mem_of_getElem? (i := 177) rfl) rfl, ch7 (List.mem_of_getElem? (i := 178) rfl) rfl⟩
abbrev mX12_chain : Mth := (yX12_chain, cX12_chain, 14, (some .int))
theorem cv_X12_chain : CalV mX12_chain 5 := ⟨⟨inX12, ch7 (List.mem_of_getElem? (i := 198) rfl) rfl, ⟨by decide, by decide, by decide +kernel⟩, by decide⟩, ch7 (List.mem_of_getElem? (i := 196) rfl) rfl, ch7 (List.mem_of_getElem? (i := 197) rfl) rfl⟩
abbrev mX12_nearer : Mth := (yX12_nearer, cX12_nearer, 4, (some .boolean))
theorem cv_X12_nearer : CalV mX12_nearer 3 := ⟨⟨inX12, ch7 (List.mem_of_getElem? (i := 202) rfl) rfl, ⟨by decide, by decide, by decide +kernel⟩, by decide⟩, ch7 (List.mem_of_getElem? (i := 201) rfl) rfl, ch0 (List.mem_of_getElem? (i := 60) rfl) rfl⟩
abbrev mX12_comes : Mth := (yX12_comes, cX12_comes, 3, none)
theorem cv_X12_comes : CalV mX12_comes 2 := ⟨⟨inX12, ch7 (List.mem_of_getElem? (i := 171) rfl) rfl, ⟨by decide, by decide, by decide +kernel⟩, by decide⟩, ch7 (List.mem_of_getElem? (i := 170) rfl) rfl, ch0 (List.mem_of_getElem? (i := 56) rfl) rfl⟩
abbrev mX12_isOpen : Mth := (yX12_isOpen, cX12_isOpen, 2, (some .boolean))
theorem cv_X12_isOpen : CalV mX12_isOpen 1 := ⟨⟨inX12, ch7 (List.mem_of_getElem? (i := 167) rfl) rfl, ⟨by decide, by decide, by decide +kernel⟩, by decide⟩, ch7 (List.mem_of_getElem? (i := 166) rfl) rfl, ch0 (List.mem_of_getElem? (i := 55) rfl) rfl⟩
abbrev mX12_openOf : Mth := (yX12_openOf, cX12_openOf, 3, (some .int))
theorem cv_X12_openOf : CalV mX12_openOf 1 := ⟨⟨inX12, ch7 (List.mem_of_getElem? (i := 163) rfl) rfl, ⟨by decide, by decide, by decide +kernel⟩, by decide⟩, ch7 (List.mem_of_getElem? (i := 162) rfl) rfl, ch0 (List.mem_of_getElem? (i := 54) rfl) rfl⟩
abbrev mX12_isFree : Mth := (yX12_isFree, cX12_isFree, 2, (some .boolean))
theorem cv_X12_isFree : CalV mX12_isFree 1 := ⟨⟨inX12, ch7 (List.mem_of_getElem? (i := 214) rfl) rfl, ⟨by decide, by decide, by decide +kernel⟩, by decide⟩, ch7 (List.mem_of_getElem? (i := 213) rfl) rfl, ch0 (List.mem_of_getElem? (i := 62) rfl) rfl⟩
abbrev mX12_tell : Mth := (yX12_tell, cX12_tell, 3, (some .int))
theorem cv_X12_tell : CalV mX12_tell 2 := ⟨⟨inX12, ch7 (List.mem_of_getElem? (i := 206) rfl) rfl, ⟨by decide, by decide, by decide +kernel⟩, by decide⟩, ch7 (List.mem_of_getElem? (i := 204) rfl) rfl, ch7 (List.mem_of_getElem? (i := 205) rfl) rfl⟩
abbrev mX12_about : Mth := (yX12_about, cX12_about, 5, (some .int))
theorem cv_X12_about : CalV mX12_about 2 := ⟨⟨inX12, ch7 (List.mem_of_getElem? (i := 218) rfl) rfl, ⟨by decide, by decide, by decide +kernel⟩, by decide⟩, ch7 (List.mem_of_getElem? (i := 216) rfl) rfl, ch7 (List.mem_of_getElem? (i := 217) rfl) rfl⟩
abbrev mX12_feed : Mth := (yX12_feed, cX12_feed, 6, (some .int))
theorem cv_X12_feed : CalV mX12_feed 5 := ⟨⟨inX12, ch7 (List.mem_of_getElem? (i := 222) rfl) rfl, ⟨by decide, by decide, by decide +kernel⟩, by decide⟩, ch7 (List.mem_of_getElem? (i := 220) rfl) rfl, ch7 (List.mem_of_getElem? (i := 221) rfl) rfl⟩
abbrev mX12_four : Mth := (yX12_four, cX12_four, 3, none)
theorem cv_X12_four : CalV mX12_four 1 := ⟨⟨inX12, ch7 (List.mem_of_getElem? (i := 226) rfl) rfl, ⟨by decide, by decide, by decide +kernel⟩, by decide⟩, ch7 (List.mem_of_getElem? (i := 225) rfl) rfl, ch0 (List.mem_of_getElem? (i := 63) rfl) rfl⟩
abbrev mX12_end : Mth := (yX12_end, cX12_end, 2, (some .int))
theorem cv_X12_end : CalV mX12_end 1 := ⟨⟨inX12, ch7 (List.mem_of_getElem? (i := 230) rfl) rfl, ⟨by decide, by decide, by decide +kernel⟩, by decide⟩, ch7 (List.mem_of_getElem? (i := 228) rfl) rfl, ch7 (List.mem_of_getElem? (i := 229) rfl) rfl⟩
abbrev mX12_see : Mth := (yX12_see, cX12_see, 1, (some .int))
theorem cv_X12_see : CalV mX12_see 0 := ⟨⟨inX12, ch8 (List.mem_of_getElem? (i := 2) rfl) rfl, ⟨by decide, by decide, by decide +kernel⟩, by decide⟩, ch8 (List.mem_of_getElem? (i := 1) rfl) rfl, ch0 (List.mem_of_getElem? (i := 65) rfl) rfl⟩
abbrev mX12_token : Mth := (yX12_token, cX12_token, 3, none)
theorem cv_X12_token : CalV mX12_token 0 := ⟨⟨inX12, ch7 (List.mem_of_getElem? (i := 238) rfl) rfl, ⟨by decide, by decide, by decide +kernel⟩, by decide⟩, ch7 (List.mem_of_getElem? (i := 237) rfl) rfl, ch0 (List.mem_of_getElem? (i := 64) rfl) rfl⟩
abbrev mX12_isWord : Mth := (yX12_isWord, cX12_isWord, 3, (some .boolean))
theorem cv_X12_isWord : CalV mX12_isWord 1 := ⟨⟨inX12, ch8 (List.mem_of_getElem? (i := 15) rfl) rfl, ⟨by decide, by decide, by decide +kernel⟩, by decide⟩, ch8 (List.mem_of_getElem? (i := 14) rfl) rfl, ch0 (List.mem_of_getElem? (i := 68) rfl) rfl⟩
abbrev mX12_wrong : Mth := (yX12_wrong, cX12_wrong, 1, (some .boolean))
theorem cv_X12_wrong : CalV mX12_wrong 0 := ⟨⟨inX12, ch8 (List.mem_of_getElem? (i := 39) rfl) rfl, ⟨by decide, by decide, by decide +kernel⟩, by decide⟩, ch8 (List.mem_of_getElem? (i := 38) rfl) rfl, ch0 (List.mem_of_getElem? (i := 71) rfl) rfl⟩
abbrev mX12_later : Mth := (yX12_later, cX12_later, 3, none)
theorem cv_X12_later : CalV mX12_later 2 := ⟨⟨inX12, ch8 (List.mem_of_getElem? (i := 10) rfl) rfl, ⟨by decide, by decide, by decide +kernel⟩, by decide⟩, ch8 (List.mem_of_getElem? (i := 9) rfl) rfl, ch0 (List.mem_of_getElem? (i := 67) rfl) rfl⟩
abbrev mX12_need : Mth := (yX12_need, cX12_need, 2, (some .boolean))
theorem cv_X12_need : CalV mX12_need 1 := ⟨⟨inX12, ch8 (List.mem_of_getElem? (i := 44) rfl) rfl, ⟨by decide, by decide, by decide +kernel⟩, by decide⟩, ch8 (List.mem_of_getElem? (i := 43) rfl) rfl, ch0 (List.mem_of_getElem? (i := 72) rfl) rfl⟩
abbrev mX12_testWord : Mth := (yX12_testWord, cX12_testWord, 2, (some .int))
theorem cv_X12_testWord : CalV mX12_testWord 0 := ⟨⟨inX12, ch8 (List.mem_of_getElem? (i := 24) rfl) rfl, ⟨by decide, by decide, by decide +kernel⟩, by decide⟩, ch8 (List.mem_of_getElem? (i := 23) rfl) rfl, ch0 (List.mem_of_getElem? (i := 70) rfl) rfl⟩
abbrev mX12_test : Mth := (yX12_test, cX12_test, 8, (some .boolean))
theorem cv_X12_test : CalV mX12_test 2 := ⟨⟨inX12, ch8 (List.mem_of_getElem? (i := 19) rfl) rfl, ⟨by decide, by decide, by decide +kernel⟩, by decide⟩, ch8 (List.mem_of_getElem? (i := 18) rfl) rfl, ch0 (List.mem_of_getElem? (i := 69) rfl) rfl⟩
abbrev mX12_actWord : Mth := (yX12_actWord, cX12_actWord, 2, (some .int))
theorem cv_X12_actWord : CalV mX12_actWord 1 := ⟨⟨inX12, ch8 (List.mem_of_getElem? (i := 48) rfl) rfl, ⟨by decide, by decide, by decide +kernel⟩, by decide⟩, ch8 (List.mem_of_getElem? (i := 47) rfl) rfl, ch0 (List.mem_of_getElem? (i := 73) rfl) rfl⟩
abbrev mX12_oneLine : Mth := (yX12_oneLine, cX12_oneLine, 5, (some .boolean))
theorem cv_X12_oneLine : CalV mX12_oneLine 1 := ⟨⟨inX12, ch8 (List.mem_of_getElem? (i := 6) rfl) rfl, ⟨by decide, by decide, by decide +kernel⟩, by decide⟩, ch8 (List.mem_of_getElem? (i := 5) rfl) rfl, ch0 (List.mem_of_getElem? (i := 66) rfl) rfl⟩
abbrev mX12_text : Mth := (yX12_text, cX12_text, 6, (some .int))
theorem cv_X12_text : CalV mX12_text 1 := ⟨⟨inX12, ch7 (List.mem_of_getElem? (i := 234) rfl) rfl, ⟨by decide, by decide, by decide +kernel⟩, by decide⟩, ch7 (List.mem_of_getElem? (i := 232) rfl) rfl, ch7 (List.mem_of_getElem? (i := 233) rfl) rfl⟩
abbrev mX12_fault : Mth := (yX12_fault, cX12_fault, 2, (some .int))
theorem cv_X12_fault : CalV mX12_fault 1 := ⟨⟨inX12, ch8 (List.mem_of_getElem? (i := 57) rfl) rfl, ⟨by decide, by decide, by decide +kernel⟩, by decide⟩, ch8 (List.mem_of_getElem? (i := 55) rfl) rfl, ch8 (List.mem_of_getElem? (i := 56) rfl) rfl⟩
abbrev mX12_apart : Mth := (yX12_apart, cX12_apart, 2, (some .int))
theorem cv_X12_apart : CalS mX12_apart 2 := ⟨⟨inX12, ch8 (List.mem_of_getElem? (i := 76) rfl) rfl, ⟨by decide, by decide, by decide +kernel⟩, by decide⟩, ch8 (List.mem_of_getElem? (i := 75) rfl) rfl⟩
abbrev mX12_hasElder : Mth := (yX12_hasElder, cX12_hasElder, 4, (some .boolean))
theorem cv_X12_hasElder : CalV mX12_hasElder 1 := ⟨⟨inX12, ch8 (List.mem_of_getElem? (i := 73) rfl) rfl, ⟨by decide, by decide, by decide +kernel⟩, by decide⟩, ch8 (List.mem_of_getElem? (i := 72) rfl) rfl, ch0 (List.mem_of_getElem? (i := 76) rfl) rfl⟩
abbrev mX12_lookAt : Mth := (yX12_lookAt, cX12_lookAt, 7, none)
theorem cv_X12_lookAt : CalV mX12_lookAt 3 := ⟨⟨inX12, ch8 (List.mem_of_getElem? (i := 69) rfl) rfl, ⟨by decide, by decide, by decide +kernel⟩, by decide⟩, ch8 (List.mem_of_getElem? (i := 68) rfl) rfl, ch0 (List.mem_of_getElem? (i := 75) rfl) rfl⟩
abbrev mX12_holds : Mth := (yX12_holds, cX12_holds, 6, (some .boolean))
theorem cv_X12_holds : CalV mX12_holds 1 := ⟨⟨inX12, ch8 (List.mem_of_getElem? (i := 84) rfl) rfl, ⟨by decide, by decide, by decide +kernel⟩, by decide⟩, ch8 (List.mem_of_getElem? (i := 83) rfl) rfl, ch0 (List.mem_of_getElem? (i := 78) rfl) rfl⟩
abbrev mX12_readBy : Mth := (yX12_readBy, cX12_readBy, 5, none)
theorem cv_X12_readBy : CalV mX12_readBy 1 := ⟨⟨inX12, ch8 (List.mem_of_getElem? (i := 80) rfl) rfl, ⟨by decide, by decide, by decide +kernel⟩, by decide⟩, ch8 (List.mem_of_getElem? (i := 79) rfl) rfl, ch0 (List.mem_of_getElem? (i := 77) rfl) rfl⟩
abbrev mX12_read : Mth := (yX12_read, cX12_read, 5, (some .int))
theorem cv_X12_read : CalV mX12_read 4 := ⟨⟨inX12, ch8 (List.mem_of_getElem? (i := 61) rfl) rfl, ⟨by decide, by decide, by decide +kernel⟩, by decide⟩, ch8 (List.mem_of_getElem? (i := 59) rfl) rfl, ch8 (List.mem_of_getElem? (i := 60) rfl) rfl⟩
abbrev mX12_mayWed : Mth := (yX12_mayWed, cX12_mayWed, 6, (some .boolean))
theorem cv_X12_mayWed : CalV mX12_mayWed 2 := ⟨⟨inX12, ch8 (List.mem_of_getElem? (i := 92) rfl) rfl, ⟨by decide, by decide, by decide +kernel⟩, by decide⟩, ch8 (List.mem_of_getElem? (i := 91) rfl) rfl, ch0 (List.mem_of_getElem? (i := 79) rfl) rfl⟩
abbrev mX12_may : Mth := (yX12_may, cX12_may, 3, (some .boolean))
theorem cv_X12_may : CalV mX12_may 2 := ⟨⟨inX12, ch8 (List.mem_of_getElem? (i := 88) rfl) rfl, ⟨by decide, by decide, by decide +kernel⟩, by decide⟩, ch8 (List.mem_of_getElem? (i := 86) rfl) rfl, ch8 (List.mem_of_getElem? (i := 87) rfl) rfl⟩
abbrev mX12_likingOf : Mth := (yX12_likingOf, cX12_likingOf, 5, (some .int))
theorem cv_X12_likingOf : CalV mX12_likingOf 2 := ⟨⟨inX12, ch8 (List.mem_of_getElem? (i := 100) rfl) rfl, ⟨by decide, by decide, by decide +kernel⟩, by decide⟩, ch8 (List.mem_of_getElem? (i := 99) rfl) rfl, ch0 (List.mem_of_getElem? (i := 80) rfl) rfl⟩
abbrev mX12_liking : Mth := (yX12_liking, cX12_liking, 3, (some .int))
theorem cv_X12_liking : CalV mX12_liking 2 := ⟨⟨inX12, ch8 (List.mem_of_getElem? (i := 96) rfl) rfl, ⟨by decide, by decide, by decide +kernel⟩, by decide⟩, ch8 (List.mem_of_getElem? (i := 94) rfl) rfl, ch8 (List.mem_of_getElem? (i := 95) rfl) rfl⟩
abbrev mX12_ask : Mth := (yX12_ask, cX12_ask, 4, (some .int))
theorem cv_X12_ask : CalV mX12_ask 2 := ⟨⟨inX12, ch8 (List.mem_of_getElem? (i := 105) rfl) rfl, ⟨by decide, by decide, by decide +kernel⟩, by decide⟩, ch8 (List.mem_of_getElem? (i := 103) rfl) rfl, ch8 (List.mem_of_getElem? (i := 104) rfl) rfl⟩
abbrev mX12_isMatch : Mth := (yX12_isMatch, cX12_isMatch, 2, (some .boolean))
theorem cv_X12_isMatch : CalV mX12_isMatch 1 := ⟨⟨inX12, ch8 (List.mem_of_getElem? (i := 113) rfl) rfl, ⟨by decide, by decide, by decide +kernel⟩, by decide⟩, ch8 (List.mem_of_getElem? (i := 112) rfl) rfl, ch0 (List.mem_of_getElem? (i := 81) rfl) rfl⟩
abbrev mX12_pays : Mth := (yX12_pays, cX12_pays, 4, (some .boolean))
theorem cv_X12_pays : CalV mX12_pays 2 := ⟨⟨inX12, ch8 (List.mem_of_getElem? (i := 117) rfl) rfl, ⟨by decide, by decide, by decide +kernel⟩, by decide⟩, ch8 (List.mem_of_getElem? (i := 116) rfl) rfl, ch0 (List.mem_of_getElem? (i := 82) rfl) rfl⟩
abbrev mX12_promise : Mth := (yX12_promise, cX12_promise, 2, (some .boolean))
theorem cv_X12_promise : CalV mX12_promise 1 := ⟨⟨inX12, ch8 (List.mem_of_getElem? (i := 109) rfl) rfl, ⟨by decide, by decide, by decide +kernel⟩, by decide⟩, ch8 (List.mem_of_getElem? (i := 107) rfl) rfl, ch8 (List.mem_of_getElem? (i := 108) rfl) rfl⟩
abbrev mX12_copyText : Mth := (yX12_copyText, cX12_copyText, 7, none)
theorem cv_X12_copyText : CalV mX12_copyText 2 := ⟨⟨inX12, ch8 (List.mem_of_getElem? (i := 125) rfl) rfl, ⟨by decide, by decide, by decide +kernel⟩, by decide⟩, ch8 (List.mem_of_getElem? (i := 124) rfl) rfl, ch0 (List.mem_of_getElem? (i := 83) rfl) rfl⟩
abbrev mX12_wed : Mth := (yX12_wed, cX12_wed, 5, (some .boolean))
theorem cv_X12_wed : CalV mX12_wed 1 := ⟨⟨inX12, ch8 (List.mem_of_getElem? (i := 121) rfl) rfl, ⟨by decide, by decide, by decide +kernel⟩, by decide⟩, ch8 (List.mem_of_getElem? (i := 119) rfl) rfl, ch8 (List.mem_of_getElem? (i := 120) rfl) rfl⟩
abbrev mX12_breaks : Mth := (yX12_breaks, cX12_breaks, 5, (some .boolean))
theorem cv_X12_breaks : CalV mX12_breaks 2 := ⟨⟨inX12, ch8 (List.mem_of_getElem? (i := 129) rfl) rfl, ⟨by decide, by decide, by decide +kernel⟩, by decide⟩, ch8 (List.mem_of_getElem? (i := 127) rfl) rfl, ch8 (List.mem_of_getElem? (i := 128) rfl) rfl⟩
abbrev mX12_isLate : Mth := (yX12_isLate, cX12_isLate, 7, (some .boolean))
theorem cv_X12_isLate : CalV mX12_isLate 1 := ⟨⟨inX12, ch8 (List.mem_of_getElem? (i := 138) rfl) rfl, ⟨by decide, by decide, by decide +kernel⟩, by decide⟩, ch8 (List.mem_of_getElem? (i := 137) rfl) rfl, ch0 (List.mem_of_getElem? (i := 84) rfl) rfl⟩
abbrev mX12_match : Mth := (yX12_match, cX12_match, 3, (some .int))
theorem cv_X12_match : CalV mX12_match 2 := ⟨⟨inX12, ch8 (List.mem_of_getElem? (i := 134) rfl) rfl, ⟨by decide, by decide, by decide +kernel⟩, by decide⟩, ch8 (List.mem_of_getElem? (i := 132) rfl) rfl, ch8 (List.mem_of_getElem? (i := 133) rfl) rfl⟩
abbrev mX12_late : Mth := (yX12_late, cX12_late, 4, (some .int))
theorem cv_X12_late : CalV mX12_late 1 := ⟨⟨inX12, ch8 (List.mem_of_getElem? (i := 142) rfl) rfl, ⟨by decide, by decide, by decide +kernel⟩, by decide⟩, ch8 (List.mem_of_getElem? (i := 140) rfl) rfl, ch8 (List.mem_of_getElem? (i := 141) rfl) rfl⟩
abbrev mX12_wouldPart : Mth := (yX12_wouldPart, cX12_wouldPart, 5, (some .boolean))
theorem cv_X12_wouldPart : CalV mX12_wouldPart 2 := ⟨⟨inX12, ch8 (List.mem_of_getElem? (i := 150) rfl) rfl, ⟨by decide, by decide, by decide +kernel⟩, by decide⟩, ch8 (List.mem_of_getElem? (i := 149) rfl) rfl, ch0 (List.mem_of_getElem? (i := 85) rfl) rfl⟩
abbrev mX12_parts : Mth := (yX12_parts, cX12_parts, 5, (some .int))
theorem cv_X12_parts : CalV mX12_parts 1 := ⟨⟨inX12, ch8 (List.mem_of_getElem? (i := 146) rfl) rfl, ⟨by decide, by decide, by decide +kernel⟩, by decide⟩, ch8 (List.mem_of_getElem? (i := 144) rfl) rfl, ch8 (List.mem_of_getElem? (i := 145) rfl) rfl⟩
abbrev mX12_findFree : Mth := (yX12_findFree, cX12_findFree, 3, none)
theorem cv_X12_findFree : CalV mX12_findFree 0 := ⟨⟨inX12, ch8 (List.mem_of_getElem? (i := 162) rfl) rfl, ⟨by decide, by decide, by decide +kernel⟩, by decide⟩, ch8 (List.mem_of_getElem? (i := 161) rfl) rfl, ch0 (List.mem_of_getElem? (i := 87) rfl) rfl⟩
abbrev mX12_brings : Mth := (yX12_brings, cX12_brings, 6, (some .long))
theorem cv_X12_brings : CalV mX12_brings 3 := ⟨⟨inX12, ch8 (List.mem_of_getElem? (i := 166) rfl) rfl, ⟨by decide, by decide, by decide +kernel⟩, by decide⟩, ch8 (List.mem_of_getElem? (i := 165) rfl) rfl, ch0 (List.mem_of_getElem? (i := 88) rfl) rfl⟩
abbrev mX12_findBest : Mth := (yX12_findBest, cX12_findBest, 10, none)
theorem cv_X12_findBest : CalV mX12_findBest 0 := ⟨⟨inX12, ch8 (List.mem_of_getElem? (i := 158) rfl) rfl, ⟨by decide, by decide, by decide +kernel⟩, by decide⟩, ch8 (List.mem_of_getElem? (i := 157) rfl) rfl, ch0 (List.mem_of_getElem? (i := 86) rfl) rfl⟩
abbrev mX12_best : Mth := (yX12_best, cX12_best, 6, (some .int))
theorem cv_X12_best : CalV mX12_best 1 := ⟨⟨inX12, ch8 (List.mem_of_getElem? (i := 154) rfl) rfl, ⟨by decide, by decide, by decide +kernel⟩, by decide⟩, ch8 (List.mem_of_getElem? (i := 152) rfl) rfl, ch8 (List.mem_of_getElem? (i := 153) rfl) rfl⟩
abbrev mX12_withWhom : Mth := (yX12_withWhom, cX12_withWhom, 3, (some .int))
theorem cv_X12_withWhom : CalV mX12_withWhom 1 := ⟨⟨inX12, ch8 (List.mem_of_getElem? (i := 177) rfl) rfl, ⟨by decide, by decide, by decide +kernel⟩, by decide⟩, ch8 (List.mem_of_getElem? (i := 176) rfl) rfl, ch0 (List.mem_of_getElem? (i := 89) rfl) rfl⟩
abbrev mX12_bestFor : Mth := (yX12_bestFor, cX12_bestFor, 2, (some .int))
theorem cv_X12_bestFor : CalV mX12_bestFor 1 := ⟨⟨inX12, ch8 (List.mem_of_getElem? (i := 173) rfl) rfl, ⟨by decide, by decide, by decide +kernel⟩, by decide⟩, ch8 (List.mem_of_getElem? (i := 171) rfl) rfl, ch8 (List.mem_of_getElem? (i := 172) rfl) rfl⟩
abbrev mX12_nextFor : Mth := (yX12_nextFor, cX12_nextFor, 6, (some .int))
theorem cv_X12_nextFor : CalV mX12_nextFor 1 := ⟨⟨inX12, ch8 (List.mem_of_getElem? (i := 189) rfl) rfl, ⟨by decide, by decide, by decide +kernel⟩, by decide⟩, ch8 (List.mem_of_getElem? (i := 188) rfl) rfl, ch0 (List.mem_of_getElem? (i := 91) rfl) rfl⟩
abbrev mX12_isTaken : Mth := (yX12_isTaken, cX12_isTaken, 3, (some .boolean))
theorem cv_X12_isTaken : CalV mX12_isTaken 1 := ⟨⟨inX12, ch8 (List.mem_of_getElem? (i := 185) rfl) rfl, ⟨by decide, by decide, by decide +kernel⟩, by decide⟩, ch8 (List.mem_of_getElem? (i := 184) rfl) rfl, ch0 (List.mem_of_getElem? (i := 90) rfl) rfl⟩
abbrev mX12_rather : Mth := (yX12_rather, cX12_rather, 5, (some .boolean))
theorem cv_X12_rather : CalV mX12_rather 2 := ⟨⟨inX12, ch8 (List.mem_of_getElem? (i := 193) rfl) rfl, ⟨by decide, by decide, by decide +kernel⟩, by decide⟩, ch8 (List.mem_of_getElem? (i := 192) rfl) rfl, ch0 (List.mem_of_getElem? (i := 92) rfl) rfl⟩
abbrev mX12_stable : Mth := (yX12_stable, cX12_stable, 5, (some .int))
theorem cv_X12_stable : CalV mX12_stable 1 := ⟨⟨inX12, ch8 (List.mem_of_getElem? (i := 181) rfl) rfl, ⟨by decide, by decide, by decide +kernel⟩, by decide⟩, ch8 (List.mem_of_getElem? (i := 179) rfl) rfl, ch8 (List.mem_of_getElem? (i := 180) rfl) rfl⟩
abbrev mX12_findCouples : Mth := (yX12_findCouples, cX12_findCouples, 4, none)
theorem cv_X12_findCouples : CalV mX12_findCouples 0 := ⟨⟨inX12, ch8 (List.mem_of_getElem? (i := 205) rfl) rfl, ⟨by decide, by decide, by decide +kernel⟩, by decide⟩, ch8 (List.mem_of_getElem? (i := 204) rfl) rfl, ch0 (List.mem_of_getElem? (i := 94) rfl) rfl⟩
abbrev mX12_ringOf : Mth := (yX12_ringOf, cX12_ringOf, 6, (some .int))
theorem cv_X12_ringOf : CalV mX12_ringOf 1 := ⟨⟨inX12, ch8 (List.mem_of_getElem? (i := 209) rfl) rfl, ⟨by decide, by decide, by decide +kernel⟩, by decide⟩, ch8 (List.mem_of_getElem? (i := 208) rfl) rfl, ch0 (List.mem_of_getElem? (i := 95) rfl) rfl⟩
abbrev mX12_findRing : Mth := (yX12_findRing, cX12_findRing, 6, none)
theorem cv_X12_findRing : CalV mX12_findRing 0 := ⟨⟨inX12, ch8 (List.mem_of_getElem? (i := 201) rfl) rfl, ⟨by decide, by decide, by decide +kernel⟩, by decide⟩, ch8 (List.mem_of_getElem? (i := 200) rfl) rfl, ch0 (List.mem_of_getElem? (i := 93) rfl) rfl⟩
abbrev mX12_ring : Mth := (yX12_ring, cX12_ring, 2, (some .int))
theorem cv_X12_ring : CalV mX12_ring 1 := ⟨⟨inX12, ch8 (List.mem_of_getElem? (i := 197) rfl) rfl, ⟨by decide, by decide, by decide +kernel⟩, by decide⟩, ch8 (List.mem_of_getElem? (i := 195) rfl) rfl, ch8 (List.mem_of_getElem? (i := 196) rfl) rfl⟩
abbrev mX12_ringed : Mth := (yX12_ringed, cX12_ringed, 4, (some .int))
theorem cv_X12_ringed : CalV mX12_ringed 2 := ⟨⟨inX12, ch8 (List.mem_of_getElem? (i := 213) rfl) rfl, ⟨by decide, by decide, by decide +kernel⟩, by decide⟩, ch8 (List.mem_of_getElem? (i := 211) rfl) rfl, ch8 (List.mem_of_getElem? (i := 212) rfl) rfl⟩
abbrev mX12_count : Mth := (yX12_count, cX12_count, 5, (some .int))
theorem cv_X12_count : CalV mX12_count 1 := ⟨⟨inX12, ch8 (List.mem_of_getElem? (i := 217) rfl) rfl, ⟨by decide, by decide, by decide +kernel⟩, by decide⟩, ch8 (List.mem_of_getElem? (i := 215) rfl) rfl, ch8 (List.mem_of_getElem? (i := 216) rfl) rfl⟩
abbrev mX12_image : Mth := (yX12_image, cX12_image, 2, (some .boolean))
theorem cv_X12_image : CalV mX12_image 1 := ⟨⟨inX12, ch8 (List.mem_of_getElem? (i := 221) rfl) rfl, ⟨by decide, by decide, by decide +kernel⟩, by decide⟩, ch8 (List.mem_of_getElem? (i := 219) rfl) rfl, ch8 (List.mem_of_getElem? (i := 220) rfl) rfl⟩
abbrev mX12_again : Mth := (yX12_again, cX12_again, 2, (some .boolean))
theorem cv_X12_again : CalV mX12_again 1 := ⟨⟨inX12, ch8 (List.mem_of_getElem? (i := 239) rfl) rfl, ⟨by decide, by decide, by decide +kernel⟩, by decide⟩, ch8 (List.mem_of_getElem? (i := 237) rfl) rfl, ch8 (List.mem_of_getElem? (i := 238) rfl) rfl⟩
abbrev mJ6_bitCount_0f7a4 : Mth := (yJ6_bitCount_0f7a4, cJ6_bitCount_0f7a4, 1, (some .int))
theorem cv_J6_bitCount_0f7a4 : CalS mJ6_bitCount_0f7a4 1 := ⟨⟨inJ6, ch5 (List.mem_of_getElem? (i := 152) rfl) rfl, ⟨by decide, by decide, by decide +kernel⟩, by decide⟩, ch5 (List.mem_of_getElem? (i := 151) rfl) rfl⟩
abbrev mJ9_abs_0f7a4 : Mth := (yJ9_abs_0f7a4, cJ9_abs_0f7a4, 1, (some .int))
theorem cv_J9_abs_0f7a4 : CalS mJ9_abs_0f7a4 1 := ⟨⟨inJ9, ch4 (List.mem_of_getElem? (i := 232) rfl) rfl, ⟨by decide, by decide, by decide +kernel⟩, by decide⟩, ch4 (List.mem_of_getElem? (i := 231) rfl) rfl⟩
abbrev mJ9_max_7cf53 : Mth := (yJ9_max_7cf53, cJ9_max_7cf53, 2, (some .int))
theorem cv_J9_max_7cf53 : CalS mJ9_max_7cf53 2 := ⟨⟨inJ9, ch5 (List.mem_of_getElem? (i := 41) rfl) rfl, ⟨by decide, by decide, by decide +kernel⟩, by decide⟩, ch5 (List.mem_of_getElem? (i := 40) rfl) rfl⟩
abbrev mJ9_min_7cf53 : Mth := (yJ9_min_7cf53, cJ9_min_7cf53, 2, (some .int))
theorem cv_J9_min_7cf53 : CalS mJ9_min_7cf53 2 := ⟨⟨inJ9, ch1 (List.mem_of_getElem? (i := 142) rfl) rfl, ⟨by decide, by decide, by decide +kernel⟩, by decide⟩, ch1 (List.mem_of_getElem? (i := 141) rfl) rfl⟩
abbrev mJ0_length_8abf5 : Mth := (yJ0_length_8abf5, cJ0_length_8abf5, 1, (some .int))
theorem cv_J0_length_8abf5 : CalV mJ0_length_8abf5 0 := ⟨⟨inJ0, ch4 (List.mem_of_getElem? (i := 99) rfl) rfl, ⟨by decide, by decide, by decide +kernel⟩, by decide⟩, ch4 (List.mem_of_getElem? (i := 97) rfl) rfl, ch4 (List.mem_of_getElem? (i := 98) rfl) rfl⟩
abbrev mJ0_charAt_5068e : Mth := (yJ0_charAt_5068e, cJ0_charAt_5068e, 2, (some .char))
theorem cv_J0_charAt_5068e : CalV mJ0_charAt_5068e 1 := ⟨⟨inJ0, ch4 (List.mem_of_getElem? (i := 109) rfl) rfl, ⟨by decide, by decide, by decide +kernel⟩, by decide⟩, ch4 (List.mem_of_getElem? (i := 107) rfl) rfl, ch4 (List.mem_of_getElem? (i := 108) rfl) rfl⟩
abbrev mJ0_coder_7d493 : Mth := (yJ0_coder_7d493, cJ0_coder_7d493, 1, (some .byte))
theorem cv_J0_coder_7d493 : CalV mJ0_coder_7d493 0 := ⟨⟨inJ0, ch4 (List.mem_of_getElem? (i := 103) rfl) rfl, ⟨by decide, by decide, by decide +kernel⟩, by decide⟩, ch4 (List.mem_of_getElem? (i := 101) rfl) rfl, ch4 (List.mem_of_getElem? (i := 102) rfl) rfl⟩
abbrev mJ0_isLatin1_aae02 : Mth := (yJ0_isLatin1_aae02, cJ0_isLatin1_aae02, 1, (some .boolean))
theorem cv_J0_isLatin1_aae02 : CalV mJ0_isLatin1_aae02 0 := ⟨⟨inJ0, ch4 (List.mem_of_getElem? (i := 113) rfl) rfl, ⟨by decide, by decide, by decide +kernel⟩, by decide⟩, ch4 (List.mem_of_getElem? (i := 111) rfl) rfl, ch4 (List.mem_of_getElem? (i := 112) rfl) rfl⟩
abbrev mJ0_checkIndex_df160 : Mth := (yJ0_checkIndex_df160, cJ0_checkIndex_df160, 2, none)
theorem cv_J0_checkIndex_df160 : CalS mJ0_checkIndex_df160 2 := ⟨⟨inJ0, ch4 (List.mem_of_getElem? (i := 119) rfl) rfl, ⟨by decide, by decide, by decide +kernel⟩, by decide⟩, ch4 (List.mem_of_getElem? (i := 118) rfl) rfl⟩
abbrev mJ1_charAt_3b067 : Mth := (yJ1_charAt_3b067, cJ1_charAt_3b067, 2, (some .char))
theorem cv_J1_charAt_3b067 : CalS mJ1_charAt_3b067 2 := ⟨⟨inJ1, ch4 (List.mem_of_getElem? (i := 116) rfl) rfl, ⟨by decide, by decide, by decide +kernel⟩, by decide⟩, ch4 (List.mem_of_getElem? (i := 115) rfl) rfl⟩
abbrev mJ2_getChar_3b067 : Mth := (yJ2_getChar_3b067, cJ2_getChar_3b067, 2, (some .char))
theorem cv_J2_getChar_3b067 : CalS mJ2_getChar_3b067 2 := ⟨⟨inJ2, ch4 (List.mem_of_getElem? (i := 137) rfl) rfl, ⟨by decide, by decide, by decide +kernel⟩, by decide⟩, ch4 (List.mem_of_getElem? (i := 136) rfl) rfl⟩
abbrev mJ2_length_9d52b : Mth := (yJ2_length_9d52b, cJ2_length_9d52b, 1, (some .int))
theorem cv_J2_length_9d52b : CalS mJ2_length_9d52b 1 := ⟨⟨inJ2, ch4 (List.mem_of_getElem? (i := 133) rfl) rfl, ⟨by decide, by decide, by decide +kernel⟩, by decide⟩, ch4 (List.mem_of_getElem? (i := 132) rfl) rfl⟩
abbrev mJ2_charAt_3b067 : Mth := (yJ2_charAt_3b067, cJ2_charAt_3b067, 2, (some .char))
theorem cv_J2_charAt_3b067 : CalS mJ2_charAt_3b067 2 := ⟨⟨inJ2, ch4 (List.mem_of_getElem? (i := 127) rfl) rfl, ⟨by decide, by decide, by decide +kernel⟩, by decide⟩, ch4 (List.mem_of_getElem? (i := 126) rfl) rfl⟩
abbrev mJ2_checkIndex_2214a : Mth := (yJ2_checkIndex_2214a, cJ2_checkIndex_2214a, 2, none)
theorem cv_J2_checkIndex_2214a : CalS mJ2_checkIndex_2214a 2 := ⟨⟨inJ2, ch4 (List.mem_of_getElem? (i := 130) rfl) rfl, ⟨by decide, by decide, by decide +kernel⟩, by decide⟩, ch4 (List.mem_of_getElem? (i := 129) rfl) rfl⟩
abbrev mJ7_fill_53178 : Mth := (yJ7_fill_53178, cJ7_fill_53178, 4, none)
theorem cv_J7_fill_53178 : CalS mJ7_fill_53178 2 := ⟨⟨inJ7, ch1 (List.mem_of_getElem? (i := 136) rfl) rfl, ⟨by decide, by decide, by decide +kernel⟩, by decide⟩, ch1 (List.mem_of_getElem? (i := 135) rfl) rfl⟩
abbrev mJ3_checkIndex_8e157 : Mth := (yJ3_checkIndex_8e157, cJ3_checkIndex_8e157, 3, (some .int))
theorem cv_J3_checkIndex_8e157 : CalS mJ3_checkIndex_8e157 3 := ⟨⟨inJ3, ch4 (List.mem_of_getElem? (i := 124) rfl) rfl, ⟨by decide, by decide, by decide +kernel⟩, by decide⟩, ch4 (List.mem_of_getElem? (i := 123) rfl) rfl⟩
abbrev mL_law : Mth := (yL_law, cL_law, 4, some .boolean)
