/-! links -/
theorem fk_X1_24 : Cond.fieldLink RX1 24 RX1 (TX1 0).2.1 (TX1 0).2.2.1 ∈ gT := ch1 (List.mem_of_getElem? (i := 42) rfl) rfl
theorem fl_X1_24 : FLk RX1 24 1 0 := ⟨RX1, TX1, 5, cls1, by decide, rfl, fk_X1_24⟩
theorem fw_X1_24 : FLw RX1 24 1 0 := ⟨RX1, TX1, 5, cls1, by decide, rfl, fk_X1_24, rfl⟩
theorem fk_X9_78 : Cond.fieldLink RX9 78 RX1 (TX1 0).2.1 (TX1 0).2.2.1 ∈ gT := ch1 (List.mem_of_getElem? (i := 43) rfl) rfl
theorem fl_X9_78 : FLk RX9 78 1 0 := ⟨RX1, TX1, 5, cls1, by decide, rfl, fk_X9_78⟩
theorem fw_X9_78 : FLw RX9 78 1 0 := ⟨RX1, TX1, 5, cls1, by decide, rfl, fk_X9_78, rfl⟩
theorem fk_X11_372 : Cond.fieldLink RX11 372 RX1 (TX1 0).2.1 (TX1 0).2.2.1 ∈ gT := ch1 (List.mem_of_getElem? (i := 44) rfl) rfl
theorem fl_X11_372 : FLk RX11 372 1 0 := ⟨RX1, TX1, 5, cls1, by decide, rfl, fk_X11_372⟩
theorem fw_X11_372 : FLw RX11 372 1 0 := ⟨RX1, TX1, 5, cls1, by decide, rfl, fk_X11_372, rfl⟩
theorem fk_X1_9 : Cond.fieldLink RX1 9 RX1 (TX1 1).2.1 (TX1 1).2.2.1 ∈ gT := ch1 (List.mem_of_getElem? (i := 45) rfl) rfl
theorem fl_X1_9 : FLk RX1 9 1 1 := ⟨RX1, TX1, 5, cls1, by decide, rfl, fk_X1_9⟩
theorem ff_X1_9 : FLf RX1 9 1 1 := ⟨TX1, 5, cls1, by decide, rfl, fk_X1_9, rfl⟩
theorem fk_X2_54 : Cond.fieldLink RX2 54 RX1 (TX1 1).2.1 (TX1 1).2.2.1 ∈ gT := ch1 (List.mem_of_getElem? (i := 46) rfl) rfl
theorem fl_X2_54 : FLk RX2 54 1 1 := ⟨RX1, TX1, 5, cls1, by decide, rfl, fk_X2_54⟩
theorem fk_X11_190 : Cond.fieldLink RX11 190 RX1 (TX1 1).2.1 (TX1 1).2.2.1 ∈ gT := ch1 (List.mem_of_getElem? (i := 47) rfl) rfl
theorem fl_X11_190 : FLk RX11 190 1 1 := ⟨RX1, TX1, 5, cls1, by decide, rfl, fk_X11_190⟩
theorem fk_X1_15 : Cond.fieldLink RX1 15 RX1 (TX1 2).2.1 (TX1 2).2.2.1 ∈ gT := ch1 (List.mem_of_getElem? (i := 48) rfl) rfl
theorem fl_X1_15 : FLk RX1 15 1 2 := ⟨RX1, TX1, 5, cls1, by decide, rfl, fk_X1_15⟩
theorem ff_X1_15 : FLf RX1 15 1 2 := ⟨TX1, 5, cls1, by decide, rfl, fk_X1_15, rfl⟩
theorem fk_X2_63 : Cond.fieldLink RX2 63 RX1 (TX1 2).2.1 (TX1 2).2.2.1 ∈ gT := ch1 (List.mem_of_getElem? (i := 49) rfl) rfl
theorem fl_X2_63 : FLk RX2 63 1 2 := ⟨RX1, TX1, 5, cls1, by decide, rfl, fk_X2_63⟩
theorem fk_X0_59 : Cond.fieldLink RX0 59 RX1 (TX1 2).2.1 (TX1 2).2.2.1 ∈ gT := ch1 (List.mem_of_getElem? (i := 50) rfl) rfl
theorem fl_X0_59 : FLk RX0 59 1 2 := ⟨RX1, TX1, 5, cls1, by decide, rfl, fk_X0_59⟩
theorem fk_X11_193 : Cond.fieldLink RX11 193 RX1 (TX1 2).2.1 (TX1 2).2.2.1 ∈ gT := ch1 (List.mem_of_getElem? (i := 51) rfl) rfl
theorem fl_X11_193 : FLk RX11 193 1 2 := ⟨RX1, TX1, 5, cls1, by decide, rfl, fk_X11_193⟩
theorem fk_X1_18 : Cond.fieldLink RX1 18 RX1 (TX1 3).2.1 (TX1 3).2.2.1 ∈ gT := ch1 (List.mem_of_getElem? (i := 52) rfl) rfl
theorem fl_X1_18 : FLk RX1 18 1 3 := ⟨RX1, TX1, 5, cls1, by decide, rfl, fk_X1_18⟩
theorem ff_X1_18 : FLf RX1 18 1 3 := ⟨TX1, 5, cls1, by decide, rfl, fk_X1_18, rfl⟩
theorem fk_X2_88 : Cond.fieldLink RX2 88 RX1 (TX1 3).2.1 (TX1 3).2.2.1 ∈ gT := ch1 (List.mem_of_getElem? (i := 53) rfl) rfl
theorem fl_X2_88 : FLk RX2 88 1 3 := ⟨RX1, TX1, 5, cls1, by decide, rfl, fk_X2_88⟩
theorem fk_X11_119 : Cond.fieldLink RX11 119 RX1 (TX1 3).2.1 (TX1 3).2.2.1 ∈ gT := ch1 (List.mem_of_getElem? (i := 54) rfl) rfl
theorem fl_X11_119 : FLk RX11 119 1 3 := ⟨RX1, TX1, 5, cls1, by decide, rfl, fk_X11_119⟩
theorem fk_X1_21 : Cond.fieldLink RX1 21 RX1 (TX1 4).2.1 (TX1 4).2.2.1 ∈ gT := ch1 (List.mem_of_getElem? (i := 55) rfl) rfl
theorem fl_X1_21 : FLk RX1 21 1 4 := ⟨RX1, TX1, 5, cls1, by decide, rfl, fk_X1_21⟩
theorem ff_X1_21 : FLf RX1 21 1 4 := ⟨TX1, 5, cls1, by decide, rfl, fk_X1_21, rfl⟩
theorem fk_X11_196 : Cond.fieldLink RX11 196 RX1 (TX1 4).2.1 (TX1 4).2.2.1 ∈ gT := ch1 (List.mem_of_getElem? (i := 56) rfl) rfl
theorem fl_X11_196 : FLk RX11 196 1 4 := ⟨RX1, TX1, 5, cls1, by decide, rfl, fk_X11_196⟩
theorem fk_X7_40 : Cond.fieldLink RX7 40 RX7 (TX7 0).2.1 (TX7 0).2.2.1 ∈ gT := ch1 (List.mem_of_getElem? (i := 75) rfl) rfl
theorem fl_X7_40 : FLk RX7 40 7 0 := ⟨RX7, TX7, 10, cls7, by decide, rfl, fk_X7_40⟩
theorem fw_X7_40 : FLw RX7 40 7 0 := ⟨RX7, TX7, 10, cls7, by decide, rfl, fk_X7_40, rfl⟩
theorem fk_X6_85 : Cond.fieldLink RX6 85 RX7 (TX7 0).2.1 (TX7 0).2.2.1 ∈ gT := ch1 (List.mem_of_getElem? (i := 76) rfl) rfl
theorem fl_X6_85 : FLk RX6 85 7 0 := ⟨RX7, TX7, 10, cls7, by decide, rfl, fk_X6_85⟩
theorem fw_X6_85 : FLw RX6 85 7 0 := ⟨RX7, TX7, 10, cls7, by decide, rfl, fk_X6_85, rfl⟩
theorem fk_X3_69 : Cond.fieldLink RX3 69 RX7 (TX7 0).2.1 (TX7 0).2.2.1 ∈ gT := ch1 (List.mem_of_getElem? (i := 77) rfl) rfl
theorem fl_X3_69 : FLk RX3 69 7 0 := ⟨RX7, TX7, 10, cls7, by decide, rfl, fk_X3_69⟩
theorem fw_X3_69 : FLw RX3 69 7 0 := ⟨RX7, TX7, 10, cls7, by decide, rfl, fk_X3_69, rfl⟩
theorem fk_X11_325 : Cond.fieldLink RX11 325 RX7 (TX7 0).2.1 (TX7 0).2.2.1 ∈ gT := ch1 (List.mem_of_getElem? (i := 78) rfl) rfl
theorem fl_X11_325 : FLk RX11 325 7 0 := ⟨RX7, TX7, 10, cls7, by decide, rfl, fk_X11_325⟩
theorem fw_X11_325 : FLw RX11 325 7 0 := ⟨RX7, TX7, 10, cls7, by decide, rfl, fk_X11_325, rfl⟩
theorem fk_X7_9 : Cond.fieldLink RX7 9 RX7 (TX7 1).2.1 (TX7 1).2.2.1 ∈ gT := ch1 (List.mem_of_getElem? (i := 79) rfl) rfl
theorem fl_X7_9 : FLk RX7 9 7 1 := ⟨RX7, TX7, 10, cls7, by decide, rfl, fk_X7_9⟩
theorem ff_X7_9 : FLf RX7 9 7 1 := ⟨TX7, 10, cls7, by decide, rfl, fk_X7_9, rfl⟩
theorem fk_X2_40 : Cond.fieldLink RX2 40 RX7 (TX7 1).2.1 (TX7 1).2.2.1 ∈ gT := ch1 (List.mem_of_getElem? (i := 80) rfl) rfl
theorem fl_X2_40 : FLk RX2 40 7 1 := ⟨RX7, TX7, 10, cls7, by decide, rfl, fk_X2_40⟩
theorem fk_X9_91 : Cond.fieldLink RX9 91 RX7 (TX7 1).2.1 (TX7 1).2.2.1 ∈ gT := ch1 (List.mem_of_getElem? (i := 81) rfl) rfl
theorem fl_X9_91 : FLk RX9 91 7 1 := ⟨RX7, TX7, 10, cls7, by decide, rfl, fk_X9_91⟩
theorem fk_X0_63 : Cond.fieldLink RX0 63 RX7 (TX7 1).2.1 (TX7 1).2.2.1 ∈ gT := ch1 (List.mem_of_getElem? (i := 82) rfl) rfl
theorem fl_X0_63 : FLk RX0 63 7 1 := ⟨RX7, TX7, 10, cls7, by decide, rfl, fk_X0_63⟩
theorem fk_X11_168 : Cond.fieldLink RX11 168 RX7 (TX7 1).2.1 (TX7 1).2.2.1 ∈ gT := ch1 (List.mem_of_getElem? (i := 83) rfl) rfl
theorem fl_X11_168 : FLk RX11 168 7 1 := ⟨RX7, TX7, 10, cls7, by decide, rfl, fk_X11_168⟩
theorem fk_X7_15 : Cond.fieldLink RX7 15 RX7 (TX7 2).2.1 (TX7 2).2.2.1 ∈ gT := ch1 (List.mem_of_getElem? (i := 84) rfl) rfl
theorem fl_X7_15 : FLk RX7 15 7 2 := ⟨RX7, TX7, 10, cls7, by decide, rfl, fk_X7_15⟩
theorem ff_X7_15 : FLf RX7 15 7 2 := ⟨TX7, 10, cls7, by decide, rfl, fk_X7_15, rfl⟩
theorem fk_X6_90 : Cond.fieldLink RX6 90 RX7 (TX7 2).2.1 (TX7 2).2.2.1 ∈ gT := ch1 (List.mem_of_getElem? (i := 85) rfl) rfl
theorem fl_X6_90 : FLk RX6 90 7 2 := ⟨RX7, TX7, 10, cls7, by decide, rfl, fk_X6_90⟩
theorem fk_X2_149 : Cond.fieldLink RX2 149 RX7 (TX7 2).2.1 (TX7 2).2.2.1 ∈ gT := ch1 (List.mem_of_getElem? (i := 86) rfl) rfl
theorem fl_X2_149 : FLk RX2 149 7 2 := ⟨RX7, TX7, 10, cls7, by decide, rfl, fk_X2_149⟩
theorem fk_X3_98 : Cond.fieldLink RX3 98 RX7 (TX7 2).2.1 (TX7 2).2.2.1 ∈ gT := ch1 (List.mem_of_getElem? (i := 87) rfl) rfl
theorem fl_X3_98 : FLk RX3 98 7 2 := ⟨RX7, TX7, 10, cls7, by decide, rfl, fk_X3_98⟩
theorem fk_X11_171 : Cond.fieldLink RX11 171 RX7 (TX7 2).2.1 (TX7 2).2.2.1 ∈ gT := ch1 (List.mem_of_getElem? (i := 88) rfl) rfl
theorem fl_X11_171 : FLk RX11 171 7 2 := ⟨RX7, TX7, 10, cls7, by decide, rfl, fk_X11_171⟩
theorem fk_X7_18 : Cond.fieldLink RX7 18 RX7 (TX7 3).2.1 (TX7 3).2.2.1 ∈ gT := ch1 (List.mem_of_getElem? (i := 89) rfl) rfl
theorem fl_X7_18 : FLk RX7 18 7 3 := ⟨RX7, TX7, 10, cls7, by decide, rfl, fk_X7_18⟩
theorem ff_X7_18 : FLf RX7 18 7 3 := ⟨TX7, 10, cls7, by decide, rfl, fk_X7_18, rfl⟩
theorem fk_X2_45 : Cond.fieldLink RX2 45 RX7 (TX7 3).2.1 (TX7 3).2.2.1 ∈ gT := ch1 (List.mem_of_getElem? (i := 90) rfl) rfl
theorem fl_X2_45 : FLk RX2 45 7 3 := ⟨RX7, TX7, 10, cls7, by decide, rfl, fk_X2_45⟩
theorem fk_X11_174 : Cond.fieldLink RX11 174 RX7 (TX7 3).2.1 (TX7 3).2.2.1 ∈ gT := ch1 (List.mem_of_getElem? (i := 91) rfl) rfl
theorem fl_X11_174 : FLk RX11 174 7 3 := ⟨RX7, TX7, 10, cls7, by decide, rfl, fk_X11_174⟩
theorem fk_X7_21 : Cond.fieldLink RX7 21 RX7 (TX7 4).2.1 (TX7 4).2.2.1 ∈ gT := ch1 (List.mem_of_getElem? (i := 92) rfl) rfl
theorem fl_X7_21 : FLk RX7 21 7 4 := ⟨RX7, TX7, 10, cls7, by decide, rfl, fk_X7_21⟩
theorem ff_X7_21 : FLf RX7 21 7 4 := ⟨TX7, 10, cls7, by decide, rfl, fk_X7_21, rfl⟩
theorem fk_X2_85 : Cond.fieldLink RX2 85 RX7 (TX7 4).2.1 (TX7 4).2.2.1 ∈ gT := ch1 (List.mem_of_getElem? (i := 93) rfl) rfl
theorem fl_X2_85 : FLk RX2 85 7 4 := ⟨RX7, TX7, 10, cls7, by decide, rfl, fk_X2_85⟩
theorem fk_X11_124 : Cond.fieldLink RX11 124 RX7 (TX7 4).2.1 (TX7 4).2.2.1 ∈ gT := ch1 (List.mem_of_getElem? (i := 94) rfl) rfl
theorem fl_X11_124 : FLk RX11 124 7 4 := ⟨RX7, TX7, 10, cls7, by decide, rfl, fk_X11_124⟩
theorem fk_X7_24 : Cond.fieldLink RX7 24 RX7 (TX7 5).2.1 (TX7 5).2.2.1 ∈ gT := ch1 (List.mem_of_getElem? (i := 95) rfl) rfl
theorem fl_X7_24 : FLk RX7 24 7 5 := ⟨RX7, TX7, 10, cls7, by decide, rfl, fk_X7_24⟩
theorem ff_X7_24 : FLf RX7 24 7 5 := ⟨TX7, 10, cls7, by decide, rfl, fk_X7_24, rfl⟩
theorem fk_X11_181 : Cond.fieldLink RX11 181 RX7 (TX7 5).2.1 (TX7 5).2.2.1 ∈ gT := ch1 (List.mem_of_getElem? (i := 96) rfl) rfl
theorem fl_X11_181 : FLk RX11 181 7 5 := ⟨RX7, TX7, 10, cls7, by decide, rfl, fk_X11_181⟩
theorem fk_X7_27 : Cond.fieldLink RX7 27 RX7 (TX7 6).2.1 (TX7 6).2.2.1 ∈ gT := ch1 (List.mem_of_getElem? (i := 97) rfl) rfl
theorem fl_X7_27 : FLk RX7 27 7 6 := ⟨RX7, TX7, 10, cls7, by decide, rfl, fk_X7_27⟩
theorem ff_X7_27 : FLf RX7 27 7 6 := ⟨TX7, 10, cls7, by decide, rfl, fk_X7_27, rfl⟩
theorem fk_X2_191 : Cond.fieldLink RX2 191 RX7 (TX7 6).2.1 (TX7 6).2.2.1 ∈ gT := ch1 (List.mem_of_getElem? (i := 98) rfl) rfl
theorem fl_X2_191 : FLk RX2 191 7 6 := ⟨RX7, TX7, 10, cls7, by decide, rfl, fk_X2_191⟩
theorem fk_X11_137 : Cond.fieldLink RX11 137 RX7 (TX7 6).2.1 (TX7 6).2.2.1 ∈ gT := ch1 (List.mem_of_getElem? (i := 99) rfl) rfl
theorem fl_X11_137 : FLk RX11 137 7 6 := ⟨RX7, TX7, 10, cls7, by decide, rfl, fk_X11_137⟩
theorem fk_X7_30 : Cond.fieldLink RX7 30 RX7 (TX7 7).2.1 (TX7 7).2.2.1 ∈ gT := ch1 (List.mem_of_getElem? (i := 100) rfl) rfl
theorem fl_X7_30 : FLk RX7 30 7 7 := ⟨RX7, TX7, 10, cls7, by decide, rfl, fk_X7_30⟩
theorem ff_X7_30 : FLf RX7 30 7 7 := ⟨TX7, 10, cls7, by decide, rfl, fk_X7_30, rfl⟩
theorem fk_X11_133 : Cond.fieldLink RX11 133 RX7 (TX7 7).2.1 (TX7 7).2.2.1 ∈ gT := ch1 (List.mem_of_getElem? (i := 101) rfl) rfl
theorem fl_X11_133 : FLk RX11 133 7 7 := ⟨RX7, TX7, 10, cls7, by decide, rfl, fk_X11_133⟩
theorem fk_X7_34 : Cond.fieldLink RX7 34 RX7 (TX7 8).2.1 (TX7 8).2.2.1 ∈ gT := ch1 (List.mem_of_getElem? (i := 102) rfl) rfl
theorem fl_X7_34 : FLk RX7 34 7 8 := ⟨RX7, TX7, 10, cls7, by decide, rfl, fk_X7_34⟩
theorem ff_X7_34 : FLf RX7 34 7 8 := ⟨TX7, 10, cls7, by decide, rfl, fk_X7_34, rfl⟩
theorem fk_X2_70 : Cond.fieldLink RX2 70 RX7 (TX7 8).2.1 (TX7 8).2.2.1 ∈ gT := ch1 (List.mem_of_getElem? (i := 103) rfl) rfl
theorem fl_X2_70 : FLk RX2 70 7 8 := ⟨RX7, TX7, 10, cls7, by decide, rfl, fk_X2_70⟩
theorem fk_X11_184 : Cond.fieldLink RX11 184 RX7 (TX7 8).2.1 (TX7 8).2.2.1 ∈ gT := ch1 (List.mem_of_getElem? (i := 104) rfl) rfl
theorem fl_X11_184 : FLk RX11 184 7 8 := ⟨RX7, TX7, 10, cls7, by decide, rfl, fk_X11_184⟩
theorem fk_X7_37 : Cond.fieldLink RX7 37 RX7 (TX7 9).2.1 (TX7 9).2.2.1 ∈ gT := ch1 (List.mem_of_getElem? (i := 105) rfl) rfl
theorem fl_X7_37 : FLk RX7 37 7 9 := ⟨RX7, TX7, 10, cls7, by decide, rfl, fk_X7_37⟩
theorem ff_X7_37 : FLf RX7 37 7 9 := ⟨TX7, 10, cls7, by decide, rfl, fk_X7_37, rfl⟩
theorem fk_X5_48 : Cond.fieldLink RX5 48 RX5 (TX5 0).2.1 (TX5 0).2.2.1 ∈ gT := ch1 (List.mem_of_getElem? (i := 146) rfl) rfl
theorem fl_X5_48 : FLk RX5 48 5 0 := ⟨RX5, TX5, 7, cls5, by decide, rfl, fk_X5_48⟩
theorem fw_X5_48 : FLw RX5 48 5 0 := ⟨RX5, TX5, 7, cls5, by decide, rfl, fk_X5_48, rfl⟩
theorem fk_X3_86 : Cond.fieldLink RX3 86 RX5 (TX5 0).2.1 (TX5 0).2.2.1 ∈ gT := ch1 (List.mem_of_getElem? (i := 147) rfl) rfl
theorem fl_X3_86 : FLk RX3 86 5 0 := ⟨RX5, TX5, 7, cls5, by decide, rfl, fk_X3_86⟩
theorem fw_X3_86 : FLw RX3 86 5 0 := ⟨RX5, TX5, 7, cls5, by decide, rfl, fk_X3_86, rfl⟩
theorem fk_X11_373 : Cond.fieldLink RX11 373 RX5 (TX5 0).2.1 (TX5 0).2.2.1 ∈ gT := ch1 (List.mem_of_getElem? (i := 148) rfl) rfl
theorem fl_X11_373 : FLk RX11 373 5 0 := ⟨RX5, TX5, 7, cls5, by decide, rfl, fk_X11_373⟩
theorem fw_X11_373 : FLw RX11 373 5 0 := ⟨RX5, TX5, 7, cls5, by decide, rfl, fk_X11_373, rfl⟩
theorem fk_X5_9 : Cond.fieldLink RX5 9 RX5 (TX5 1).2.1 (TX5 1).2.2.1 ∈ gT := ch1 (List.mem_of_getElem? (i := 149) rfl) rfl
theorem fl_X5_9 : FLk RX5 9 5 1 := ⟨RX5, TX5, 7, cls5, by decide, rfl, fk_X5_9⟩
theorem ff_X5_9 : FLf RX5 9 5 1 := ⟨TX5, 7, cls5, by decide, rfl, fk_X5_9, rfl⟩
theorem fk_X3_95 : Cond.fieldLink RX3 95 RX5 (TX5 1).2.1 (TX5 1).2.2.1 ∈ gT := ch1 (List.mem_of_getElem? (i := 150) rfl) rfl
theorem fl_X3_95 : FLk RX3 95 5 1 := ⟨RX5, TX5, 7, cls5, by decide, rfl, fk_X3_95⟩
theorem fk_X5_15 : Cond.fieldLink RX5 15 RX5 (TX5 2).2.1 (TX5 2).2.2.1 ∈ gT := ch1 (List.mem_of_getElem? (i := 151) rfl) rfl
theorem fl_X5_15 : FLk RX5 15 5 2 := ⟨RX5, TX5, 7, cls5, by decide, rfl, fk_X5_15⟩
theorem ff_X5_15 : FLf RX5 15 5 2 := ⟨TX5, 7, cls5, by decide, rfl, fk_X5_15, rfl⟩
theorem fk_X3_92 : Cond.fieldLink RX3 92 RX5 (TX5 2).2.1 (TX5 2).2.2.1 ∈ gT := ch1 (List.mem_of_getElem? (i := 152) rfl) rfl
theorem fl_X3_92 : FLk RX3 92 5 2 := ⟨RX5, TX5, 7, cls5, by decide, rfl, fk_X3_92⟩
theorem fk_X5_18 : Cond.fieldLink RX5 18 RX5 (TX5 3).2.1 (TX5 3).2.2.1 ∈ gT := ch1 (List.mem_of_getElem? (i := 153) rfl) rfl
theorem fl_X5_18 : FLk RX5 18 5 3 := ⟨RX5, TX5, 7, cls5, by decide, rfl, fk_X5_18⟩
theorem ff_X5_18 : FLf RX5 18 5 3 := ⟨TX5, 7, cls5, by decide, rfl, fk_X5_18, rfl⟩
theorem fk_X5_21 : Cond.fieldLink RX5 21 RX5 (TX5 4).2.1 (TX5 4).2.2.1 ∈ gT := ch1 (List.mem_of_getElem? (i := 154) rfl) rfl
theorem fl_X5_21 : FLk RX5 21 5 4 := ⟨RX5, TX5, 7, cls5, by decide, rfl, fk_X5_21⟩
theorem ff_X5_21 : FLf RX5 21 5 4 := ⟨TX5, 7, cls5, by decide, rfl, fk_X5_21, rfl⟩
theorem fk_X5_24 : Cond.fieldLink RX5 24 RX5 (TX5 5).2.1 (TX5 5).2.2.1 ∈ gT := ch1 (List.mem_of_getElem? (i := 155) rfl) rfl
theorem fl_X5_24 : FLk RX5 24 5 5 := ⟨RX5, TX5, 7, cls5, by decide, rfl, fk_X5_24⟩
theorem ff_X5_24 : FLf RX5 24 5 5 := ⟨TX5, 7, cls5, by decide, rfl, fk_X5_24, rfl⟩
theorem fk_X5_27 : Cond.fieldLink RX5 27 RX5 (TX5 6).2.1 (TX5 6).2.2.1 ∈ gT := ch1 (List.mem_of_getElem? (i := 156) rfl) rfl
theorem fl_X5_27 : FLk RX5 27 5 6 := ⟨RX5, TX5, 7, cls5, by decide, rfl, fk_X5_27⟩
theorem ff_X5_27 : FLf RX5 27 5 6 := ⟨TX5, 7, cls5, by decide, rfl, fk_X5_27, rfl⟩
theorem fk_X4_48 : Cond.fieldLink RX4 48 RX4 (TX4 0).2.1 (TX4 0).2.2.1 ∈ gT := ch1 (List.mem_of_getElem? (i := 180) rfl) rfl
theorem fl_X4_48 : FLk RX4 48 4 0 := ⟨RX4, TX4, 12, cls4, by decide, rfl, fk_X4_48⟩
theorem fw_X4_48 : FLw RX4 48 4 0 := ⟨RX4, TX4, 12, cls4, by decide, rfl, fk_X4_48, rfl⟩
theorem fk_X2_185 : Cond.fieldLink RX2 185 RX4 (TX4 0).2.1 (TX4 0).2.2.1 ∈ gT := ch1 (List.mem_of_getElem? (i := 181) rfl) rfl
theorem fl_X2_185 : FLk RX2 185 4 0 := ⟨RX4, TX4, 12, cls4, by decide, rfl, fk_X2_185⟩
theorem fw_X2_185 : FLw RX2 185 4 0 := ⟨RX4, TX4, 12, cls4, by decide, rfl, fk_X2_185, rfl⟩
theorem fk_X11_322 : Cond.fieldLink RX11 322 RX4 (TX4 0).2.1 (TX4 0).2.2.1 ∈ gT := ch1 (List.mem_of_getElem? (i := 182) rfl) rfl
theorem fl_X11_322 : FLk RX11 322 4 0 := ⟨RX4, TX4, 12, cls4, by decide, rfl, fk_X11_322⟩
theorem fw_X11_322 : FLw RX11 322 4 0 := ⟨RX4, TX4, 12, cls4, by decide, rfl, fk_X11_322, rfl⟩
theorem fk_X4_9 : Cond.fieldLink RX4 9 RX4 (TX4 1).2.1 (TX4 1).2.2.1 ∈ gT := ch1 (List.mem_of_getElem? (i := 183) rfl) rfl
theorem fl_X4_9 : FLk RX4 9 4 1 := ⟨RX4, TX4, 12, cls4, by decide, rfl, fk_X4_9⟩
theorem ff_X4_9 : FLf RX4 9 4 1 := ⟨TX4, 12, cls4, by decide, rfl, fk_X4_9, rfl⟩
theorem fk_X2_174 : Cond.fieldLink RX2 174 RX4 (TX4 1).2.1 (TX4 1).2.2.1 ∈ gT := ch1 (List.mem_of_getElem? (i := 184) rfl) rfl
theorem fl_X2_174 : FLk RX2 174 4 1 := ⟨RX4, TX4, 12, cls4, by decide, rfl, fk_X2_174⟩
theorem fk_X11_289 : Cond.fieldLink RX11 289 RX4 (TX4 1).2.1 (TX4 1).2.2.1 ∈ gT := ch1 (List.mem_of_getElem? (i := 185) rfl) rfl
theorem fl_X11_289 : FLk RX11 289 4 1 := ⟨RX4, TX4, 12, cls4, by decide, rfl, fk_X11_289⟩
theorem fk_X4_15 : Cond.fieldLink RX4 15 RX4 (TX4 2).2.1 (TX4 2).2.2.1 ∈ gT := ch1 (List.mem_of_getElem? (i := 186) rfl) rfl
theorem fl_X4_15 : FLk RX4 15 4 2 := ⟨RX4, TX4, 12, cls4, by decide, rfl, fk_X4_15⟩
theorem ff_X4_15 : FLf RX4 15 4 2 := ⟨TX4, 12, cls4, by decide, rfl, fk_X4_15, rfl⟩
theorem fk_X2_176 : Cond.fieldLink RX2 176 RX4 (TX4 2).2.1 (TX4 2).2.2.1 ∈ gT := ch1 (List.mem_of_getElem? (i := 187) rfl) rfl
theorem fl_X2_176 : FLk RX2 176 4 2 := ⟨RX4, TX4, 12, cls4, by decide, rfl, fk_X2_176⟩
theorem fk_X11_292 : Cond.fieldLink RX11 292 RX4 (TX4 2).2.1 (TX4 2).2.2.1 ∈ gT := ch1 (List.mem_of_getElem? (i := 188) rfl) rfl
theorem fl_X11_292 : FLk RX11 292 4 2 := ⟨RX4, TX4, 12, cls4, by decide, rfl, fk_X11_292⟩
theorem fk_X4_18 : Cond.fieldLink RX4 18 RX4 (TX4 3).2.1 (TX4 3).2.2.1 ∈ gT := ch1 (List.mem_of_getElem? (i := 189) rfl) rfl
theorem fl_X4_18 : FLk RX4 18 4 3 := ⟨RX4, TX4, 12, cls4, by decide, rfl, fk_X4_18⟩
theorem ff_X4_18 : FLf RX4 18 4 3 := ⟨TX4, 12, cls4, by decide, rfl, fk_X4_18, rfl⟩
theorem fk_X11_309 : Cond.fieldLink RX11 309 RX4 (TX4 3).2.1 (TX4 3).2.2.1 ∈ gT := ch1 (List.mem_of_getElem? (i := 190) rfl) rfl
theorem fl_X11_309 : FLk RX11 309 4 3 := ⟨RX4, TX4, 12, cls4, by decide, rfl, fk_X11_309⟩
theorem fk_X4_21 : Cond.fieldLink RX4 21 RX4 (TX4 4).2.1 (TX4 4).2.2.1 ∈ gT := ch1 (List.mem_of_getElem? (i := 191) rfl) rfl
theorem fl_X4_21 : FLk RX4 21 4 4 := ⟨RX4, TX4, 12, cls4, by decide, rfl, fk_X4_21⟩
theorem ff_X4_21 : FLf RX4 21 4 4 := ⟨TX4, 12, cls4, by decide, rfl, fk_X4_21, rfl⟩
theorem fk_X11_261 : Cond.fieldLink RX11 261 RX4 (TX4 4).2.1 (TX4 4).2.2.1 ∈ gT := ch1 (List.mem_of_getElem? (i := 192) rfl) rfl
theorem fl_X11_261 : FLk RX11 261 4 4 := ⟨RX4, TX4, 12, cls4, by decide, rfl, fk_X11_261⟩
theorem fk_X4_24 : Cond.fieldLink RX4 24 RX4 (TX4 5).2.1 (TX4 5).2.2.1 ∈ gT := ch1 (List.mem_of_getElem? (i := 193) rfl) rfl
theorem fl_X4_24 : FLk RX4 24 4 5 := ⟨RX4, TX4, 12, cls4, by decide, rfl, fk_X4_24⟩
theorem ff_X4_24 : FLf RX4 24 4 5 := ⟨TX4, 12, cls4, by decide, rfl, fk_X4_24, rfl⟩
theorem fk_X11_266 : Cond.fieldLink RX11 266 RX4 (TX4 5).2.1 (TX4 5).2.2.1 ∈ gT := ch1 (List.mem_of_getElem? (i := 194) rfl) rfl
theorem fl_X11_266 : FLk RX11 266 4 5 := ⟨RX4, TX4, 12, cls4, by decide, rfl, fk_X11_266⟩
theorem fk_X4_27 : Cond.fieldLink RX4 27 RX4 (TX4 6).2.1 (TX4 6).2.2.1 ∈ gT := ch1 (List.mem_of_getElem? (i := 195) rfl) rfl
theorem fl_X4_27 : FLk RX4 27 4 6 := ⟨RX4, TX4, 12, cls4, by decide, rfl, fk_X4_27⟩
theorem ff_X4_27 : FLf RX4 27 4 6 := ⟨TX4, 12, cls4, by decide, rfl, fk_X4_27, rfl⟩
theorem fk_X11_283 : Cond.fieldLink RX11 283 RX4 (TX4 6).2.1 (TX4 6).2.2.1 ∈ gT := ch1 (List.mem_of_getElem? (i := 196) rfl) rfl
theorem fl_X11_283 : FLk RX11 283 4 6 := ⟨RX4, TX4, 12, cls4, by decide, rfl, fk_X11_283⟩
theorem fk_X4_30 : Cond.fieldLink RX4 30 RX4 (TX4 7).2.1 (TX4 7).2.2.1 ∈ gT := ch1 (List.mem_of_getElem? (i := 197) rfl) rfl
theorem fl_X4_30 : FLk RX4 30 4 7 := ⟨RX4, TX4, 12, cls4, by decide, rfl, fk_X4_30⟩
theorem ff_X4_30 : FLf RX4 30 4 7 := ⟨TX4, 12, cls4, by decide, rfl, fk_X4_30, rfl⟩
theorem fk_X11_313 : Cond.fieldLink RX11 313 RX4 (TX4 7).2.1 (TX4 7).2.2.1 ∈ gT := ch1 (List.mem_of_getElem? (i := 198) rfl) rfl
theorem fl_X11_313 : FLk RX11 313 4 7 := ⟨RX4, TX4, 12, cls4, by decide, rfl, fk_X11_313⟩
theorem fk_X4_33 : Cond.fieldLink RX4 33 RX4 (TX4 8).2.1 (TX4 8).2.2.1 ∈ gT := ch1 (List.mem_of_getElem? (i := 199) rfl) rfl
theorem fl_X4_33 : FLk RX4 33 4 8 := ⟨RX4, TX4, 12, cls4, by decide, rfl, fk_X4_33⟩
theorem ff_X4_33 : FLf RX4 33 4 8 := ⟨TX4, 12, cls4, by decide, rfl, fk_X4_33, rfl⟩
theorem fk_X11_316 : Cond.fieldLink RX11 316 RX4 (TX4 8).2.1 (TX4 8).2.2.1 ∈ gT := ch1 (List.mem_of_getElem? (i := 200) rfl) rfl
theorem fl_X11_316 : FLk RX11 316 4 8 := ⟨RX4, TX4, 12, cls4, by decide, rfl, fk_X11_316⟩
theorem fk_X4_36 : Cond.fieldLink RX4 36 RX4 (TX4 9).2.1 (TX4 9).2.2.1 ∈ gT := ch1 (List.mem_of_getElem? (i := 201) rfl) rfl
theorem fl_X4_36 : FLk RX4 36 4 9 := ⟨RX4, TX4, 12, cls4, by decide, rfl, fk_X4_36⟩
theorem ff_X4_36 : FLf RX4 36 4 9 := ⟨TX4, 12, cls4, by decide, rfl, fk_X4_36, rfl⟩
theorem fk_X2_178 : Cond.fieldLink RX2 178 RX4 (TX4 9).2.1 (TX4 9).2.2.1 ∈ gT := ch1 (List.mem_of_getElem? (i := 202) rfl) rfl
theorem fl_X2_178 : FLk RX2 178 4 9 := ⟨RX4, TX4, 12, cls4, by decide, rfl, fk_X2_178⟩
theorem fk_X4_41 : Cond.fieldLink RX4 41 RX4 (TX4 10).2.1 (TX4 10).2.2.1 ∈ gT := ch1 (List.mem_of_getElem? (i := 203) rfl) rfl
theorem fl_X4_41 : FLk RX4 41 4 10 := ⟨RX4, TX4, 12, cls4, by decide, rfl, fk_X4_41⟩
theorem ff_X4_41 : FLf RX4 41 4 10 := ⟨TX4, 12, cls4, by decide, rfl, fk_X4_41, rfl⟩
theorem fk_X2_168 : Cond.fieldLink RX2 168 RX4 (TX4 10).2.1 (TX4 10).2.2.1 ∈ gT := ch1 (List.mem_of_getElem? (i := 204) rfl) rfl
theorem fl_X2_168 : FLk RX2 168 4 10 := ⟨RX4, TX4, 12, cls4, by decide, rfl, fk_X2_168⟩
theorem fk_X4_45 : Cond.fieldLink RX4 45 RX4 (TX4 11).2.1 (TX4 11).2.2.1 ∈ gT := ch1 (List.mem_of_getElem? (i := 205) rfl) rfl
theorem fl_X4_45 : FLk RX4 45 4 11 := ⟨RX4, TX4, 12, cls4, by decide, rfl, fk_X4_45⟩
theorem ff_X4_45 : FLf RX4 45 4 11 := ⟨TX4, 12, cls4, by decide, rfl, fk_X4_45, rfl⟩
theorem fk_X2_171 : Cond.fieldLink RX2 171 RX4 (TX4 11).2.1 (TX4 11).2.2.1 ∈ gT := ch1 (List.mem_of_getElem? (i := 206) rfl) rfl
theorem fl_X2_171 : FLk RX2 171 4 11 := ⟨RX4, TX4, 12, cls4, by decide, rfl, fk_X2_171⟩
theorem fk_X10_9 : Cond.fieldLink RX10 9 RX10 (TX10 0).2.1 (TX10 0).2.2.1 ∈ gT := ch1 (List.mem_of_getElem? (i := 238) rfl) rfl
theorem fl_X10_9 : FLk RX10 9 10 0 := ⟨RX10, TX10, 8, cls10, by decide, rfl, fk_X10_9⟩
theorem ff_X10_9 : FLf RX10 9 10 0 := ⟨TX10, 8, cls10, by decide, rfl, fk_X10_9, rfl⟩
theorem fk_X2_112 : Cond.fieldLink RX2 112 RX10 (TX10 0).2.1 (TX10 0).2.2.1 ∈ gT := ch1 (List.mem_of_getElem? (i := 239) rfl) rfl
theorem fl_X2_112 : FLk RX2 112 10 0 := ⟨RX10, TX10, 8, cls10, by decide, rfl, fk_X2_112⟩
theorem fk_X11_225 : Cond.fieldLink RX11 225 RX10 (TX10 0).2.1 (TX10 0).2.2.1 ∈ gT := ch2 (List.mem_of_getElem? (i := 0) rfl) rfl
theorem fl_X11_225 : FLk RX11 225 10 0 := ⟨RX10, TX10, 8, cls10, by decide, rfl, fk_X11_225⟩
theorem fk_X10_15 : Cond.fieldLink RX10 15 RX10 (TX10 1).2.1 (TX10 1).2.2.1 ∈ gT := ch2 (List.mem_of_getElem? (i := 1) rfl) rfl
theorem fl_X10_15 : FLk RX10 15 10 1 := ⟨RX10, TX10, 8, cls10, by decide, rfl, fk_X10_15⟩
theorem ff_X10_15 : FLf RX10 15 10 1 := ⟨TX10, 8, cls10, by decide, rfl, fk_X10_15, rfl⟩
theorem fk_X8_58 : Cond.fieldLink RX8 58 RX10 (TX10 1).2.1 (TX10 1).2.2.1 ∈ gT := ch2 (List.mem_of_getElem? (i := 2) rfl) rfl
theorem fl_X8_58 : FLk RX8 58 10 1 := ⟨RX10, TX10, 8, cls10, by decide, rfl, fk_X8_58⟩
theorem fk_X2_123 : Cond.fieldLink RX2 123 RX10 (TX10 1).2.1 (TX10 1).2.2.1 ∈ gT := ch2 (List.mem_of_getElem? (i := 3) rfl) rfl
theorem fl_X2_123 : FLk RX2 123 10 1 := ⟨RX10, TX10, 8, cls10, by decide, rfl, fk_X2_123⟩
theorem fk_X10_19 : Cond.fieldLink RX10 19 RX10 (TX10 2).2.1 (TX10 2).2.2.1 ∈ gT := ch2 (List.mem_of_getElem? (i := 4) rfl) rfl
theorem fl_X10_19 : FLk RX10 19 10 2 := ⟨RX10, TX10, 8, cls10, by decide, rfl, fk_X10_19⟩
theorem ff_X10_19 : FLf RX10 19 10 2 := ⟨TX10, 8, cls10, by decide, rfl, fk_X10_19, rfl⟩
theorem fk_X8_66 : Cond.fieldLink RX8 66 RX10 (TX10 2).2.1 (TX10 2).2.2.1 ∈ gT := ch2 (List.mem_of_getElem? (i := 5) rfl) rfl
theorem fl_X8_66 : FLk RX8 66 10 2 := ⟨RX10, TX10, 8, cls10, by decide, rfl, fk_X8_66⟩
theorem fk_X2_126 : Cond.fieldLink RX2 126 RX10 (TX10 2).2.1 (TX10 2).2.2.1 ∈ gT := ch2 (List.mem_of_getElem? (i := 6) rfl) rfl
theorem fl_X2_126 : FLk RX2 126 10 2 := ⟨RX10, TX10, 8, cls10, by decide, rfl, fk_X2_126⟩
theorem fk_X10_22 : Cond.fieldLink RX10 22 RX10 (TX10 3).2.1 (TX10 3).2.2.1 ∈ gT := ch2 (List.mem_of_getElem? (i := 7) rfl) rfl
theorem fl_X10_22 : FLk RX10 22 10 3 := ⟨RX10, TX10, 8, cls10, by decide, rfl, fk_X10_22⟩
theorem ff_X10_22 : FLf RX10 22 10 3 := ⟨TX10, 8, cls10, by decide, rfl, fk_X10_22, rfl⟩
theorem fk_X8_69 : Cond.fieldLink RX8 69 RX10 (TX10 3).2.1 (TX10 3).2.2.1 ∈ gT := ch2 (List.mem_of_getElem? (i := 8) rfl) rfl
theorem fl_X8_69 : FLk RX8 69 10 3 := ⟨RX10, TX10, 8, cls10, by decide, rfl, fk_X8_69⟩
theorem fk_X10_25 : Cond.fieldLink RX10 25 RX10 (TX10 4).2.1 (TX10 4).2.2.1 ∈ gT := ch2 (List.mem_of_getElem? (i := 9) rfl) rfl
theorem fl_X10_25 : FLk RX10 25 10 4 := ⟨RX10, TX10, 8, cls10, by decide, rfl, fk_X10_25⟩
theorem ff_X10_25 : FLf RX10 25 10 4 := ⟨TX10, 8, cls10, by decide, rfl, fk_X10_25, rfl⟩
theorem fk_X8_72 : Cond.fieldLink RX8 72 RX10 (TX10 4).2.1 (TX10 4).2.2.1 ∈ gT := ch2 (List.mem_of_getElem? (i := 10) rfl) rfl
theorem fl_X8_72 : FLk RX8 72 10 4 := ⟨RX10, TX10, 8, cls10, by decide, rfl, fk_X8_72⟩
theorem fk_X10_28 : Cond.fieldLink RX10 28 RX10 (TX10 5).2.1 (TX10 5).2.2.1 ∈ gT := ch2 (List.mem_of_getElem? (i := 11) rfl) rfl
theorem fl_X10_28 : FLk RX10 28 10 5 := ⟨RX10, TX10, 8, cls10, by decide, rfl, fk_X10_28⟩
theorem ff_X10_28 : FLf RX10 28 10 5 := ⟨TX10, 8, cls10, by decide, rfl, fk_X10_28, rfl⟩
theorem fk_X8_75 : Cond.fieldLink RX8 75 RX10 (TX10 5).2.1 (TX10 5).2.2.1 ∈ gT := ch2 (List.mem_of_getElem? (i := 12) rfl) rfl
theorem fl_X8_75 : FLk RX8 75 10 5 := ⟨RX10, TX10, 8, cls10, by decide, rfl, fk_X8_75⟩
theorem fk_X10_31 : Cond.fieldLink RX10 31 RX10 (TX10 6).2.1 (TX10 6).2.2.1 ∈ gT := ch2 (List.mem_of_getElem? (i := 13) rfl) rfl
theorem fl_X10_31 : FLk RX10 31 10 6 := ⟨RX10, TX10, 8, cls10, by decide, rfl, fk_X10_31⟩
theorem ff_X10_31 : FLf RX10 31 10 6 := ⟨TX10, 8, cls10, by decide, rfl, fk_X10_31, rfl⟩
theorem fk_X8_78 : Cond.fieldLink RX8 78 RX10 (TX10 6).2.1 (TX10 6).2.2.1 ∈ gT := ch2 (List.mem_of_getElem? (i := 14) rfl) rfl
theorem fl_X8_78 : FLk RX8 78 10 6 := ⟨RX10, TX10, 8, cls10, by decide, rfl, fk_X8_78⟩
theorem fk_X10_34 : Cond.fieldLink RX10 34 RX10 (TX10 7).2.1 (TX10 7).2.2.1 ∈ gT := ch2 (List.mem_of_getElem? (i := 15) rfl) rfl
theorem fl_X10_34 : FLk RX10 34 10 7 := ⟨RX10, TX10, 8, cls10, by decide, rfl, fk_X10_34⟩
theorem ff_X10_34 : FLf RX10 34 10 7 := ⟨TX10, 8, cls10, by decide, rfl, fk_X10_34, rfl⟩
theorem fk_X8_81 : Cond.fieldLink RX8 81 RX10 (TX10 7).2.1 (TX10 7).2.2.1 ∈ gT := ch2 (List.mem_of_getElem? (i := 16) rfl) rfl
theorem fl_X8_81 : FLk RX8 81 10 7 := ⟨RX10, TX10, 8, cls10, by decide, rfl, fk_X8_81⟩
theorem fk_X2_82 : Cond.fieldLink RX2 82 RX0 (TX0 0).2.1 (TX0 0).2.2.1 ∈ gT := ch2 (List.mem_of_getElem? (i := 35) rfl) rfl
theorem fl_X2_82 : FLk RX2 82 0 0 := ⟨RX0, TX0, 10, cls0, by decide, rfl, fk_X2_82⟩
theorem fw_X2_82 : FLw RX2 82 0 0 := ⟨RX0, TX0, 10, cls0, by decide, rfl, fk_X2_82, rfl⟩
theorem fk_X11_85 : Cond.fieldLink RX11 85 RX0 (TX0 0).2.1 (TX0 0).2.2.1 ∈ gT := ch2 (List.mem_of_getElem? (i := 36) rfl) rfl
theorem fl_X11_85 : FLk RX11 85 0 0 := ⟨RX0, TX0, 10, cls0, by decide, rfl, fk_X11_85⟩
theorem fw_X11_85 : FLw RX11 85 0 0 := ⟨RX0, TX0, 10, cls0, by decide, rfl, fk_X11_85, rfl⟩
theorem fk_X0_66 : Cond.fieldLink RX0 66 RX0 (TX0 0).2.1 (TX0 0).2.2.1 ∈ gT := ch2 (List.mem_of_getElem? (i := 37) rfl) rfl
theorem fl_X0_66 : FLk RX0 66 0 0 := ⟨RX0, TX0, 10, cls0, by decide, rfl, fk_X0_66⟩
theorem fw_X0_66 : FLw RX0 66 0 0 := ⟨RX0, TX0, 10, cls0, by decide, rfl, fk_X0_66, rfl⟩
theorem fk_X0_12 : Cond.fieldLink RX0 12 RX0 (TX0 1).2.1 (TX0 1).2.2.1 ∈ gT := ch2 (List.mem_of_getElem? (i := 38) rfl) rfl
theorem fl_X0_12 : FLk RX0 12 0 1 := ⟨RX0, TX0, 10, cls0, by decide, rfl, fk_X0_12⟩
theorem ff_X0_12 : FLf RX0 12 0 1 := ⟨TX0, 10, cls0, by decide, rfl, fk_X0_12, rfl⟩
theorem fk_X2_36 : Cond.fieldLink RX2 36 RX0 (TX0 1).2.1 (TX0 1).2.2.1 ∈ gT := ch2 (List.mem_of_getElem? (i := 39) rfl) rfl
theorem fl_X2_36 : FLk RX2 36 0 1 := ⟨RX0, TX0, 10, cls0, by decide, rfl, fk_X2_36⟩
theorem fk_X11_72 : Cond.fieldLink RX11 72 RX0 (TX0 1).2.1 (TX0 1).2.2.1 ∈ gT := ch2 (List.mem_of_getElem? (i := 40) rfl) rfl
theorem fl_X11_72 : FLk RX11 72 0 1 := ⟨RX0, TX0, 10, cls0, by decide, rfl, fk_X11_72⟩
theorem fk_X9_72 : Cond.fieldLink RX9 72 RX0 (TX0 1).2.1 (TX0 1).2.2.1 ∈ gT := ch2 (List.mem_of_getElem? (i := 41) rfl) rfl
theorem fl_X9_72 : FLk RX9 72 0 1 := ⟨RX0, TX0, 10, cls0, by decide, rfl, fk_X9_72⟩
theorem fk_X0_21 : Cond.fieldLink RX0 21 RX0 (TX0 2).2.1 (TX0 2).2.2.1 ∈ gT := ch2 (List.mem_of_getElem? (i := 42) rfl) rfl
theorem fl_X0_21 : FLk RX0 21 0 2 := ⟨RX0, TX0, 10, cls0, by decide, rfl, fk_X0_21⟩
theorem ff_X0_21 : FLf RX0 21 0 2 := ⟨TX0, 10, cls0, by decide, rfl, fk_X0_21, rfl⟩
theorem fk_X2_30 : Cond.fieldLink RX2 30 RX0 (TX0 2).2.1 (TX0 2).2.2.1 ∈ gT := ch2 (List.mem_of_getElem? (i := 43) rfl) rfl
theorem fl_X2_30 : FLk RX2 30 0 2 := ⟨RX0, TX0, 10, cls0, by decide, rfl, fk_X2_30⟩
theorem fk_X9_87 : Cond.fieldLink RX9 87 RX0 (TX0 2).2.1 (TX0 2).2.2.1 ∈ gT := ch2 (List.mem_of_getElem? (i := 44) rfl) rfl
theorem fl_X9_87 : FLk RX9 87 0 2 := ⟨RX0, TX0, 10, cls0, by decide, rfl, fk_X9_87⟩
theorem fk_X6_79 : Cond.fieldLink RX6 79 RX0 (TX0 2).2.1 (TX0 2).2.2.1 ∈ gT := ch2 (List.mem_of_getElem? (i := 45) rfl) rfl
theorem fl_X6_79 : FLk RX6 79 0 2 := ⟨RX0, TX0, 10, cls0, by decide, rfl, fk_X6_79⟩
theorem fk_X11_89 : Cond.fieldLink RX11 89 RX0 (TX0 2).2.1 (TX0 2).2.2.1 ∈ gT := ch2 (List.mem_of_getElem? (i := 46) rfl) rfl
theorem fl_X11_89 : FLk RX11 89 0 2 := ⟨RX0, TX0, 10, cls0, by decide, rfl, fk_X11_89⟩
theorem fk_X3_63 : Cond.fieldLink RX3 63 RX0 (TX0 2).2.1 (TX0 2).2.2.1 ∈ gT := ch2 (List.mem_of_getElem? (i := 47) rfl) rfl
theorem fl_X3_63 : FLk RX3 63 0 2 := ⟨RX0, TX0, 10, cls0, by decide, rfl, fk_X3_63⟩
theorem fk_X0_28 : Cond.fieldLink RX0 28 RX0 (TX0 3).2.1 (TX0 3).2.2.1 ∈ gT := ch2 (List.mem_of_getElem? (i := 48) rfl) rfl
theorem fl_X0_28 : FLk RX0 28 0 3 := ⟨RX0, TX0, 10, cls0, by decide, rfl, fk_X0_28⟩
theorem ff_X0_28 : FLf RX0 28 0 3 := ⟨TX0, 10, cls0, by decide, rfl, fk_X0_28, rfl⟩
theorem fk_X11_98 : Cond.fieldLink RX11 98 RX0 (TX0 3).2.1 (TX0 3).2.2.1 ∈ gT := ch2 (List.mem_of_getElem? (i := 49) rfl) rfl
theorem fl_X11_98 : FLk RX11 98 0 3 := ⟨RX0, TX0, 10, cls0, by decide, rfl, fk_X11_98⟩
theorem fk_X3_82 : Cond.fieldLink RX3 82 RX0 (TX0 3).2.1 (TX0 3).2.2.1 ∈ gT := ch2 (List.mem_of_getElem? (i := 50) rfl) rfl
theorem fl_X3_82 : FLk RX3 82 0 3 := ⟨RX0, TX0, 10, cls0, by decide, rfl, fk_X3_82⟩
theorem fk_X0_35 : Cond.fieldLink RX0 35 RX0 (TX0 4).2.1 (TX0 4).2.2.1 ∈ gT := ch2 (List.mem_of_getElem? (i := 51) rfl) rfl
theorem fl_X0_35 : FLk RX0 35 0 4 := ⟨RX0, TX0, 10, cls0, by decide, rfl, fk_X0_35⟩
theorem ff_X0_35 : FLf RX0 35 0 4 := ⟨TX0, 10, cls0, by decide, rfl, fk_X0_35, rfl⟩
theorem fk_X2_159 : Cond.fieldLink RX2 159 RX0 (TX0 4).2.1 (TX0 4).2.2.1 ∈ gT := ch2 (List.mem_of_getElem? (i := 52) rfl) rfl
theorem fl_X2_159 : FLk RX2 159 0 4 := ⟨RX0, TX0, 10, cls0, by decide, rfl, fk_X2_159⟩
theorem fk_X11_140 : Cond.fieldLink RX11 140 RX0 (TX0 4).2.1 (TX0 4).2.2.1 ∈ gT := ch2 (List.mem_of_getElem? (i := 53) rfl) rfl
theorem fl_X11_140 : FLk RX11 140 0 4 := ⟨RX0, TX0, 10, cls0, by decide, rfl, fk_X11_140⟩
theorem fk_X0_41 : Cond.fieldLink RX0 41 RX0 (TX0 5).2.1 (TX0 5).2.2.1 ∈ gT := ch2 (List.mem_of_getElem? (i := 54) rfl) rfl
theorem fl_X0_41 : FLk RX0 41 0 5 := ⟨RX0, TX0, 10, cls0, by decide, rfl, fk_X0_41⟩
theorem ff_X0_41 : FLf RX0 41 0 5 := ⟨TX0, 10, cls0, by decide, rfl, fk_X0_41, rfl⟩
theorem fk_X2_152 : Cond.fieldLink RX2 152 RX0 (TX0 5).2.1 (TX0 5).2.2.1 ∈ gT := ch2 (List.mem_of_getElem? (i := 55) rfl) rfl
theorem fl_X2_152 : FLk RX2 152 0 5 := ⟨RX0, TX0, 10, cls0, by decide, rfl, fk_X2_152⟩
theorem fk_X11_221 : Cond.fieldLink RX11 221 RX0 (TX0 5).2.1 (TX0 5).2.2.1 ∈ gT := ch2 (List.mem_of_getElem? (i := 56) rfl) rfl
theorem fl_X11_221 : FLk RX11 221 0 5 := ⟨RX0, TX0, 10, cls0, by decide, rfl, fk_X11_221⟩
theorem fk_X0_45 : Cond.fieldLink RX0 45 RX0 (TX0 6).2.1 (TX0 6).2.2.1 ∈ gT := ch2 (List.mem_of_getElem? (i := 57) rfl) rfl
theorem fl_X0_45 : FLk RX0 45 0 6 := ⟨RX0, TX0, 10, cls0, by decide, rfl, fk_X0_45⟩
theorem ff_X0_45 : FLf RX0 45 0 6 := ⟨TX0, 10, cls0, by decide, rfl, fk_X0_45, rfl⟩
theorem fk_X8_132 : Cond.fieldLink RX8 132 RX0 (TX0 6).2.1 (TX0 6).2.2.1 ∈ gT := ch2 (List.mem_of_getElem? (i := 58) rfl) rfl
theorem fl_X8_132 : FLk RX8 132 0 6 := ⟨RX0, TX0, 10, cls0, by decide, rfl, fk_X8_132⟩
theorem fk_X0_56 : Cond.fieldLink RX0 56 RX0 (TX0 7).2.1 (TX0 7).2.2.1 ∈ gT := ch2 (List.mem_of_getElem? (i := 59) rfl) rfl
theorem fl_X0_56 : FLk RX0 56 0 7 := ⟨RX0, TX0, 10, cls0, by decide, rfl, fk_X0_56⟩
theorem fw_X0_56 : FLw RX0 56 0 7 := ⟨RX0, TX0, 10, cls0, by decide, rfl, fk_X0_56, rfl⟩
theorem fk_X11_203 : Cond.fieldLink RX11 203 RX0 (TX0 7).2.1 (TX0 7).2.2.1 ∈ gT := ch2 (List.mem_of_getElem? (i := 60) rfl) rfl
theorem fl_X11_203 : FLk RX11 203 0 7 := ⟨RX0, TX0, 10, cls0, by decide, rfl, fk_X11_203⟩
theorem fw_X11_203 : FLw RX11 203 0 7 := ⟨RX0, TX0, 10, cls0, by decide, rfl, fk_X11_203, rfl⟩
theorem fk_X8_191 : Cond.fieldLink RX8 191 RX0 (TX0 7).2.1 (TX0 7).2.2.1 ∈ gT := ch2 (List.mem_of_getElem? (i := 61) rfl) rfl
theorem fl_X8_191 : FLk RX8 191 0 7 := ⟨RX0, TX0, 10, cls0, by decide, rfl, fk_X8_191⟩
theorem fw_X8_191 : FLw RX8 191 0 7 := ⟨RX0, TX0, 10, cls0, by decide, rfl, fk_X8_191, rfl⟩
theorem fk_X0_92 : Cond.fieldLink RX0 92 RX0 (TX0 8).2.1 (TX0 8).2.2.1 ∈ gT := ch2 (List.mem_of_getElem? (i := 62) rfl) rfl
theorem fl_X0_92 : FLk RX0 92 0 8 := ⟨RX0, TX0, 10, cls0, by decide, rfl, fk_X0_92⟩
theorem fw_X0_92 : FLw RX0 92 0 8 := ⟨RX0, TX0, 10, cls0, by decide, rfl, fk_X0_92, rfl⟩
theorem fk_X11_209 : Cond.fieldLink RX11 209 RX0 (TX0 8).2.1 (TX0 8).2.2.1 ∈ gT := ch2 (List.mem_of_getElem? (i := 63) rfl) rfl
theorem fl_X11_209 : FLk RX11 209 0 8 := ⟨RX0, TX0, 10, cls0, by decide, rfl, fk_X11_209⟩
theorem fw_X11_209 : FLw RX11 209 0 8 := ⟨RX0, TX0, 10, cls0, by decide, rfl, fk_X11_209, rfl⟩
theorem fk_X0_49 : Cond.fieldLink RX0 49 RX0 (TX0 9).2.1 (TX0 9).2.2.1 ∈ gT := ch2 (List.mem_of_getElem? (i := 64) rfl) rfl
theorem fl_X0_49 : FLk RX0 49 0 9 := ⟨RX0, TX0, 10, cls0, by decide, rfl, fk_X0_49⟩
theorem fw_X0_49 : FLw RX0 49 0 9 := ⟨RX0, TX0, 10, cls0, by decide, rfl, fk_X0_49, rfl⟩
theorem fk_X11_212 : Cond.fieldLink RX11 212 RX0 (TX0 9).2.1 (TX0 9).2.2.1 ∈ gT := ch2 (List.mem_of_getElem? (i := 65) rfl) rfl
theorem fl_X11_212 : FLk RX11 212 0 9 := ⟨RX0, TX0, 10, cls0, by decide, rfl, fk_X11_212⟩
theorem fw_X11_212 : FLw RX11 212 0 9 := ⟨RX0, TX0, 10, cls0, by decide, rfl, fk_X11_212, rfl⟩
theorem fk_X8_20 : Cond.fieldLink RX8 20 RX8 (TX8 0).2.1 (TX8 0).2.2.1 ∈ gT := ch2 (List.mem_of_getElem? (i := 96) rfl) rfl
theorem fl_X8_20 : FLk RX8 20 8 0 := ⟨RX8, TX8, 12, cls8, by decide, rfl, fk_X8_20⟩
theorem ff_X8_20 : FLf RX8 20 8 0 := ⟨TX8, 12, cls8, by decide, rfl, fk_X8_20, rfl⟩
theorem fk_X8_47 : Cond.fieldLink RX8 47 RX8 (TX8 1).2.1 (TX8 1).2.2.1 ∈ gT := ch2 (List.mem_of_getElem? (i := 97) rfl) rfl
theorem fl_X8_47 : FLk RX8 47 8 1 := ⟨RX8, TX8, 12, cls8, by decide, rfl, fk_X8_47⟩
theorem fw_X8_47 : FLw RX8 47 8 1 := ⟨RX8, TX8, 12, cls8, by decide, rfl, fk_X8_47, rfl⟩
theorem fk_X8_138 : Cond.fieldLink RX8 138 RX8 (TX8 2).2.1 (TX8 2).2.2.1 ∈ gT := ch2 (List.mem_of_getElem? (i := 98) rfl) rfl
theorem fl_X8_138 : FLk RX8 138 8 2 := ⟨RX8, TX8, 12, cls8, by decide, rfl, fk_X8_138⟩
theorem fw_X8_138 : FLw RX8 138 8 2 := ⟨RX8, TX8, 12, cls8, by decide, rfl, fk_X8_138, rfl⟩
theorem fk_X8_28 : Cond.fieldLink RX8 28 RX8 (TX8 3).2.1 (TX8 3).2.2.1 ∈ gT := ch2 (List.mem_of_getElem? (i := 99) rfl) rfl
theorem fl_X8_28 : FLk RX8 28 8 3 := ⟨RX8, TX8, 12, cls8, by decide, rfl, fk_X8_28⟩
theorem fw_X8_28 : FLw RX8 28 8 3 := ⟨RX8, TX8, 12, cls8, by decide, rfl, fk_X8_28, rfl⟩
theorem fk_X8_141 : Cond.fieldLink RX8 141 RX8 (TX8 4).2.1 (TX8 4).2.2.1 ∈ gT := ch2 (List.mem_of_getElem? (i := 100) rfl) rfl
theorem fl_X8_141 : FLk RX8 141 8 4 := ⟨RX8, TX8, 12, cls8, by decide, rfl, fk_X8_141⟩
theorem fw_X8_141 : FLw RX8 141 8 4 := ⟨RX8, TX8, 12, cls8, by decide, rfl, fk_X8_141, rfl⟩
theorem fk_X8_24 : Cond.fieldLink RX8 24 RX8 (TX8 5).2.1 (TX8 5).2.2.1 ∈ gT := ch2 (List.mem_of_getElem? (i := 101) rfl) rfl
theorem fl_X8_24 : FLk RX8 24 8 5 := ⟨RX8, TX8, 12, cls8, by decide, rfl, fk_X8_24⟩
theorem fw_X8_24 : FLw RX8 24 8 5 := ⟨RX8, TX8, 12, cls8, by decide, rfl, fk_X8_24, rfl⟩
theorem fk_X8_32 : Cond.fieldLink RX8 32 RX8 (TX8 6).2.1 (TX8 6).2.2.1 ∈ gT := ch2 (List.mem_of_getElem? (i := 102) rfl) rfl
theorem fl_X8_32 : FLk RX8 32 8 6 := ⟨RX8, TX8, 12, cls8, by decide, rfl, fk_X8_32⟩
theorem fw_X8_32 : FLw RX8 32 8 6 := ⟨RX8, TX8, 12, cls8, by decide, rfl, fk_X8_32, rfl⟩
theorem fk_X8_35 : Cond.fieldLink RX8 35 RX8 (TX8 7).2.1 (TX8 7).2.2.1 ∈ gT := ch2 (List.mem_of_getElem? (i := 103) rfl) rfl
theorem fl_X8_35 : FLk RX8 35 8 7 := ⟨RX8, TX8, 12, cls8, by decide, rfl, fk_X8_35⟩
theorem fw_X8_35 : FLw RX8 35 8 7 := ⟨RX8, TX8, 12, cls8, by decide, rfl, fk_X8_35, rfl⟩
theorem fk_X8_89 : Cond.fieldLink RX8 89 RX8 (TX8 8).2.1 (TX8 8).2.2.1 ∈ gT := ch2 (List.mem_of_getElem? (i := 104) rfl) rfl
theorem fl_X8_89 : FLk RX8 89 8 8 := ⟨RX8, TX8, 12, cls8, by decide, rfl, fk_X8_89⟩
theorem fw_X8_89 : FLw RX8 89 8 8 := ⟨RX8, TX8, 12, cls8, by decide, rfl, fk_X8_89, rfl⟩
theorem fk_X8_38 : Cond.fieldLink RX8 38 RX8 (TX8 9).2.1 (TX8 9).2.2.1 ∈ gT := ch2 (List.mem_of_getElem? (i := 105) rfl) rfl
theorem fl_X8_38 : FLk RX8 38 8 9 := ⟨RX8, TX8, 12, cls8, by decide, rfl, fk_X8_38⟩
theorem fw_X8_38 : FLw RX8 38 8 9 := ⟨RX8, TX8, 12, cls8, by decide, rfl, fk_X8_38, rfl⟩
theorem fk_X11_219 : Cond.fieldLink RX11 219 RX8 (TX8 9).2.1 (TX8 9).2.2.1 ∈ gT := ch2 (List.mem_of_getElem? (i := 106) rfl) rfl
theorem fl_X11_219 : FLk RX11 219 8 9 := ⟨RX8, TX8, 12, cls8, by decide, rfl, fk_X11_219⟩
theorem fw_X11_219 : FLw RX11 219 8 9 := ⟨RX8, TX8, 12, cls8, by decide, rfl, fk_X11_219, rfl⟩
theorem fk_X8_41 : Cond.fieldLink RX8 41 RX8 (TX8 10).2.1 (TX8 10).2.2.1 ∈ gT := ch2 (List.mem_of_getElem? (i := 107) rfl) rfl
theorem fl_X8_41 : FLk RX8 41 8 10 := ⟨RX8, TX8, 12, cls8, by decide, rfl, fk_X8_41⟩
theorem fw_X8_41 : FLw RX8 41 8 10 := ⟨RX8, TX8, 12, cls8, by decide, rfl, fk_X8_41, rfl⟩
theorem fk_X11_220 : Cond.fieldLink RX11 220 RX8 (TX8 10).2.1 (TX8 10).2.2.1 ∈ gT := ch2 (List.mem_of_getElem? (i := 108) rfl) rfl
theorem fl_X11_220 : FLk RX11 220 8 10 := ⟨RX8, TX8, 12, cls8, by decide, rfl, fk_X11_220⟩
theorem fw_X11_220 : FLw RX11 220 8 10 := ⟨RX8, TX8, 12, cls8, by decide, rfl, fk_X11_220, rfl⟩
theorem fk_X8_14 : Cond.fieldLink RX8 14 RX8 (TX8 11).2.1 (TX8 11).2.2.1 ∈ gT := ch2 (List.mem_of_getElem? (i := 109) rfl) rfl
theorem fl_X8_14 : FLk RX8 14 8 11 := ⟨RX8, TX8, 12, cls8, by decide, rfl, fk_X8_14⟩
theorem ff_X8_14 : FLf RX8 14 8 11 := ⟨TX8, 12, cls8, by decide, rfl, fk_X8_14, rfl⟩
theorem fk_X3_30 : Cond.fieldLink RX3 30 RX3 (TX3 0).2.1 (TX3 0).2.2.1 ∈ gT := ch2 (List.mem_of_getElem? (i := 142) rfl) rfl
theorem fl_X3_30 : FLk RX3 30 3 0 := ⟨RX3, TX3, 8, cls3, by decide, rfl, fk_X3_30⟩
theorem ff_X3_30 : FLf RX3 30 3 0 := ⟨TX3, 8, cls3, by decide, rfl, fk_X3_30, rfl⟩
theorem fk_X3_11 : Cond.fieldLink RX3 11 RX3 (TX3 1).2.1 (TX3 1).2.2.1 ∈ gT := ch2 (List.mem_of_getElem? (i := 143) rfl) rfl
theorem fl_X3_11 : FLk RX3 11 3 1 := ⟨RX3, TX3, 8, cls3, by decide, rfl, fk_X3_11⟩
theorem ff_X3_11 : FLf RX3 11 3 1 := ⟨TX3, 8, cls3, by decide, rfl, fk_X3_11, rfl⟩
theorem fk_X3_15 : Cond.fieldLink RX3 15 RX3 (TX3 2).2.1 (TX3 2).2.2.1 ∈ gT := ch2 (List.mem_of_getElem? (i := 144) rfl) rfl
theorem fl_X3_15 : FLk RX3 15 3 2 := ⟨RX3, TX3, 8, cls3, by decide, rfl, fk_X3_15⟩
theorem ff_X3_15 : FLf RX3 15 3 2 := ⟨TX3, 8, cls3, by decide, rfl, fk_X3_15, rfl⟩
theorem fk_X3_18 : Cond.fieldLink RX3 18 RX3 (TX3 3).2.1 (TX3 3).2.2.1 ∈ gT := ch2 (List.mem_of_getElem? (i := 145) rfl) rfl
theorem fl_X3_18 : FLk RX3 18 3 3 := ⟨RX3, TX3, 8, cls3, by decide, rfl, fk_X3_18⟩
theorem ff_X3_18 : FLf RX3 18 3 3 := ⟨TX3, 8, cls3, by decide, rfl, fk_X3_18, rfl⟩
theorem fk_X3_21 : Cond.fieldLink RX3 21 RX3 (TX3 4).2.1 (TX3 4).2.2.1 ∈ gT := ch2 (List.mem_of_getElem? (i := 146) rfl) rfl
theorem fl_X3_21 : FLk RX3 21 3 4 := ⟨RX3, TX3, 8, cls3, by decide, rfl, fk_X3_21⟩
theorem ff_X3_21 : FLf RX3 21 3 4 := ⟨TX3, 8, cls3, by decide, rfl, fk_X3_21, rfl⟩
theorem fk_X3_24 : Cond.fieldLink RX3 24 RX3 (TX3 5).2.1 (TX3 5).2.2.1 ∈ gT := ch2 (List.mem_of_getElem? (i := 147) rfl) rfl
theorem fl_X3_24 : FLk RX3 24 3 5 := ⟨RX3, TX3, 8, cls3, by decide, rfl, fk_X3_24⟩
theorem ff_X3_24 : FLf RX3 24 3 5 := ⟨TX3, 8, cls3, by decide, rfl, fk_X3_24, rfl⟩
theorem fk_X3_27 : Cond.fieldLink RX3 27 RX3 (TX3 6).2.1 (TX3 6).2.2.1 ∈ gT := ch2 (List.mem_of_getElem? (i := 148) rfl) rfl
theorem fl_X3_27 : FLk RX3 27 3 6 := ⟨RX3, TX3, 8, cls3, by decide, rfl, fk_X3_27⟩
theorem ff_X3_27 : FLf RX3 27 3 6 := ⟨TX3, 8, cls3, by decide, rfl, fk_X3_27, rfl⟩
theorem fk_X3_52 : Cond.fieldLink RX3 52 RX3 (TX3 7).2.1 (TX3 7).2.2.1 ∈ gT := ch2 (List.mem_of_getElem? (i := 149) rfl) rfl
theorem fl_X3_52 : FLk RX3 52 3 7 := ⟨RX3, TX3, 8, cls3, by decide, rfl, fk_X3_52⟩
theorem fw_X3_52 : FLw RX3 52 3 7 := ⟨RX3, TX3, 8, cls3, by decide, rfl, fk_X3_52, rfl⟩
theorem fk_X2_15 : Cond.fieldLink RX2 15 RX2 (TX2 0).2.1 (TX2 0).2.2.1 ∈ gT := ch2 (List.mem_of_getElem? (i := 173) rfl) rfl
theorem fl_X2_15 : FLk RX2 15 2 0 := ⟨RX2, TX2, 10, cls2, by decide, rfl, fk_X2_15⟩
theorem ff_X2_15 : FLf RX2 15 2 0 := ⟨TX2, 10, cls2, by decide, rfl, fk_X2_15, rfl⟩
theorem fk_X2_19 : Cond.fieldLink RX2 19 RX2 (TX2 1).2.1 (TX2 1).2.2.1 ∈ gT := ch2 (List.mem_of_getElem? (i := 174) rfl) rfl
theorem fl_X2_19 : FLk RX2 19 2 1 := ⟨RX2, TX2, 10, cls2, by decide, rfl, fk_X2_19⟩
theorem ff_X2_19 : FLf RX2 19 2 1 := ⟨TX2, 10, cls2, by decide, rfl, fk_X2_19, rfl⟩
theorem fk_X2_23 : Cond.fieldLink RX2 23 RX2 (TX2 2).2.1 (TX2 2).2.2.1 ∈ gT := ch2 (List.mem_of_getElem? (i := 175) rfl) rfl
theorem fl_X2_23 : FLk RX2 23 2 2 := ⟨RX2, TX2, 10, cls2, by decide, rfl, fk_X2_23⟩
theorem fw_X2_23 : FLw RX2 23 2 2 := ⟨RX2, TX2, 10, cls2, by decide, rfl, fk_X2_23, rfl⟩
theorem fk_X2_27 : Cond.fieldLink RX2 27 RX2 (TX2 3).2.1 (TX2 3).2.2.1 ∈ gT := ch2 (List.mem_of_getElem? (i := 176) rfl) rfl
theorem fl_X2_27 : FLk RX2 27 2 3 := ⟨RX2, TX2, 10, cls2, by decide, rfl, fk_X2_27⟩
theorem fw_X2_27 : FLw RX2 27 2 3 := ⟨RX2, TX2, 10, cls2, by decide, rfl, fk_X2_27, rfl⟩
theorem fk_X2_9 : Cond.fieldLink RX2 9 RX2 (TX2 4).2.1 (TX2 4).2.2.1 ∈ gT := ch2 (List.mem_of_getElem? (i := 177) rfl) rfl
theorem fl_X2_9 : FLk RX2 9 2 4 := ⟨RX2, TX2, 10, cls2, by decide, rfl, fk_X2_9⟩
theorem ff_X2_9 : FLf RX2 9 2 4 := ⟨TX2, 10, cls2, by decide, rfl, fk_X2_9, rfl⟩
theorem fk_X6_74 : Cond.fieldLink RX6 74 RX2 (TX2 4).2.1 (TX2 4).2.2.1 ∈ gT := ch2 (List.mem_of_getElem? (i := 178) rfl) rfl
theorem fl_X6_74 : FLk RX6 74 2 4 := ⟨RX2, TX2, 10, cls2, by decide, rfl, fk_X6_74⟩
theorem fk_X11_295 : Cond.fieldLink RX11 295 RX2 (TX2 4).2.1 (TX2 4).2.2.1 ∈ gT := ch2 (List.mem_of_getElem? (i := 179) rfl) rfl
theorem fl_X11_295 : FLk RX11 295 2 4 := ⟨RX2, TX2, 10, cls2, by decide, rfl, fk_X11_295⟩
theorem fk_X2_103 : Cond.fieldLink RX2 103 RX2 (TX2 5).2.1 (TX2 5).2.2.1 ∈ gT := ch2 (List.mem_of_getElem? (i := 180) rfl) rfl
theorem fl_X2_103 : FLk RX2 103 2 5 := ⟨RX2, TX2, 10, cls2, by decide, rfl, fk_X2_103⟩
theorem fw_X2_103 : FLw RX2 103 2 5 := ⟨RX2, TX2, 10, cls2, by decide, rfl, fk_X2_103, rfl⟩
theorem fk_X11_240 : Cond.fieldLink RX11 240 RX2 (TX2 5).2.1 (TX2 5).2.2.1 ∈ gT := ch2 (List.mem_of_getElem? (i := 181) rfl) rfl
theorem fl_X11_240 : FLk RX11 240 2 5 := ⟨RX2, TX2, 10, cls2, by decide, rfl, fk_X11_240⟩
theorem fw_X11_240 : FLw RX11 240 2 5 := ⟨RX2, TX2, 10, cls2, by decide, rfl, fk_X11_240, rfl⟩
theorem fk_X2_106 : Cond.fieldLink RX2 106 RX2 (TX2 6).2.1 (TX2 6).2.2.1 ∈ gT := ch2 (List.mem_of_getElem? (i := 182) rfl) rfl
theorem fl_X2_106 : FLk RX2 106 2 6 := ⟨RX2, TX2, 10, cls2, by decide, rfl, fk_X2_106⟩
theorem fw_X2_106 : FLw RX2 106 2 6 := ⟨RX2, TX2, 10, cls2, by decide, rfl, fk_X2_106, rfl⟩
theorem fk_X11_243 : Cond.fieldLink RX11 243 RX2 (TX2 6).2.1 (TX2 6).2.2.1 ∈ gT := ch2 (List.mem_of_getElem? (i := 183) rfl) rfl
theorem fl_X11_243 : FLk RX11 243 2 6 := ⟨RX2, TX2, 10, cls2, by decide, rfl, fk_X11_243⟩
theorem fw_X11_243 : FLw RX11 243 2 6 := ⟨RX2, TX2, 10, cls2, by decide, rfl, fk_X11_243, rfl⟩
theorem fk_X2_109 : Cond.fieldLink RX2 109 RX2 (TX2 7).2.1 (TX2 7).2.2.1 ∈ gT := ch2 (List.mem_of_getElem? (i := 184) rfl) rfl
theorem fl_X2_109 : FLk RX2 109 2 7 := ⟨RX2, TX2, 10, cls2, by decide, rfl, fk_X2_109⟩
theorem fw_X2_109 : FLw RX2 109 2 7 := ⟨RX2, TX2, 10, cls2, by decide, rfl, fk_X2_109, rfl⟩
theorem fk_X11_246 : Cond.fieldLink RX11 246 RX2 (TX2 7).2.1 (TX2 7).2.2.1 ∈ gT := ch2 (List.mem_of_getElem? (i := 185) rfl) rfl
theorem fl_X11_246 : FLk RX11 246 2 7 := ⟨RX2, TX2, 10, cls2, by decide, rfl, fk_X11_246⟩
theorem fw_X11_246 : FLw RX11 246 2 7 := ⟨RX2, TX2, 10, cls2, by decide, rfl, fk_X11_246, rfl⟩
theorem fk_X6_71 : Cond.fieldLink RX6 71 RX2 (TX2 8).2.1 (TX2 8).2.2.1 ∈ gT := ch2 (List.mem_of_getElem? (i := 186) rfl) rfl
theorem fl_X6_71 : FLk RX6 71 2 8 := ⟨RX2, TX2, 10, cls2, by decide, rfl, fk_X6_71⟩
theorem fw_X6_71 : FLw RX6 71 2 8 := ⟨RX2, TX2, 10, cls2, by decide, rfl, fk_X6_71, rfl⟩
theorem fk_X2_140 : Cond.fieldLink RX2 140 RX2 (TX2 8).2.1 (TX2 8).2.2.1 ∈ gT := ch2 (List.mem_of_getElem? (i := 187) rfl) rfl
theorem fl_X2_140 : FLk RX2 140 2 8 := ⟨RX2, TX2, 10, cls2, by decide, rfl, fk_X2_140⟩
theorem fw_X2_140 : FLw RX2 140 2 8 := ⟨RX2, TX2, 10, cls2, by decide, rfl, fk_X2_140, rfl⟩
theorem fk_X11_263 : Cond.fieldLink RX11 263 RX2 (TX2 8).2.1 (TX2 8).2.2.1 ∈ gT := ch2 (List.mem_of_getElem? (i := 188) rfl) rfl
theorem fl_X11_263 : FLk RX11 263 2 8 := ⟨RX2, TX2, 10, cls2, by decide, rfl, fk_X11_263⟩
theorem fw_X11_263 : FLw RX11 263 2 8 := ⟨RX2, TX2, 10, cls2, by decide, rfl, fk_X11_263, rfl⟩
theorem fk_X2_143 : Cond.fieldLink RX2 143 RX2 (TX2 9).2.1 (TX2 9).2.2.1 ∈ gT := ch2 (List.mem_of_getElem? (i := 189) rfl) rfl
theorem fl_X2_143 : FLk RX2 143 2 9 := ⟨RX2, TX2, 10, cls2, by decide, rfl, fk_X2_143⟩
theorem fw_X2_143 : FLw RX2 143 2 9 := ⟨RX2, TX2, 10, cls2, by decide, rfl, fk_X2_143, rfl⟩
theorem fk_X11_268 : Cond.fieldLink RX11 268 RX2 (TX2 9).2.1 (TX2 9).2.2.1 ∈ gT := ch2 (List.mem_of_getElem? (i := 190) rfl) rfl
theorem fl_X11_268 : FLk RX11 268 2 9 := ⟨RX2, TX2, 10, cls2, by decide, rfl, fk_X11_268⟩
theorem fw_X11_268 : FLw RX11 268 2 9 := ⟨RX2, TX2, 10, cls2, by decide, rfl, fk_X11_268, rfl⟩
theorem fk_X6_46 : Cond.fieldLink RX6 46 RX6 (TX6 0).2.1 (TX6 0).2.2.1 ∈ gT := ch2 (List.mem_of_getElem? (i := 218) rfl) rfl
theorem fl_X6_46 : FLk RX6 46 6 0 := ⟨RX6, TX6, 15, cls6, by decide, rfl, fk_X6_46⟩
theorem ff_X6_46 : FLf RX6 46 6 0 := ⟨TX6, 15, cls6, by decide, rfl, fk_X6_46, rfl⟩
theorem fk_X6_50 : Cond.fieldLink RX6 50 RX6 (TX6 1).2.1 (TX6 1).2.2.1 ∈ gT := ch2 (List.mem_of_getElem? (i := 219) rfl) rfl
theorem fl_X6_50 : FLk RX6 50 6 1 := ⟨RX6, TX6, 15, cls6, by decide, rfl, fk_X6_50⟩
theorem ff_X6_50 : FLf RX6 50 6 1 := ⟨TX6, 15, cls6, by decide, rfl, fk_X6_50, rfl⟩
theorem fk_X6_9 : Cond.fieldLink RX6 9 RX6 (TX6 2).2.1 (TX6 2).2.2.1 ∈ gT := ch2 (List.mem_of_getElem? (i := 220) rfl) rfl
theorem fl_X6_9 : FLk RX6 9 6 2 := ⟨RX6, TX6, 15, cls6, by decide, rfl, fk_X6_9⟩
theorem ff_X6_9 : FLf RX6 9 6 2 := ⟨TX6, 15, cls6, by decide, rfl, fk_X6_9, rfl⟩
theorem fk_X9_54 : Cond.fieldLink RX9 54 RX6 (TX6 2).2.1 (TX6 2).2.2.1 ∈ gT := ch2 (List.mem_of_getElem? (i := 221) rfl) rfl
theorem fl_X9_54 : FLk RX9 54 6 2 := ⟨RX6, TX6, 15, cls6, by decide, rfl, fk_X9_54⟩
theorem fk_X6_15 : Cond.fieldLink RX6 15 RX6 (TX6 3).2.1 (TX6 3).2.2.1 ∈ gT := ch2 (List.mem_of_getElem? (i := 222) rfl) rfl
theorem fl_X6_15 : FLk RX6 15 6 3 := ⟨RX6, TX6, 15, cls6, by decide, rfl, fk_X6_15⟩
theorem ff_X6_15 : FLf RX6 15 6 3 := ⟨TX6, 15, cls6, by decide, rfl, fk_X6_15, rfl⟩
theorem fk_X9_57 : Cond.fieldLink RX9 57 RX6 (TX6 3).2.1 (TX6 3).2.2.1 ∈ gT := ch2 (List.mem_of_getElem? (i := 223) rfl) rfl
theorem fl_X9_57 : FLk RX9 57 6 3 := ⟨RX6, TX6, 15, cls6, by decide, rfl, fk_X9_57⟩
theorem fk_X6_58 : Cond.fieldLink RX6 58 RX6 (TX6 4).2.1 (TX6 4).2.2.1 ∈ gT := ch2 (List.mem_of_getElem? (i := 224) rfl) rfl
theorem fl_X6_58 : FLk RX6 58 6 4 := ⟨RX6, TX6, 15, cls6, by decide, rfl, fk_X6_58⟩
theorem fw_X6_58 : FLw RX6 58 6 4 := ⟨RX6, TX6, 15, cls6, by decide, rfl, fk_X6_58, rfl⟩
theorem fk_X9_41 : Cond.fieldLink RX9 41 RX6 (TX6 4).2.1 (TX6 4).2.2.1 ∈ gT := ch2 (List.mem_of_getElem? (i := 225) rfl) rfl
theorem fl_X9_41 : FLk RX9 41 6 4 := ⟨RX6, TX6, 15, cls6, by decide, rfl, fk_X9_41⟩
theorem fw_X9_41 : FLw RX9 41 6 4 := ⟨RX6, TX6, 15, cls6, by decide, rfl, fk_X9_41, rfl⟩
theorem fk_X6_62 : Cond.fieldLink RX6 62 RX6 (TX6 5).2.1 (TX6 5).2.2.1 ∈ gT := ch2 (List.mem_of_getElem? (i := 226) rfl) rfl
theorem fl_X6_62 : FLk RX6 62 6 5 := ⟨RX6, TX6, 15, cls6, by decide, rfl, fk_X6_62⟩
theorem fw_X6_62 : FLw RX6 62 6 5 := ⟨RX6, TX6, 15, cls6, by decide, rfl, fk_X6_62, rfl⟩
theorem fk_X9_47 : Cond.fieldLink RX9 47 RX6 (TX6 5).2.1 (TX6 5).2.2.1 ∈ gT := ch2 (List.mem_of_getElem? (i := 227) rfl) rfl
theorem fl_X9_47 : FLk RX9 47 6 5 := ⟨RX6, TX6, 15, cls6, by decide, rfl, fk_X9_47⟩
theorem fw_X9_47 : FLw RX9 47 6 5 := ⟨RX6, TX6, 15, cls6, by decide, rfl, fk_X9_47, rfl⟩
theorem fk_X6_18 : Cond.fieldLink RX6 18 RX6 (TX6 6).2.1 (TX6 6).2.2.1 ∈ gT := ch2 (List.mem_of_getElem? (i := 228) rfl) rfl
theorem fl_X6_18 : FLk RX6 18 6 6 := ⟨RX6, TX6, 15, cls6, by decide, rfl, fk_X6_18⟩
theorem ff_X6_18 : FLf RX6 18 6 6 := ⟨TX6, 15, cls6, by decide, rfl, fk_X6_18, rfl⟩
theorem fk_X9_50 : Cond.fieldLink RX9 50 RX6 (TX6 6).2.1 (TX6 6).2.2.1 ∈ gT := ch2 (List.mem_of_getElem? (i := 229) rfl) rfl
theorem fl_X9_50 : FLk RX9 50 6 6 := ⟨RX6, TX6, 15, cls6, by decide, rfl, fk_X9_50⟩
theorem fk_X6_22 : Cond.fieldLink RX6 22 RX6 (TX6 7).2.1 (TX6 7).2.2.1 ∈ gT := ch2 (List.mem_of_getElem? (i := 230) rfl) rfl
theorem fl_X6_22 : FLk RX6 22 6 7 := ⟨RX6, TX6, 15, cls6, by decide, rfl, fk_X6_22⟩
theorem ff_X6_22 : FLf RX6 22 6 7 := ⟨TX6, 15, cls6, by decide, rfl, fk_X6_22, rfl⟩
theorem fk_X9_60 : Cond.fieldLink RX9 60 RX6 (TX6 7).2.1 (TX6 7).2.2.1 ∈ gT := ch2 (List.mem_of_getElem? (i := 231) rfl) rfl
theorem fl_X9_60 : FLk RX9 60 6 7 := ⟨RX6, TX6, 15, cls6, by decide, rfl, fk_X9_60⟩
theorem fk_X6_25 : Cond.fieldLink RX6 25 RX6 (TX6 8).2.1 (TX6 8).2.2.1 ∈ gT := ch2 (List.mem_of_getElem? (i := 232) rfl) rfl
theorem fl_X6_25 : FLk RX6 25 6 8 := ⟨RX6, TX6, 15, cls6, by decide, rfl, fk_X6_25⟩
theorem ff_X6_25 : FLf RX6 25 6 8 := ⟨TX6, 15, cls6, by decide, rfl, fk_X6_25, rfl⟩
theorem fk_X6_28 : Cond.fieldLink RX6 28 RX6 (TX6 9).2.1 (TX6 9).2.2.1 ∈ gT := ch2 (List.mem_of_getElem? (i := 233) rfl) rfl
theorem fl_X6_28 : FLk RX6 28 6 9 := ⟨RX6, TX6, 15, cls6, by decide, rfl, fk_X6_28⟩
theorem ff_X6_28 : FLf RX6 28 6 9 := ⟨TX6, 15, cls6, by decide, rfl, fk_X6_28, rfl⟩
theorem fk_X6_31 : Cond.fieldLink RX6 31 RX6 (TX6 10).2.1 (TX6 10).2.2.1 ∈ gT := ch2 (List.mem_of_getElem? (i := 234) rfl) rfl
theorem fl_X6_31 : FLk RX6 31 6 10 := ⟨RX6, TX6, 15, cls6, by decide, rfl, fk_X6_31⟩
theorem ff_X6_31 : FLf RX6 31 6 10 := ⟨TX6, 15, cls6, by decide, rfl, fk_X6_31, rfl⟩
theorem fk_X6_34 : Cond.fieldLink RX6 34 RX6 (TX6 11).2.1 (TX6 11).2.2.1 ∈ gT := ch2 (List.mem_of_getElem? (i := 235) rfl) rfl
theorem fl_X6_34 : FLk RX6 34 6 11 := ⟨RX6, TX6, 15, cls6, by decide, rfl, fk_X6_34⟩
theorem ff_X6_34 : FLf RX6 34 6 11 := ⟨TX6, 15, cls6, by decide, rfl, fk_X6_34, rfl⟩
theorem fk_X6_37 : Cond.fieldLink RX6 37 RX6 (TX6 12).2.1 (TX6 12).2.2.1 ∈ gT := ch2 (List.mem_of_getElem? (i := 236) rfl) rfl
theorem fl_X6_37 : FLk RX6 37 6 12 := ⟨RX6, TX6, 15, cls6, by decide, rfl, fk_X6_37⟩
theorem ff_X6_37 : FLf RX6 37 6 12 := ⟨TX6, 15, cls6, by decide, rfl, fk_X6_37, rfl⟩
theorem fk_X6_40 : Cond.fieldLink RX6 40 RX6 (TX6 13).2.1 (TX6 13).2.2.1 ∈ gT := ch2 (List.mem_of_getElem? (i := 237) rfl) rfl
theorem fl_X6_40 : FLk RX6 40 6 13 := ⟨RX6, TX6, 15, cls6, by decide, rfl, fk_X6_40⟩
theorem ff_X6_40 : FLf RX6 40 6 13 := ⟨TX6, 15, cls6, by decide, rfl, fk_X6_40, rfl⟩
theorem fk_X6_43 : Cond.fieldLink RX6 43 RX6 (TX6 14).2.1 (TX6 14).2.2.1 ∈ gT := ch2 (List.mem_of_getElem? (i := 238) rfl) rfl
theorem fl_X6_43 : FLk RX6 43 6 14 := ⟨RX6, TX6, 15, cls6, by decide, rfl, fk_X6_43⟩
theorem ff_X6_43 : FLf RX6 43 6 14 := ⟨TX6, 15, cls6, by decide, rfl, fk_X6_43, rfl⟩
theorem fk_X9_27 : Cond.fieldLink RX9 27 RX9 (TX9 0).2.1 (TX9 0).2.2.1 ∈ gT := ch3 (List.mem_of_getElem? (i := 36) rfl) rfl
theorem fl_X9_27 : FLk RX9 27 9 0 := ⟨RX9, TX9, 9, cls9, by decide, rfl, fk_X9_27⟩
theorem ff_X9_27 : FLf RX9 27 9 0 := ⟨TX9, 9, cls9, by decide, rfl, fk_X9_27, rfl⟩
theorem fk_X9_31 : Cond.fieldLink RX9 31 RX9 (TX9 1).2.1 (TX9 1).2.2.1 ∈ gT := ch3 (List.mem_of_getElem? (i := 37) rfl) rfl
theorem fl_X9_31 : FLk RX9 31 9 1 := ⟨RX9, TX9, 9, cls9, by decide, rfl, fk_X9_31⟩
theorem ff_X9_31 : FLf RX9 31 9 1 := ⟨TX9, 9, cls9, by decide, rfl, fk_X9_31, rfl⟩
theorem fk_X9_9 : Cond.fieldLink RX9 9 RX9 (TX9 2).2.1 (TX9 2).2.2.1 ∈ gT := ch3 (List.mem_of_getElem? (i := 38) rfl) rfl
theorem fl_X9_9 : FLk RX9 9 9 2 := ⟨RX9, TX9, 9, cls9, by decide, rfl, fk_X9_9⟩
theorem ff_X9_9 : FLf RX9 9 9 2 := ⟨TX9, 9, cls9, by decide, rfl, fk_X9_9, rfl⟩
theorem fk_X9_15 : Cond.fieldLink RX9 15 RX9 (TX9 3).2.1 (TX9 3).2.2.1 ∈ gT := ch3 (List.mem_of_getElem? (i := 39) rfl) rfl
theorem fl_X9_15 : FLk RX9 15 9 3 := ⟨RX9, TX9, 9, cls9, by decide, rfl, fk_X9_15⟩
theorem ff_X9_15 : FLf RX9 15 9 3 := ⟨TX9, 9, cls9, by decide, rfl, fk_X9_15, rfl⟩
theorem fk_X9_18 : Cond.fieldLink RX9 18 RX9 (TX9 4).2.1 (TX9 4).2.2.1 ∈ gT := ch3 (List.mem_of_getElem? (i := 40) rfl) rfl
theorem fl_X9_18 : FLk RX9 18 9 4 := ⟨RX9, TX9, 9, cls9, by decide, rfl, fk_X9_18⟩
theorem ff_X9_18 : FLf RX9 18 9 4 := ⟨TX9, 9, cls9, by decide, rfl, fk_X9_18, rfl⟩
theorem fk_X9_21 : Cond.fieldLink RX9 21 RX9 (TX9 5).2.1 (TX9 5).2.2.1 ∈ gT := ch3 (List.mem_of_getElem? (i := 41) rfl) rfl
theorem fl_X9_21 : FLk RX9 21 9 5 := ⟨RX9, TX9, 9, cls9, by decide, rfl, fk_X9_21⟩
theorem ff_X9_21 : FLf RX9 21 9 5 := ⟨TX9, 9, cls9, by decide, rfl, fk_X9_21, rfl⟩
theorem fk_X9_24 : Cond.fieldLink RX9 24 RX9 (TX9 6).2.1 (TX9 6).2.2.1 ∈ gT := ch3 (List.mem_of_getElem? (i := 42) rfl) rfl
theorem fl_X9_24 : FLk RX9 24 9 6 := ⟨RX9, TX9, 9, cls9, by decide, rfl, fk_X9_24⟩
theorem ff_X9_24 : FLf RX9 24 9 6 := ⟨TX9, 9, cls9, by decide, rfl, fk_X9_24, rfl⟩
theorem fk_X11_363 : Cond.fieldLink RX11 363 RX9 (TX9 6).2.1 (TX9 6).2.2.1 ∈ gT := ch3 (List.mem_of_getElem? (i := 43) rfl) rfl
theorem fl_X11_363 : FLk RX11 363 9 6 := ⟨RX9, TX9, 9, cls9, by decide, rfl, fk_X11_363⟩
theorem fk_X9_67 : Cond.fieldLink RX9 67 RX9 (TX9 7).2.1 (TX9 7).2.2.1 ∈ gT := ch3 (List.mem_of_getElem? (i := 44) rfl) rfl
theorem fl_X9_67 : FLk RX9 67 9 7 := ⟨RX9, TX9, 9, cls9, by decide, rfl, fk_X9_67⟩
theorem fw_X9_67 : FLw RX9 67 9 7 := ⟨RX9, TX9, 9, cls9, by decide, rfl, fk_X9_67, rfl⟩
theorem fk_X11_357 : Cond.fieldLink RX11 357 RX9 (TX9 7).2.1 (TX9 7).2.2.1 ∈ gT := ch3 (List.mem_of_getElem? (i := 45) rfl) rfl
theorem fl_X11_357 : FLk RX11 357 9 7 := ⟨RX9, TX9, 9, cls9, by decide, rfl, fk_X11_357⟩
theorem fw_X11_357 : FLw RX11 357 9 7 := ⟨RX9, TX9, 9, cls9, by decide, rfl, fk_X11_357, rfl⟩
theorem fk_X9_70 : Cond.fieldLink RX9 70 RX9 (TX9 8).2.1 (TX9 8).2.2.1 ∈ gT := ch3 (List.mem_of_getElem? (i := 46) rfl) rfl
theorem fl_X9_70 : FLk RX9 70 9 8 := ⟨RX9, TX9, 9, cls9, by decide, rfl, fk_X9_70⟩
theorem fw_X9_70 : FLw RX9 70 9 8 := ⟨RX9, TX9, 9, cls9, by decide, rfl, fk_X9_70, rfl⟩
theorem fk_X11_360 : Cond.fieldLink RX11 360 RX9 (TX9 8).2.1 (TX9 8).2.2.1 ∈ gT := ch3 (List.mem_of_getElem? (i := 47) rfl) rfl
theorem fl_X11_360 : FLk RX11 360 9 8 := ⟨RX9, TX9, 9, cls9, by decide, rfl, fk_X11_360⟩
theorem fw_X11_360 : FLw RX11 360 9 8 := ⟨RX9, TX9, 9, cls9, by decide, rfl, fk_X11_360, rfl⟩
theorem fk_X11_12 : Cond.fieldLink RX11 12 RX11 (TX11 0).2.1 (TX11 0).2.2.1 ∈ gT := ch3 (List.mem_of_getElem? (i := 67) rfl) rfl
theorem fl_X11_12 : FLk RX11 12 11 0 := ⟨RX11, TX11, 7, cls11, by decide, rfl, fk_X11_12⟩
theorem ff_X11_12 : FLf RX11 12 11 0 := ⟨TX11, 7, cls11, by decide, rfl, fk_X11_12, rfl⟩
theorem fk_X11_16 : Cond.fieldLink RX11 16 RX11 (TX11 1).2.1 (TX11 1).2.2.1 ∈ gT := ch3 (List.mem_of_getElem? (i := 68) rfl) rfl
theorem fl_X11_16 : FLk RX11 16 11 1 := ⟨RX11, TX11, 7, cls11, by decide, rfl, fk_X11_16⟩
theorem ff_X11_16 : FLf RX11 16 11 1 := ⟨TX11, 7, cls11, by decide, rfl, fk_X11_16, rfl⟩
theorem fk_X11_25 : Cond.fieldLink RX11 25 RX11 (TX11 2).2.1 (TX11 2).2.2.1 ∈ gT := ch3 (List.mem_of_getElem? (i := 69) rfl) rfl
theorem fl_X11_25 : FLk RX11 25 11 2 := ⟨RX11, TX11, 7, cls11, by decide, rfl, fk_X11_25⟩
theorem ff_X11_25 : FLf RX11 25 11 2 := ⟨TX11, 7, cls11, by decide, rfl, fk_X11_25, rfl⟩
theorem fk_X11_32 : Cond.fieldLink RX11 32 RX11 (TX11 3).2.1 (TX11 3).2.2.1 ∈ gT := ch3 (List.mem_of_getElem? (i := 70) rfl) rfl
theorem fl_X11_32 : FLk RX11 32 11 3 := ⟨RX11, TX11, 7, cls11, by decide, rfl, fk_X11_32⟩
theorem ff_X11_32 : FLf RX11 32 11 3 := ⟨TX11, 7, cls11, by decide, rfl, fk_X11_32, rfl⟩
theorem fk_X11_41 : Cond.fieldLink RX11 41 RX11 (TX11 4).2.1 (TX11 4).2.2.1 ∈ gT := ch3 (List.mem_of_getElem? (i := 71) rfl) rfl
theorem fl_X11_41 : FLk RX11 41 11 4 := ⟨RX11, TX11, 7, cls11, by decide, rfl, fk_X11_41⟩
theorem ff_X11_41 : FLf RX11 41 11 4 := ⟨TX11, 7, cls11, by decide, rfl, fk_X11_41, rfl⟩
theorem fk_X11_50 : Cond.fieldLink RX11 50 RX11 (TX11 5).2.1 (TX11 5).2.2.1 ∈ gT := ch3 (List.mem_of_getElem? (i := 72) rfl) rfl
theorem fl_X11_50 : FLk RX11 50 11 5 := ⟨RX11, TX11, 7, cls11, by decide, rfl, fk_X11_50⟩
theorem ff_X11_50 : FLf RX11 50 11 5 := ⟨TX11, 7, cls11, by decide, rfl, fk_X11_50, rfl⟩
theorem fk_X11_59 : Cond.fieldLink RX11 59 RX11 (TX11 6).2.1 (TX11 6).2.2.1 ∈ gT := ch3 (List.mem_of_getElem? (i := 73) rfl) rfl
theorem fl_X11_59 : FLk RX11 59 11 6 := ⟨RX11, TX11, 7, cls11, by decide, rfl, fk_X11_59⟩
theorem ff_X11_59 : FLf RX11 59 11 6 := ⟨TX11, 7, cls11, by decide, rfl, fk_X11_59, rfl⟩
theorem fk_J0_38 : Cond.fieldLink RJ0 38 "java/lang/String" "COMPACT_STRINGS" "Z" ∈ gT := ch4 (List.mem_of_getElem? (i := 104) rfl) rfl
theorem fk_J0_1053 : Cond.fieldLink RJ0 1053 "jdk/internal/util/Preconditions" "SIOOBE_FORMATTER" "Ljava/util/function/BiFunction;" ∈ gT := ch4 (List.mem_of_getElem? (i := 120) rfl) rfl
theorem fk_J2_44 : Cond.fieldLink RJ2 44 "java/lang/StringUTF16" "$assertionsDisabled" "Z" ∈ gT := ch4 (List.mem_of_getElem? (i := 138) rfl) rfl
theorem fk_J2_59 : Cond.fieldLink RJ2 59 "java/lang/StringUTF16" "HI_BYTE_SHIFT" "I" ∈ gT := ch4 (List.mem_of_getElem? (i := 140) rfl) rfl
theorem fk_J2_63 : Cond.fieldLink RJ2 63 "java/lang/StringUTF16" "LO_BYTE_SHIFT" "I" ∈ gT := ch4 (List.mem_of_getElem? (i := 142) rfl) rfl
theorem fk_X12_202 : Cond.fieldLink RX12 202 RX12 (TX12 0).2.1 (TX12 0).2.2.1 ∈ gT := ch6 (List.mem_of_getElem? (i := 90) rfl) rfl
theorem fl_X12_202 : FLk RX12 202 12 0 := ⟨RX12, TX12, 83, cls12, by decide, rfl, fk_X12_202⟩
theorem fw_X12_202 : FLw RX12 202 12 0 := ⟨RX12, TX12, 83, cls12, by decide, rfl, fk_X12_202, rfl⟩
theorem fk_X12_7 : Cond.fieldLink RX12 7 RX12 (TX12 1).2.1 (TX12 1).2.2.1 ∈ gT := ch6 (List.mem_of_getElem? (i := 91) rfl) rfl
theorem fl_X12_7 : FLk RX12 7 12 1 := ⟨RX12, TX12, 83, cls12, by decide, rfl, fk_X12_7⟩
theorem ff_X12_7 : FLf RX12 7 12 1 := ⟨TX12, 83, cls12, by decide, rfl, fk_X12_7, rfl⟩
theorem fk_X12_13 : Cond.fieldLink RX12 13 RX12 (TX12 2).2.1 (TX12 2).2.2.1 ∈ gT := ch6 (List.mem_of_getElem? (i := 92) rfl) rfl
theorem fl_X12_13 : FLk RX12 13 12 2 := ⟨RX12, TX12, 83, cls12, by decide, rfl, fk_X12_13⟩
theorem ff_X12_13 : FLf RX12 13 12 2 := ⟨TX12, 83, cls12, by decide, rfl, fk_X12_13, rfl⟩
theorem fk_X12_17 : Cond.fieldLink RX12 17 RX12 (TX12 3).2.1 (TX12 3).2.2.1 ∈ gT := ch6 (List.mem_of_getElem? (i := 93) rfl) rfl
theorem fl_X12_17 : FLk RX12 17 12 3 := ⟨RX12, TX12, 83, cls12, by decide, rfl, fk_X12_17⟩
theorem ff_X12_17 : FLf RX12 17 12 3 := ⟨TX12, 83, cls12, by decide, rfl, fk_X12_17, rfl⟩
theorem fk_X12_20 : Cond.fieldLink RX12 20 RX12 (TX12 4).2.1 (TX12 4).2.2.1 ∈ gT := ch6 (List.mem_of_getElem? (i := 94) rfl) rfl
theorem fl_X12_20 : FLk RX12 20 12 4 := ⟨RX12, TX12, 83, cls12, by decide, rfl, fk_X12_20⟩
theorem ff_X12_20 : FLf RX12 20 12 4 := ⟨TX12, 83, cls12, by decide, rfl, fk_X12_20, rfl⟩
theorem fk_X12_23 : Cond.fieldLink RX12 23 RX12 (TX12 5).2.1 (TX12 5).2.2.1 ∈ gT := ch6 (List.mem_of_getElem? (i := 95) rfl) rfl
theorem fl_X12_23 : FLk RX12 23 12 5 := ⟨RX12, TX12, 83, cls12, by decide, rfl, fk_X12_23⟩
theorem ff_X12_23 : FLf RX12 23 12 5 := ⟨TX12, 83, cls12, by decide, rfl, fk_X12_23, rfl⟩
theorem fk_X12_26 : Cond.fieldLink RX12 26 RX12 (TX12 6).2.1 (TX12 6).2.2.1 ∈ gT := ch6 (List.mem_of_getElem? (i := 96) rfl) rfl
theorem fl_X12_26 : FLk RX12 26 12 6 := ⟨RX12, TX12, 83, cls12, by decide, rfl, fk_X12_26⟩
theorem ff_X12_26 : FLf RX12 26 12 6 := ⟨TX12, 83, cls12, by decide, rfl, fk_X12_26, rfl⟩
theorem fk_X12_29 : Cond.fieldLink RX12 29 RX12 (TX12 7).2.1 (TX12 7).2.2.1 ∈ gT := ch6 (List.mem_of_getElem? (i := 97) rfl) rfl
theorem fl_X12_29 : FLk RX12 29 12 7 := ⟨RX12, TX12, 83, cls12, by decide, rfl, fk_X12_29⟩
theorem ff_X12_29 : FLf RX12 29 12 7 := ⟨TX12, 83, cls12, by decide, rfl, fk_X12_29, rfl⟩
theorem fk_X12_32 : Cond.fieldLink RX12 32 RX12 (TX12 8).2.1 (TX12 8).2.2.1 ∈ gT := ch6 (List.mem_of_getElem? (i := 98) rfl) rfl
theorem fl_X12_32 : FLk RX12 32 12 8 := ⟨RX12, TX12, 83, cls12, by decide, rfl, fk_X12_32⟩
theorem ff_X12_32 : FLf RX12 32 12 8 := ⟨TX12, 83, cls12, by decide, rfl, fk_X12_32, rfl⟩
theorem fk_X12_35 : Cond.fieldLink RX12 35 RX12 (TX12 9).2.1 (TX12 9).2.2.1 ∈ gT := ch6 (List.mem_of_getElem? (i := 99) rfl) rfl
theorem fl_X12_35 : FLk RX12 35 12 9 := ⟨RX12, TX12, 83, cls12, by decide, rfl, fk_X12_35⟩
theorem ff_X12_35 : FLf RX12 35 12 9 := ⟨TX12, 83, cls12, by decide, rfl, fk_X12_35, rfl⟩
theorem fk_X12_38 : Cond.fieldLink RX12 38 RX12 (TX12 10).2.1 (TX12 10).2.2.1 ∈ gT := ch6 (List.mem_of_getElem? (i := 100) rfl) rfl
theorem fl_X12_38 : FLk RX12 38 12 10 := ⟨RX12, TX12, 83, cls12, by decide, rfl, fk_X12_38⟩
theorem ff_X12_38 : FLf RX12 38 12 10 := ⟨TX12, 83, cls12, by decide, rfl, fk_X12_38, rfl⟩
theorem fk_X12_41 : Cond.fieldLink RX12 41 RX12 (TX12 11).2.1 (TX12 11).2.2.1 ∈ gT := ch6 (List.mem_of_getElem? (i := 101) rfl) rfl
theorem fl_X12_41 : FLk RX12 41 12 11 := ⟨RX12, TX12, 83, cls12, by decide, rfl, fk_X12_41⟩
theorem ff_X12_41 : FLf RX12 41 12 11 := ⟨TX12, 83, cls12, by decide, rfl, fk_X12_41, rfl⟩
theorem fk_X12_44 : Cond.fieldLink RX12 44 RX12 (TX12 12).2.1 (TX12 12).2.2.1 ∈ gT := ch6 (List.mem_of_getElem? (i := 102) rfl) rfl
theorem fl_X12_44 : FLk RX12 44 12 12 := ⟨RX12, TX12, 83, cls12, by decide, rfl, fk_X12_44⟩
theorem ff_X12_44 : FLf RX12 44 12 12 := ⟨TX12, 83, cls12, by decide, rfl, fk_X12_44, rfl⟩
theorem fk_X12_47 : Cond.fieldLink RX12 47 RX12 (TX12 13).2.1 (TX12 13).2.2.1 ∈ gT := ch6 (List.mem_of_getElem? (i := 103) rfl) rfl
theorem fl_X12_47 : FLk RX12 47 12 13 := ⟨RX12, TX12, 83, cls12, by decide, rfl, fk_X12_47⟩
theorem ff_X12_47 : FLf RX12 47 12 13 := ⟨TX12, 83, cls12, by decide, rfl, fk_X12_47, rfl⟩
theorem fk_X12_50 : Cond.fieldLink RX12 50 RX12 (TX12 14).2.1 (TX12 14).2.2.1 ∈ gT := ch6 (List.mem_of_getElem? (i := 104) rfl) rfl
theorem fl_X12_50 : FLk RX12 50 12 14 := ⟨RX12, TX12, 83, cls12, by decide, rfl, fk_X12_50⟩
theorem ff_X12_50 : FLf RX12 50 12 14 := ⟨TX12, 83, cls12, by decide, rfl, fk_X12_50, rfl⟩
theorem fk_X12_53 : Cond.fieldLink RX12 53 RX12 (TX12 15).2.1 (TX12 15).2.2.1 ∈ gT := ch6 (List.mem_of_getElem? (i := 105) rfl) rfl
theorem fl_X12_53 : FLk RX12 53 12 15 := ⟨RX12, TX12, 83, cls12, by decide, rfl, fk_X12_53⟩
theorem ff_X12_53 : FLf RX12 53 12 15 := ⟨TX12, 83, cls12, by decide, rfl, fk_X12_53, rfl⟩
theorem fk_X12_56 : Cond.fieldLink RX12 56 RX12 (TX12 16).2.1 (TX12 16).2.2.1 ∈ gT := ch6 (List.mem_of_getElem? (i := 106) rfl) rfl
theorem fl_X12_56 : FLk RX12 56 12 16 := ⟨RX12, TX12, 83, cls12, by decide, rfl, fk_X12_56⟩
theorem ff_X12_56 : FLf RX12 56 12 16 := ⟨TX12, 83, cls12, by decide, rfl, fk_X12_56, rfl⟩
theorem fk_X12_59 : Cond.fieldLink RX12 59 RX12 (TX12 17).2.1 (TX12 17).2.2.1 ∈ gT := ch6 (List.mem_of_getElem? (i := 107) rfl) rfl
theorem fl_X12_59 : FLk RX12 59 12 17 := ⟨RX12, TX12, 83, cls12, by decide, rfl, fk_X12_59⟩
theorem ff_X12_59 : FLf RX12 59 12 17 := ⟨TX12, 83, cls12, by decide, rfl, fk_X12_59, rfl⟩
theorem fk_X12_63 : Cond.fieldLink RX12 63 RX12 (TX12 18).2.1 (TX12 18).2.2.1 ∈ gT := ch6 (List.mem_of_getElem? (i := 108) rfl) rfl
theorem fl_X12_63 : FLk RX12 63 12 18 := ⟨RX12, TX12, 83, cls12, by decide, rfl, fk_X12_63⟩
theorem ff_X12_63 : FLf RX12 63 12 18 := ⟨TX12, 83, cls12, by decide, rfl, fk_X12_63, rfl⟩
theorem fk_X12_66 : Cond.fieldLink RX12 66 RX12 (TX12 19).2.1 (TX12 19).2.2.1 ∈ gT := ch6 (List.mem_of_getElem? (i := 109) rfl) rfl
theorem fl_X12_66 : FLk RX12 66 12 19 := ⟨RX12, TX12, 83, cls12, by decide, rfl, fk_X12_66⟩
theorem ff_X12_66 : FLf RX12 66 12 19 := ⟨TX12, 83, cls12, by decide, rfl, fk_X12_66, rfl⟩
theorem fk_X12_69 : Cond.fieldLink RX12 69 RX12 (TX12 20).2.1 (TX12 20).2.2.1 ∈ gT := ch6 (List.mem_of_getElem? (i := 110) rfl) rfl
theorem fl_X12_69 : FLk RX12 69 12 20 := ⟨RX12, TX12, 83, cls12, by decide, rfl, fk_X12_69⟩
theorem ff_X12_69 : FLf RX12 69 12 20 := ⟨TX12, 83, cls12, by decide, rfl, fk_X12_69, rfl⟩
theorem fk_X12_72 : Cond.fieldLink RX12 72 RX12 (TX12 21).2.1 (TX12 21).2.2.1 ∈ gT := ch6 (List.mem_of_getElem? (i := 111) rfl) rfl
theorem fl_X12_72 : FLk RX12 72 12 21 := ⟨RX12, TX12, 83, cls12, by decide, rfl, fk_X12_72⟩
theorem ff_X12_72 : FLf RX12 72 12 21 := ⟨TX12, 83, cls12, by decide, rfl, fk_X12_72, rfl⟩
theorem fk_X12_75 : Cond.fieldLink RX12 75 RX12 (TX12 22).2.1 (TX12 22).2.2.1 ∈ gT := ch6 (List.mem_of_getElem? (i := 112) rfl) rfl
theorem fl_X12_75 : FLk RX12 75 12 22 := ⟨RX12, TX12, 83, cls12, by decide, rfl, fk_X12_75⟩
theorem ff_X12_75 : FLf RX12 75 12 22 := ⟨TX12, 83, cls12, by decide, rfl, fk_X12_75, rfl⟩
theorem fk_X12_78 : Cond.fieldLink RX12 78 RX12 (TX12 23).2.1 (TX12 23).2.2.1 ∈ gT := ch6 (List.mem_of_getElem? (i := 113) rfl) rfl
theorem fl_X12_78 : FLk RX12 78 12 23 := ⟨RX12, TX12, 83, cls12, by decide, rfl, fk_X12_78⟩
theorem ff_X12_78 : FLf RX12 78 12 23 := ⟨TX12, 83, cls12, by decide, rfl, fk_X12_78, rfl⟩
theorem fk_X12_81 : Cond.fieldLink RX12 81 RX12 (TX12 24).2.1 (TX12 24).2.2.1 ∈ gT := ch6 (List.mem_of_getElem? (i := 114) rfl) rfl
theorem fl_X12_81 : FLk RX12 81 12 24 := ⟨RX12, TX12, 83, cls12, by decide, rfl, fk_X12_81⟩
theorem ff_X12_81 : FLf RX12 81 12 24 := ⟨TX12, 83, cls12, by decide, rfl, fk_X12_81, rfl⟩
theorem fk_X12_84 : Cond.fieldLink RX12 84 RX12 (TX12 25).2.1 (TX12 25).2.2.1 ∈ gT := ch6 (List.mem_of_getElem? (i := 115) rfl) rfl
theorem fl_X12_84 : FLk RX12 84 12 25 := ⟨RX12, TX12, 83, cls12, by decide, rfl, fk_X12_84⟩
theorem ff_X12_84 : FLf RX12 84 12 25 := ⟨TX12, 83, cls12, by decide, rfl, fk_X12_84, rfl⟩
theorem fk_X12_87 : Cond.fieldLink RX12 87 RX12 (TX12 26).2.1 (TX12 26).2.2.1 ∈ gT := ch6 (List.mem_of_getElem? (i := 116) rfl) rfl
theorem fl_X12_87 : FLk RX12 87 12 26 := ⟨RX12, TX12, 83, cls12, by decide, rfl, fk_X12_87⟩
theorem ff_X12_87 : FLf RX12 87 12 26 := ⟨TX12, 83, cls12, by decide, rfl, fk_X12_87, rfl⟩
theorem fk_X12_90 : Cond.fieldLink RX12 90 RX12 (TX12 27).2.1 (TX12 27).2.2.1 ∈ gT := ch6 (List.mem_of_getElem? (i := 117) rfl) rfl
theorem fl_X12_90 : FLk RX12 90 12 27 := ⟨RX12, TX12, 83, cls12, by decide, rfl, fk_X12_90⟩
theorem ff_X12_90 : FLf RX12 90 12 27 := ⟨TX12, 83, cls12, by decide, rfl, fk_X12_90, rfl⟩
theorem fk_X12_93 : Cond.fieldLink RX12 93 RX12 (TX12 28).2.1 (TX12 28).2.2.1 ∈ gT := ch6 (List.mem_of_getElem? (i := 118) rfl) rfl
theorem fl_X12_93 : FLk RX12 93 12 28 := ⟨RX12, TX12, 83, cls12, by decide, rfl, fk_X12_93⟩
theorem ff_X12_93 : FLf RX12 93 12 28 := ⟨TX12, 83, cls12, by decide, rfl, fk_X12_93, rfl⟩
theorem fk_X12_96 : Cond.fieldLink RX12 96 RX12 (TX12 29).2.1 (TX12 29).2.2.1 ∈ gT := ch6 (List.mem_of_getElem? (i := 119) rfl) rfl
theorem fl_X12_96 : FLk RX12 96 12 29 := ⟨RX12, TX12, 83, cls12, by decide, rfl, fk_X12_96⟩
theorem ff_X12_96 : FLf RX12 96 12 29 := ⟨TX12, 83, cls12, by decide, rfl, fk_X12_96, rfl⟩
theorem fk_X12_99 : Cond.fieldLink RX12 99 RX12 (TX12 30).2.1 (TX12 30).2.2.1 ∈ gT := ch6 (List.mem_of_getElem? (i := 120) rfl) rfl
theorem fl_X12_99 : FLk RX12 99 12 30 := ⟨RX12, TX12, 83, cls12, by decide, rfl, fk_X12_99⟩
theorem ff_X12_99 : FLf RX12 99 12 30 := ⟨TX12, 83, cls12, by decide, rfl, fk_X12_99, rfl⟩
theorem fk_X12_102 : Cond.fieldLink RX12 102 RX12 (TX12 31).2.1 (TX12 31).2.2.1 ∈ gT := ch6 (List.mem_of_getElem? (i := 121) rfl) rfl
theorem fl_X12_102 : FLk RX12 102 12 31 := ⟨RX12, TX12, 83, cls12, by decide, rfl, fk_X12_102⟩
theorem ff_X12_102 : FLf RX12 102 12 31 := ⟨TX12, 83, cls12, by decide, rfl, fk_X12_102, rfl⟩
theorem fk_X12_105 : Cond.fieldLink RX12 105 RX12 (TX12 32).2.1 (TX12 32).2.2.1 ∈ gT := ch6 (List.mem_of_getElem? (i := 122) rfl) rfl
theorem fl_X12_105 : FLk RX12 105 12 32 := ⟨RX12, TX12, 83, cls12, by decide, rfl, fk_X12_105⟩
theorem ff_X12_105 : FLf RX12 105 12 32 := ⟨TX12, 83, cls12, by decide, rfl, fk_X12_105, rfl⟩
theorem fk_X12_108 : Cond.fieldLink RX12 108 RX12 (TX12 33).2.1 (TX12 33).2.2.1 ∈ gT := ch6 (List.mem_of_getElem? (i := 123) rfl) rfl
theorem fl_X12_108 : FLk RX12 108 12 33 := ⟨RX12, TX12, 83, cls12, by decide, rfl, fk_X12_108⟩
theorem ff_X12_108 : FLf RX12 108 12 33 := ⟨TX12, 83, cls12, by decide, rfl, fk_X12_108, rfl⟩
theorem fk_X12_111 : Cond.fieldLink RX12 111 RX12 (TX12 34).2.1 (TX12 34).2.2.1 ∈ gT := ch6 (List.mem_of_getElem? (i := 124) rfl) rfl
theorem fl_X12_111 : FLk RX12 111 12 34 := ⟨RX12, TX12, 83, cls12, by decide, rfl, fk_X12_111⟩
theorem ff_X12_111 : FLf RX12 111 12 34 := ⟨TX12, 83, cls12, by decide, rfl, fk_X12_111, rfl⟩
theorem fk_X12_114 : Cond.fieldLink RX12 114 RX12 (TX12 35).2.1 (TX12 35).2.2.1 ∈ gT := ch6 (List.mem_of_getElem? (i := 125) rfl) rfl
theorem fl_X12_114 : FLk RX12 114 12 35 := ⟨RX12, TX12, 83, cls12, by decide, rfl, fk_X12_114⟩
theorem ff_X12_114 : FLf RX12 114 12 35 := ⟨TX12, 83, cls12, by decide, rfl, fk_X12_114, rfl⟩
theorem fk_X12_117 : Cond.fieldLink RX12 117 RX12 (TX12 36).2.1 (TX12 36).2.2.1 ∈ gT := ch6 (List.mem_of_getElem? (i := 126) rfl) rfl
theorem fl_X12_117 : FLk RX12 117 12 36 := ⟨RX12, TX12, 83, cls12, by decide, rfl, fk_X12_117⟩
theorem ff_X12_117 : FLf RX12 117 12 36 := ⟨TX12, 83, cls12, by decide, rfl, fk_X12_117, rfl⟩
theorem fk_X12_120 : Cond.fieldLink RX12 120 RX12 (TX12 37).2.1 (TX12 37).2.2.1 ∈ gT := ch6 (List.mem_of_getElem? (i := 127) rfl) rfl
theorem fl_X12_120 : FLk RX12 120 12 37 := ⟨RX12, TX12, 83, cls12, by decide, rfl, fk_X12_120⟩
theorem ff_X12_120 : FLf RX12 120 12 37 := ⟨TX12, 83, cls12, by decide, rfl, fk_X12_120, rfl⟩
theorem fk_X12_123 : Cond.fieldLink RX12 123 RX12 (TX12 38).2.1 (TX12 38).2.2.1 ∈ gT := ch6 (List.mem_of_getElem? (i := 128) rfl) rfl
theorem fl_X12_123 : FLk RX12 123 12 38 := ⟨RX12, TX12, 83, cls12, by decide, rfl, fk_X12_123⟩
theorem ff_X12_123 : FLf RX12 123 12 38 := ⟨TX12, 83, cls12, by decide, rfl, fk_X12_123, rfl⟩
theorem fk_X12_126 : Cond.fieldLink RX12 126 RX12 (TX12 39).2.1 (TX12 39).2.2.1 ∈ gT := ch6 (List.mem_of_getElem? (i := 129) rfl) rfl
theorem fl_X12_126 : FLk RX12 126 12 39 := ⟨RX12, TX12, 83, cls12, by decide, rfl, fk_X12_126⟩
theorem ff_X12_126 : FLf RX12 126 12 39 := ⟨TX12, 83, cls12, by decide, rfl, fk_X12_126, rfl⟩
theorem fk_X12_129 : Cond.fieldLink RX12 129 RX12 (TX12 40).2.1 (TX12 40).2.2.1 ∈ gT := ch6 (List.mem_of_getElem? (i := 130) rfl) rfl
theorem fl_X12_129 : FLk RX12 129 12 40 := ⟨RX12, TX12, 83, cls12, by decide, rfl, fk_X12_129⟩
theorem ff_X12_129 : FLf RX12 129 12 40 := ⟨TX12, 83, cls12, by decide, rfl, fk_X12_129, rfl⟩
theorem fk_X12_132 : Cond.fieldLink RX12 132 RX12 (TX12 41).2.1 (TX12 41).2.2.1 ∈ gT := ch6 (List.mem_of_getElem? (i := 131) rfl) rfl
theorem fl_X12_132 : FLk RX12 132 12 41 := ⟨RX12, TX12, 83, cls12, by decide, rfl, fk_X12_132⟩
theorem ff_X12_132 : FLf RX12 132 12 41 := ⟨TX12, 83, cls12, by decide, rfl, fk_X12_132, rfl⟩
theorem fk_X12_135 : Cond.fieldLink RX12 135 RX12 (TX12 42).2.1 (TX12 42).2.2.1 ∈ gT := ch6 (List.mem_of_getElem? (i := 132) rfl) rfl
theorem fl_X12_135 : FLk RX12 135 12 42 := ⟨RX12, TX12, 83, cls12, by decide, rfl, fk_X12_135⟩
theorem ff_X12_135 : FLf RX12 135 12 42 := ⟨TX12, 83, cls12, by decide, rfl, fk_X12_135, rfl⟩
theorem fk_X12_138 : Cond.fieldLink RX12 138 RX12 (TX12 43).2.1 (TX12 43).2.2.1 ∈ gT := ch6 (List.mem_of_getElem? (i := 133) rfl) rfl
theorem fl_X12_138 : FLk RX12 138 12 43 := ⟨RX12, TX12, 83, cls12, by decide, rfl, fk_X12_138⟩
theorem ff_X12_138 : FLf RX12 138 12 43 := ⟨TX12, 83, cls12, by decide, rfl, fk_X12_138, rfl⟩
theorem fk_X12_259 : Cond.fieldLink RX12 259 RX12 (TX12 44).2.1 (TX12 44).2.2.1 ∈ gT := ch6 (List.mem_of_getElem? (i := 134) rfl) rfl
theorem fl_X12_259 : FLk RX12 259 12 44 := ⟨RX12, TX12, 83, cls12, by decide, rfl, fk_X12_259⟩
theorem fw_X12_259 : FLw RX12 259 12 44 := ⟨RX12, TX12, 83, cls12, by decide, rfl, fk_X12_259, rfl⟩
theorem fk_X12_284 : Cond.fieldLink RX12 284 RX12 (TX12 45).2.1 (TX12 45).2.2.1 ∈ gT := ch6 (List.mem_of_getElem? (i := 135) rfl) rfl
theorem fl_X12_284 : FLk RX12 284 12 45 := ⟨RX12, TX12, 83, cls12, by decide, rfl, fk_X12_284⟩
theorem fw_X12_284 : FLw RX12 284 12 45 := ⟨RX12, TX12, 83, cls12, by decide, rfl, fk_X12_284, rfl⟩
theorem fk_X12_287 : Cond.fieldLink RX12 287 RX12 (TX12 46).2.1 (TX12 46).2.2.1 ∈ gT := ch6 (List.mem_of_getElem? (i := 136) rfl) rfl
theorem fl_X12_287 : FLk RX12 287 12 46 := ⟨RX12, TX12, 83, cls12, by decide, rfl, fk_X12_287⟩
theorem fw_X12_287 : FLw RX12 287 12 46 := ⟨RX12, TX12, 83, cls12, by decide, rfl, fk_X12_287, rfl⟩
theorem fk_X12_294 : Cond.fieldLink RX12 294 RX12 (TX12 47).2.1 (TX12 47).2.2.1 ∈ gT := ch6 (List.mem_of_getElem? (i := 137) rfl) rfl
theorem fl_X12_294 : FLk RX12 294 12 47 := ⟨RX12, TX12, 83, cls12, by decide, rfl, fk_X12_294⟩
theorem fw_X12_294 : FLw RX12 294 12 47 := ⟨RX12, TX12, 83, cls12, by decide, rfl, fk_X12_294, rfl⟩
theorem fk_X12_304 : Cond.fieldLink RX12 304 RX12 (TX12 48).2.1 (TX12 48).2.2.1 ∈ gT := ch6 (List.mem_of_getElem? (i := 138) rfl) rfl
theorem fl_X12_304 : FLk RX12 304 12 48 := ⟨RX12, TX12, 83, cls12, by decide, rfl, fk_X12_304⟩
theorem fw_X12_304 : FLw RX12 304 12 48 := ⟨RX12, TX12, 83, cls12, by decide, rfl, fk_X12_304, rfl⟩
theorem fk_X12_297 : Cond.fieldLink RX12 297 RX12 (TX12 49).2.1 (TX12 49).2.2.1 ∈ gT := ch6 (List.mem_of_getElem? (i := 139) rfl) rfl
theorem fl_X12_297 : FLk RX12 297 12 49 := ⟨RX12, TX12, 83, cls12, by decide, rfl, fk_X12_297⟩
theorem fw_X12_297 : FLw RX12 297 12 49 := ⟨RX12, TX12, 83, cls12, by decide, rfl, fk_X12_297, rfl⟩
theorem fk_X12_300 : Cond.fieldLink RX12 300 RX12 (TX12 50).2.1 (TX12 50).2.2.1 ∈ gT := ch6 (List.mem_of_getElem? (i := 140) rfl) rfl
theorem fl_X12_300 : FLk RX12 300 12 50 := ⟨RX12, TX12, 83, cls12, by decide, rfl, fk_X12_300⟩
theorem fw_X12_300 : FLw RX12 300 12 50 := ⟨RX12, TX12, 83, cls12, by decide, rfl, fk_X12_300, rfl⟩
theorem fk_X12_307 : Cond.fieldLink RX12 307 RX12 (TX12 51).2.1 (TX12 51).2.2.1 ∈ gT := ch6 (List.mem_of_getElem? (i := 141) rfl) rfl
theorem fl_X12_307 : FLk RX12 307 12 51 := ⟨RX12, TX12, 83, cls12, by decide, rfl, fk_X12_307⟩
theorem fw_X12_307 : FLw RX12 307 12 51 := ⟨RX12, TX12, 83, cls12, by decide, rfl, fk_X12_307, rfl⟩
theorem fk_X12_310 : Cond.fieldLink RX12 310 RX12 (TX12 52).2.1 (TX12 52).2.2.1 ∈ gT := ch6 (List.mem_of_getElem? (i := 142) rfl) rfl
theorem fl_X12_310 : FLk RX12 310 12 52 := ⟨RX12, TX12, 83, cls12, by decide, rfl, fk_X12_310⟩
theorem fw_X12_310 : FLw RX12 310 12 52 := ⟨RX12, TX12, 83, cls12, by decide, rfl, fk_X12_310, rfl⟩
theorem fk_X12_313 : Cond.fieldLink RX12 313 RX12 (TX12 53).2.1 (TX12 53).2.2.1 ∈ gT := ch6 (List.mem_of_getElem? (i := 143) rfl) rfl
theorem fl_X12_313 : FLk RX12 313 12 53 := ⟨RX12, TX12, 83, cls12, by decide, rfl, fk_X12_313⟩
theorem fw_X12_313 : FLw RX12 313 12 53 := ⟨RX12, TX12, 83, cls12, by decide, rfl, fk_X12_313, rfl⟩
theorem fk_X12_367 : Cond.fieldLink RX12 367 RX12 (TX12 54).2.1 (TX12 54).2.2.1 ∈ gT := ch6 (List.mem_of_getElem? (i := 144) rfl) rfl
theorem fl_X12_367 : FLk RX12 367 12 54 := ⟨RX12, TX12, 83, cls12, by decide, rfl, fk_X12_367⟩
theorem fw_X12_367 : FLw RX12 367 12 54 := ⟨RX12, TX12, 83, cls12, by decide, rfl, fk_X12_367, rfl⟩
theorem fk_X12_141 : Cond.fieldLink RX12 141 RX12 (TX12 55).2.1 (TX12 55).2.2.1 ∈ gT := ch6 (List.mem_of_getElem? (i := 145) rfl) rfl
theorem fl_X12_141 : FLk RX12 141 12 55 := ⟨RX12, TX12, 83, cls12, by decide, rfl, fk_X12_141⟩
theorem ff_X12_141 : FLf RX12 141 12 55 := ⟨TX12, 83, cls12, by decide, rfl, fk_X12_141, rfl⟩
theorem fk_X12_144 : Cond.fieldLink RX12 144 RX12 (TX12 56).2.1 (TX12 56).2.2.1 ∈ gT := ch6 (List.mem_of_getElem? (i := 146) rfl) rfl
theorem fl_X12_144 : FLk RX12 144 12 56 := ⟨RX12, TX12, 83, cls12, by decide, rfl, fk_X12_144⟩
theorem ff_X12_144 : FLf RX12 144 12 56 := ⟨TX12, 83, cls12, by decide, rfl, fk_X12_144, rfl⟩
theorem fk_X12_147 : Cond.fieldLink RX12 147 RX12 (TX12 57).2.1 (TX12 57).2.2.1 ∈ gT := ch6 (List.mem_of_getElem? (i := 147) rfl) rfl
theorem fl_X12_147 : FLk RX12 147 12 57 := ⟨RX12, TX12, 83, cls12, by decide, rfl, fk_X12_147⟩
theorem ff_X12_147 : FLf RX12 147 12 57 := ⟨TX12, 83, cls12, by decide, rfl, fk_X12_147, rfl⟩
theorem fk_X12_150 : Cond.fieldLink RX12 150 RX12 (TX12 58).2.1 (TX12 58).2.2.1 ∈ gT := ch6 (List.mem_of_getElem? (i := 148) rfl) rfl
theorem fl_X12_150 : FLk RX12 150 12 58 := ⟨RX12, TX12, 83, cls12, by decide, rfl, fk_X12_150⟩
theorem ff_X12_150 : FLf RX12 150 12 58 := ⟨TX12, 83, cls12, by decide, rfl, fk_X12_150, rfl⟩
theorem fk_X12_153 : Cond.fieldLink RX12 153 RX12 (TX12 59).2.1 (TX12 59).2.2.1 ∈ gT := ch6 (List.mem_of_getElem? (i := 149) rfl) rfl
theorem fl_X12_153 : FLk RX12 153 12 59 := ⟨RX12, TX12, 83, cls12, by decide, rfl, fk_X12_153⟩
theorem ff_X12_153 : FLf RX12 153 12 59 := ⟨TX12, 83, cls12, by decide, rfl, fk_X12_153, rfl⟩
theorem fk_X12_156 : Cond.fieldLink RX12 156 RX12 (TX12 60).2.1 (TX12 60).2.2.1 ∈ gT := ch6 (List.mem_of_getElem? (i := 150) rfl) rfl
theorem fl_X12_156 : FLk RX12 156 12 60 := ⟨RX12, TX12, 83, cls12, by decide, rfl, fk_X12_156⟩
theorem ff_X12_156 : FLf RX12 156 12 60 := ⟨TX12, 83, cls12, by decide, rfl, fk_X12_156, rfl⟩
theorem fk_X12_159 : Cond.fieldLink RX12 159 RX12 (TX12 61).2.1 (TX12 61).2.2.1 ∈ gT := ch6 (List.mem_of_getElem? (i := 151) rfl) rfl
theorem fl_X12_159 : FLk RX12 159 12 61 := ⟨RX12, TX12, 83, cls12, by decide, rfl, fk_X12_159⟩
theorem ff_X12_159 : FLf RX12 159 12 61 := ⟨TX12, 83, cls12, by decide, rfl, fk_X12_159, rfl⟩
theorem fk_X12_395 : Cond.fieldLink RX12 395 RX12 (TX12 62).2.1 (TX12 62).2.2.1 ∈ gT := ch6 (List.mem_of_getElem? (i := 152) rfl) rfl
theorem fl_X12_395 : FLk RX12 395 12 62 := ⟨RX12, TX12, 83, cls12, by decide, rfl, fk_X12_395⟩
theorem fw_X12_395 : FLw RX12 395 12 62 := ⟨RX12, TX12, 83, cls12, by decide, rfl, fk_X12_395, rfl⟩
theorem fk_X12_398 : Cond.fieldLink RX12 398 RX12 (TX12 63).2.1 (TX12 63).2.2.1 ∈ gT := ch6 (List.mem_of_getElem? (i := 153) rfl) rfl
theorem fl_X12_398 : FLk RX12 398 12 63 := ⟨RX12, TX12, 83, cls12, by decide, rfl, fk_X12_398⟩
theorem fw_X12_398 : FLw RX12 398 12 63 := ⟨RX12, TX12, 83, cls12, by decide, rfl, fk_X12_398, rfl⟩
theorem fk_X12_401 : Cond.fieldLink RX12 401 RX12 (TX12 64).2.1 (TX12 64).2.2.1 ∈ gT := ch6 (List.mem_of_getElem? (i := 154) rfl) rfl
theorem fl_X12_401 : FLk RX12 401 12 64 := ⟨RX12, TX12, 83, cls12, by decide, rfl, fk_X12_401⟩
theorem fw_X12_401 : FLw RX12 401 12 64 := ⟨RX12, TX12, 83, cls12, by decide, rfl, fk_X12_401, rfl⟩
theorem fk_X12_404 : Cond.fieldLink RX12 404 RX12 (TX12 65).2.1 (TX12 65).2.2.1 ∈ gT := ch6 (List.mem_of_getElem? (i := 155) rfl) rfl
theorem fl_X12_404 : FLk RX12 404 12 65 := ⟨RX12, TX12, 83, cls12, by decide, rfl, fk_X12_404⟩
theorem fw_X12_404 : FLw RX12 404 12 65 := ⟨RX12, TX12, 83, cls12, by decide, rfl, fk_X12_404, rfl⟩
theorem fk_X12_420 : Cond.fieldLink RX12 420 RX12 (TX12 66).2.1 (TX12 66).2.2.1 ∈ gT := ch6 (List.mem_of_getElem? (i := 156) rfl) rfl
theorem fl_X12_420 : FLk RX12 420 12 66 := ⟨RX12, TX12, 83, cls12, by decide, rfl, fk_X12_420⟩
theorem fw_X12_420 : FLw RX12 420 12 66 := ⟨RX12, TX12, 83, cls12, by decide, rfl, fk_X12_420, rfl⟩
theorem fk_X12_423 : Cond.fieldLink RX12 423 RX12 (TX12 67).2.1 (TX12 67).2.2.1 ∈ gT := ch6 (List.mem_of_getElem? (i := 157) rfl) rfl
theorem fl_X12_423 : FLk RX12 423 12 67 := ⟨RX12, TX12, 83, cls12, by decide, rfl, fk_X12_423⟩
theorem fw_X12_423 : FLw RX12 423 12 67 := ⟨RX12, TX12, 83, cls12, by decide, rfl, fk_X12_423, rfl⟩
theorem fk_X12_162 : Cond.fieldLink RX12 162 RX12 (TX12 68).2.1 (TX12 68).2.2.1 ∈ gT := ch6 (List.mem_of_getElem? (i := 158) rfl) rfl
theorem fl_X12_162 : FLk RX12 162 12 68 := ⟨RX12, TX12, 83, cls12, by decide, rfl, fk_X12_162⟩
theorem ff_X12_162 : FLf RX12 162 12 68 := ⟨TX12, 83, cls12, by decide, rfl, fk_X12_162, rfl⟩
theorem fk_X12_165 : Cond.fieldLink RX12 165 RX12 (TX12 69).2.1 (TX12 69).2.2.1 ∈ gT := ch6 (List.mem_of_getElem? (i := 159) rfl) rfl
theorem fl_X12_165 : FLk RX12 165 12 69 := ⟨RX12, TX12, 83, cls12, by decide, rfl, fk_X12_165⟩
theorem ff_X12_165 : FLf RX12 165 12 69 := ⟨TX12, 83, cls12, by decide, rfl, fk_X12_165, rfl⟩
theorem fk_X12_168 : Cond.fieldLink RX12 168 RX12 (TX12 70).2.1 (TX12 70).2.2.1 ∈ gT := ch6 (List.mem_of_getElem? (i := 160) rfl) rfl
theorem fl_X12_168 : FLk RX12 168 12 70 := ⟨RX12, TX12, 83, cls12, by decide, rfl, fk_X12_168⟩
theorem ff_X12_168 : FLf RX12 168 12 70 := ⟨TX12, 83, cls12, by decide, rfl, fk_X12_168, rfl⟩
theorem fk_X12_171 : Cond.fieldLink RX12 171 RX12 (TX12 71).2.1 (TX12 71).2.2.1 ∈ gT := ch6 (List.mem_of_getElem? (i := 161) rfl) rfl
theorem fl_X12_171 : FLk RX12 171 12 71 := ⟨RX12, TX12, 83, cls12, by decide, rfl, fk_X12_171⟩
theorem ff_X12_171 : FLf RX12 171 12 71 := ⟨TX12, 83, cls12, by decide, rfl, fk_X12_171, rfl⟩
theorem fk_X12_174 : Cond.fieldLink RX12 174 RX12 (TX12 72).2.1 (TX12 72).2.2.1 ∈ gT := ch6 (List.mem_of_getElem? (i := 162) rfl) rfl
theorem fl_X12_174 : FLk RX12 174 12 72 := ⟨RX12, TX12, 83, cls12, by decide, rfl, fk_X12_174⟩
theorem ff_X12_174 : FLf RX12 174 12 72 := ⟨TX12, 83, cls12, by decide, rfl, fk_X12_174, rfl⟩
theorem fk_X12_178 : Cond.fieldLink RX12 178 RX12 (TX12 73).2.1 (TX12 73).2.2.1 ∈ gT := ch6 (List.mem_of_getElem? (i := 163) rfl) rfl
theorem fl_X12_178 : FLk RX12 178 12 73 := ⟨RX12, TX12, 83, cls12, by decide, rfl, fk_X12_178⟩
theorem ff_X12_178 : FLf RX12 178 12 73 := ⟨TX12, 83, cls12, by decide, rfl, fk_X12_178, rfl⟩
theorem fk_X12_181 : Cond.fieldLink RX12 181 RX12 (TX12 74).2.1 (TX12 74).2.2.1 ∈ gT := ch6 (List.mem_of_getElem? (i := 164) rfl) rfl
theorem fl_X12_181 : FLk RX12 181 12 74 := ⟨RX12, TX12, 83, cls12, by decide, rfl, fk_X12_181⟩
theorem ff_X12_181 : FLf RX12 181 12 74 := ⟨TX12, 83, cls12, by decide, rfl, fk_X12_181, rfl⟩
theorem fk_X12_184 : Cond.fieldLink RX12 184 RX12 (TX12 75).2.1 (TX12 75).2.2.1 ∈ gT := ch6 (List.mem_of_getElem? (i := 165) rfl) rfl
theorem fl_X12_184 : FLk RX12 184 12 75 := ⟨RX12, TX12, 83, cls12, by decide, rfl, fk_X12_184⟩
theorem ff_X12_184 : FLf RX12 184 12 75 := ⟨TX12, 83, cls12, by decide, rfl, fk_X12_184, rfl⟩
theorem fk_X12_187 : Cond.fieldLink RX12 187 RX12 (TX12 76).2.1 (TX12 76).2.2.1 ∈ gT := ch6 (List.mem_of_getElem? (i := 166) rfl) rfl
theorem fl_X12_187 : FLk RX12 187 12 76 := ⟨RX12, TX12, 83, cls12, by decide, rfl, fk_X12_187⟩
theorem ff_X12_187 : FLf RX12 187 12 76 := ⟨TX12, 83, cls12, by decide, rfl, fk_X12_187, rfl⟩
theorem fk_X12_190 : Cond.fieldLink RX12 190 RX12 (TX12 77).2.1 (TX12 77).2.2.1 ∈ gT := ch6 (List.mem_of_getElem? (i := 167) rfl) rfl
theorem fl_X12_190 : FLk RX12 190 12 77 := ⟨RX12, TX12, 83, cls12, by decide, rfl, fk_X12_190⟩
theorem ff_X12_190 : FLf RX12 190 12 77 := ⟨TX12, 83, cls12, by decide, rfl, fk_X12_190, rfl⟩
theorem fk_X12_481 : Cond.fieldLink RX12 481 RX12 (TX12 78).2.1 (TX12 78).2.2.1 ∈ gT := ch6 (List.mem_of_getElem? (i := 168) rfl) rfl
theorem fl_X12_481 : FLk RX12 481 12 78 := ⟨RX12, TX12, 83, cls12, by decide, rfl, fk_X12_481⟩
theorem fw_X12_481 : FLw RX12 481 12 78 := ⟨RX12, TX12, 83, cls12, by decide, rfl, fk_X12_481, rfl⟩
theorem fk_X12_484 : Cond.fieldLink RX12 484 RX12 (TX12 79).2.1 (TX12 79).2.2.1 ∈ gT := ch6 (List.mem_of_getElem? (i := 169) rfl) rfl
theorem fl_X12_484 : FLk RX12 484 12 79 := ⟨RX12, TX12, 83, cls12, by decide, rfl, fk_X12_484⟩
theorem fw_X12_484 : FLw RX12 484 12 79 := ⟨RX12, TX12, 83, cls12, by decide, rfl, fk_X12_484, rfl⟩
theorem fk_X12_193 : Cond.fieldLink RX12 193 RX12 (TX12 80).2.1 (TX12 80).2.2.1 ∈ gT := ch6 (List.mem_of_getElem? (i := 170) rfl) rfl
theorem fl_X12_193 : FLk RX12 193 12 80 := ⟨RX12, TX12, 83, cls12, by decide, rfl, fk_X12_193⟩
theorem ff_X12_193 : FLf RX12 193 12 80 := ⟨TX12, 83, cls12, by decide, rfl, fk_X12_193, rfl⟩
theorem fk_X12_196 : Cond.fieldLink RX12 196 RX12 (TX12 81).2.1 (TX12 81).2.2.1 ∈ gT := ch6 (List.mem_of_getElem? (i := 171) rfl) rfl
theorem fl_X12_196 : FLk RX12 196 12 81 := ⟨RX12, TX12, 83, cls12, by decide, rfl, fk_X12_196⟩
theorem ff_X12_196 : FLf RX12 196 12 81 := ⟨TX12, 83, cls12, by decide, rfl, fk_X12_196, rfl⟩
theorem fk_X12_199 : Cond.fieldLink RX12 199 RX12 (TX12 82).2.1 (TX12 82).2.2.1 ∈ gT := ch6 (List.mem_of_getElem? (i := 172) rfl) rfl
theorem fl_X12_199 : FLk RX12 199 12 82 := ⟨RX12, TX12, 83, cls12, by decide, rfl, fk_X12_199⟩
theorem ff_X12_199 : FLf RX12 199 12 82 := ⟨TX12, 83, cls12, by decide, rfl, fk_X12_199, rfl⟩
theorem fk_J0_9 : Cond.fieldLink RJ0 9 "java/lang/String" "value" "[B" ∈ gT := ch9 (List.mem_of_getElem? (i := 0) rfl) rfl
theorem fk_J0_15 : Cond.fieldLink RJ0 15 "java/lang/String" "coder" "B" ∈ gT := ch9 (List.mem_of_getElem? (i := 1) rfl) rfl
