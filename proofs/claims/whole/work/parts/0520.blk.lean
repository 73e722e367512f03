set_option maxRecDepth 100000 in
set_option maxHeartbeats 4000000 in
theorem w_X12_oneLine {E : Envt} {d : Nat} {Q : Pst} {h : mS} {I : mI} {L : mL} (hs : SL h) (x1 : Int32) 
    (hW : (∀ y2 : Int32, y2 = (if 16 ≤ (I 83 54) then 16 else I 83 54 : Int32) → ((((I 83 54) = 16) → (CT E mX12_later (d + 2) 0 0 [.ref (eB E + 83), .int 3, .int (I 83 47)] h I L (qv h L fun I4 => J E mX12_oneLine (d + 3) Q 0 0 37 [some (.ref (eB E + 83)), some (.int x1), some (.int y2), none, none] [] h I4 L))) ∧ (¬ ((I 83 54) = 16) → J E mX12_oneLine (d + 3) Q 0 0 37 [some (.ref (eB E + 83)), some (.int x1), some (.int y2), none, none] [] h I L)))) :
    CT E mX12_oneLine (d + 3) 0 0 [.ref (eB E + 83), .int x1] h I L Q := by
  refine CT.of (by decide) [some (.ref (eB E + 83)), some (.int x1), none, none, none] rfl (Nat.le_of_ble_eq_true rfl) ?_
  refine J.aload_n dX12_oneLine_0 rfl rfl ?_
  refine J.getI (x := I 83 54) fl_X12_367 rfl dX12_oneLine_1 (lt83 hs) (kk83 hs) rfl ?_
  refine J.bipush (v := 16) dX12_oneLine_4 (by decide) ?_
  have hj : J E mX12_oneLine (d + 3) Q 0 0 18 [some (.ref (eB E + 83)), some (.int x1), none, none, none] [.int (if 16 ≤ (I 83 54) then 16 else I 83 54 : Int32)] h I L := by
    refine J.topi (fun y2 hyy2 => ?_)
    have hW := hW y2 hyy2
    refine J.istore_n (vs' := [some (.ref (eB E + 83)), some (.int x1), some (.int y2), none, none]) dX12_oneLine_18 rfl (by decide) rfl ?_
    refine J.aload_n dX12_oneLine_19 rfl rfl ?_
    refine J.getI (x := I 83 54) fl_X12_367 rfl dX12_oneLine_20 (lt83 hs) (kk83 hs) rfl ?_
    refine J.bipush (v := 16) dX12_oneLine_23 (by decide) ?_
    refine J.ic_ne 37 dX12_oneLine_25 (by decide) (fun hc3 => ?_) (fun hc3 => ?_)
    · have hW := hW.2 hc3
      exact hW
    · have hW := hW.1 hc3
      refine J.aload_n dX12_oneLine_28 rfl rfl ?_
      refine J.iconst (v := 3) dX12_oneLine_29 (by decide) ?_
      refine J.aload_n dX12_oneLine_30 rfl rfl ?_
      refine J.getI (x := I 83 47) fl_X12_294 rfl dX12_oneLine_31 (lt83 hs) (kk83 hs) rfl ?_
      refine J.callV (M' := mX12_later) (index := 349) (bc := 0) (bs := 0) (bc' := 0) (bs' := 0) (st := []) [.int 3, .int (I 83 47)] ml_X12_349 cv_X12_later dX12_oneLine_34 (lt83 hs) (kk83 hs) (by decide) rfl rfl rfl rfl (Nat.le_of_ble_eq_true rfl) (kqv hW (fun I4 hW => ?_))
      exact hW
  refine J.ic_ge 16 dX12_oneLine_6 (by decide) (fun hc1 => ?_) (fun hc1 => ?_)
  · refine J.bipush (v := 16) dX12_oneLine_16 (by decide) ?_
    rw [show ((if 16 ≤ (I 83 54) then 16 else I 83 54 : Int32) = 16) from by simp only [eq_true hc1, if_true, if_false, bI_true, bI_false, and_true, true_and, and_false, false_and, or_true, true_or, or_false, false_or, not_true_eq_false, not_false_eq_true]] at hj
    exact hj
  · refine J.aload_n dX12_oneLine_9 rfl rfl ?_
    refine J.getI (x := I 83 54) fl_X12_367 rfl dX12_oneLine_10 (lt83 hs) (kk83 hs) rfl ?_
    refine J.goto 18 dX12_oneLine_13 (by decide) ?_
    rw [show ((if 16 ≤ (I 83 54) then 16 else I 83 54 : Int32) = I 83 54) from by simp only [eq_false hc1, if_true, if_false, bI_true, bI_false, and_true, true_and, and_false, false_and, or_true, true_or, or_false, false_or, not_true_eq_false, not_false_eq_true]] at hj
    exact hj
set_option maxRecDepth 100000 in
set_option maxHeartbeats 4000000 in
theorem w_X12_oneLine_37 {E : Envt} {d : Nat} {Q : Pst} {h : mS} {I : mI} {L : mL} (hs : SL h)    (x1 : Int32) (x2 : Int32)
    (hW : (vp_in x2 17 ∧ ((((((uI I 127 x2.toNatClampNeg 0) 83 48) = 2) ∧ ((lg_cmp (L 83 50) 26982) = 0)) → J E mX12_oneLine (d + 3) Q 0 0 59 [some (.ref (eB E + 83)), some (.int x1), some (.int x2), some (.int 1), some (.int 0)] [] h (uI I 127 x2.toNatClampNeg 0) L) ∧ (¬ ((((uI I 127 x2.toNatClampNeg 0) 83 48) = 2) ∧ ((lg_cmp (L 83 50) 26982) = 0)) → (CT E mX12_actWord (d + 2) 0 0 [.ref (eB E + 83), .int x1] h (uI I 127 x2.toNatClampNeg 0) L (qi h L fun r6 I5 => (((r6 = (-1)) → (CT E mX12_wrong (d + 2) 0 0 [.ref (eB E + 83)] h (uI I5 128 x2.toNatClampNeg r6) L (qi h L fun r21 I20 => (bz r21 ∧ Q (some (.int r21)) h I20 L)))) ∧ (¬ (r6 = (-1)) → (CT E mX12_token (d + 2) 0 0 [.ref (eB E + 83)] h (uI I5 128 x2.toNatClampNeg r6) L (qvL h fun I8 L9 => ((((I8 128 x2.toNatClampNeg) = 0) → (CT E mX12_need (d + 2) 0 0 [.ref (eB E + 83), .int 59] h (uI (uI I8 129 x2.toNatClampNeg 0) 83 54 ((I8 83 54) + 1)) L9 (qiL h fun r13 I11 L12 => (bz r13 ∧ Q (some (.int r13)) h I11 L12)))) ∧ (¬ ((I8 128 x2.toNatClampNeg) = 0) → ((((I8 83 48) = 3) → ((((I8 128 x2.toNatClampNeg) = 2) → ((((I8 83 49) ≤ 100) → J E mX12_oneLine (d + 3) Q 0 0 191 [some (.ref (eB E + 83)), some (.int x1), some (.int x2), none, none] [] h (uI I8 129 x2.toNatClampNeg 0) L9) ∧ (¬ ((I8 83 49) ≤ 100) → (CT E mX12_later (d + 2) 0 0 [.ref (eB E + 83), .int 2, .int (I8 83 47)] h (uI I8 129 x2.toNatClampNeg 0) L9 (qv h L9 fun I17 => J E mX12_oneLine (d + 3) Q 0 0 191 [some (.ref (eB E + 83)), some (.int x1), some (.int x2), none, none] [] h I17 L9))))) ∧ (¬ ((I8 128 x2.toNatClampNeg) = 2) → J E mX12_oneLine (d + 3) Q 0 0 191 [some (.ref (eB E + 83)), some (.int x1), some (.int x2), none, none] [] h (uI I8 129 x2.toNatClampNeg 0) L9))) ∧ (¬ ((I8 83 48) = 3) → (CT E mX12_wrong (d + 2) 0 0 [.ref (eB E + 83)] h (uI I8 129 x2.toNatClampNeg 0) L9 (qi h L9 fun r19 I18 => (bz r19 ∧ Q (some (.int r19)) h I18 L9))))))))))))))))) :
    J E mX12_oneLine (d + 3) Q 0 0 37 [some (.ref (eB E + 83)), some (.int x1), some (.int x2), none, none] [] h I L := by
  refine J.aload_n dX12_oneLine_37 rfl rfl ?_
  refine J.getR (r := 127) fl_X12_141 rfl dX12_oneLine_38 (lt83 hs) (kk83 hs) (rr83_55 hs) ?_
  refine J.iload_n dX12_oneLine_41 rfl rfl ?_
  refine J.iconst (v := 0) dX12_oneLine_42 (by decide) ?_
  obtain ⟨hb1, hW⟩ := hW
  refine J.iast dX12_oneLine_43 (lt127 hs) (kk127 hs) hb1 ?_
  refine J.aload_n dX12_oneLine_44 rfl rfl ?_
  refine J.ldc2 (v := 26982) dX12_oneLine_45 ck_X12_370 ?_
  refine J.callV (M' := mX12_isWord) (index := 325) (bc := 0) (bs := 0) (bc' := 0) (bs' := 0) (st := []) [.long 26982] ml_X12_325 cv_X12_isWord dX12_oneLine_48 (lt83 hs) (kk83 hs) (by decide) rfl rfl rfl rfl (Nat.le_of_ble_eq_true rfl) (kqi (w_X12_isWord (d := d + 2) (Q := qi h L (fun v I' => I' = (uI I 127 x2.toNatClampNeg 0) ∧ v = bI ((((uI I 127 x2.toNatClampNeg 0) 83 48) = 2) ∧ ((lg_cmp (L 83 50) 26982) = 0)))) hs 26982 ⟨rfl, rfl, _, rfl, rfl, rfl⟩) (fun v2 I3 hv => ?_))
  rw [hv.1, hv.2]
  refine J.if_eq 104 dX12_oneLine_51 (by decide) (fun hc4 => ?_) (fun hc4 => ?_)
  · have hc4 := bI_0.mp hc4
    have hW := hW.2 hc4
    refine J.aload_n dX12_oneLine_104 rfl rfl ?_
    refine J.getR (r := 128) fl_X12_144 rfl dX12_oneLine_105 (lt83 hs) (kk83 hs) (rr83_56 hs) ?_
    refine J.iload_n dX12_oneLine_108 rfl rfl ?_
    refine J.aload_n dX12_oneLine_109 rfl rfl ?_
    refine J.iload_n dX12_oneLine_110 rfl rfl ?_
    refine J.callV (M' := mX12_actWord) (index := 380) (bc := 0) (bs := 0) (bc' := 0) (bs' := 0) (st := [.int x2, .ref (eB E + 128)]) [.int x1] ml_X12_380 cv_X12_actWord dX12_oneLine_111 (lt83 hs) (kk83 hs) (by decide) rfl rfl rfl rfl (Nat.le_of_ble_eq_true rfl) (kqi hW (fun r6 I5 hW => ?_))
    refine J.iast dX12_oneLine_114 (lt128 hs) (kk128 hs) hb1 ?_
    refine J.aload_n dX12_oneLine_115 rfl rfl ?_
    refine J.getR (r := 128) fl_X12_144 rfl dX12_oneLine_116 (lt83 hs) (kk83 hs) (rr83_56 hs) ?_
    refine J.iload_n dX12_oneLine_119 rfl rfl ?_
    refine J.iald (x := r6) dX12_oneLine_120 (lt128 hs) (kk128 hs) hb1 (by simp [uI]) ?_
    refine J.iconst (v := (-1)) dX12_oneLine_121 (by decide) ?_
    refine J.ic_ne 130 dX12_oneLine_122 (by decide) (fun hc7 => ?_) (fun hc7 => ?_)
    · have hW := hW.2 hc7
      refine J.aload_n dX12_oneLine_130 rfl rfl ?_
      refine J.callV (M' := mX12_token) (index := 320) (bc := 0) (bs := 0) (bc' := 0) (bs' := 0) (st := []) [] ml_X12_320 cv_X12_token dX12_oneLine_131 (lt83 hs) (kk83 hs) (by decide) rfl rfl rfl rfl (Nat.le_of_ble_eq_true rfl) (kqvL hW (fun I8 L9 hW => ?_))
      refine J.aload_n dX12_oneLine_134 rfl rfl ?_
      refine J.getR (r := 129) fl_X12_147 rfl dX12_oneLine_135 (lt83 hs) (kk83 hs) (rr83_57 hs) ?_
      refine J.iload_n dX12_oneLine_138 rfl rfl ?_
      refine J.iconst (v := 0) dX12_oneLine_139 (by decide) ?_
      refine J.iast dX12_oneLine_140 (lt129 hs) (kk129 hs) hb1 ?_
      refine J.aload_n dX12_oneLine_141 rfl rfl ?_
      refine J.getR (r := 128) fl_X12_144 rfl dX12_oneLine_142 (lt83 hs) (kk83 hs) (rr83_56 hs) ?_
      refine J.iload_n dX12_oneLine_145 rfl rfl ?_
      refine J.iald (x := I8 128 x2.toNatClampNeg) dX12_oneLine_146 (lt128 hs) (kk128 hs) hb1 rfl ?_
      refine J.if_eq 205 dX12_oneLine_147 (by decide) (fun hc10 => ?_) (fun hc10 => ?_)
      · have hW := hW.1 hc10
        refine J.aload_n dX12_oneLine_205 rfl rfl ?_
        refine J.dup dX12_oneLine_206 rfl ?_
        refine J.getI (x := I8 83 54) fl_X12_367 rfl dX12_oneLine_207 (lt83 hs) (kk83 hs) rfl ?_
        refine J.iconst (v := 1) dX12_oneLine_210 (by decide) ?_
        refine J.iadd dX12_oneLine_211 ?_
        refine J.putI fw_X12_367 rfl dX12_oneLine_212 (lt83 hs) (kk83 hs) ?_
        refine J.aload_n dX12_oneLine_215 rfl rfl ?_
        refine J.bipush (v := 59) dX12_oneLine_216 (by decide) ?_
        refine J.callV (M' := mX12_need) (index := 377) (bc := 0) (bs := 0) (bc' := 0) (bs' := 0) (st := []) [.int 59] ml_X12_377 cv_X12_need dX12_oneLine_218 (lt83 hs) (kk83 hs) (by decide) rfl rfl rfl rfl (Nat.le_of_ble_eq_true rfl) (kqiL hW (fun r13 I11 L12 hW => ?_))
        obtain ⟨hz, hW⟩ := hW
        exact J.reti dX12_oneLine_221 rfl (bz_nar hz) hW
      · have hW := hW.2 hc10
        refine J.aload_n dX12_oneLine_150 rfl rfl ?_
        refine J.getI (x := I8 83 48) fl_X12_304 rfl dX12_oneLine_151 (lt83 hs) (kk83 hs) rfl ?_
        refine J.iconst (v := 3) dX12_oneLine_154 (by decide) ?_
        refine J.ic_eq 163 dX12_oneLine_155 (by decide) (fun hc14 => ?_) (fun hc14 => ?_)
        · have hW := hW.1 hc14
          refine J.aload_n dX12_oneLine_163 rfl rfl ?_
          refine J.getR (r := 128) fl_X12_144 rfl dX12_oneLine_164 (lt83 hs) (kk83 hs) (rr83_56 hs) ?_
          refine J.iload_n dX12_oneLine_167 rfl rfl ?_
          refine J.iald (x := I8 128 x2.toNatClampNeg) dX12_oneLine_168 (lt128 hs) (kk128 hs) hb1 rfl ?_
          refine J.iconst (v := 2) dX12_oneLine_169 (by decide) ?_
          refine J.ic_ne 191 dX12_oneLine_170 (by decide) (fun hc15 => ?_) (fun hc15 => ?_)
          · have hW := hW.2 hc15
            exact hW
          · have hW := hW.1 hc15
            refine J.aload_n dX12_oneLine_173 rfl rfl ?_
            refine J.getI (x := I8 83 49) fl_X12_297 rfl dX12_oneLine_174 (lt83 hs) (kk83 hs) rfl ?_
            refine J.bipush (v := 100) dX12_oneLine_177 (by decide) ?_
            refine J.ic_le 191 dX12_oneLine_179 (by decide) (fun hc16 => ?_) (fun hc16 => ?_)
            · have hW := hW.1 hc16
              exact hW
            · have hW := hW.2 hc16
              refine J.aload_n dX12_oneLine_182 rfl rfl ?_
              refine J.iconst (v := 2) dX12_oneLine_183 (by decide) ?_
              refine J.aload_n dX12_oneLine_184 rfl rfl ?_
              refine J.getI (x := I8 83 47) fl_X12_294 rfl dX12_oneLine_185 (lt83 hs) (kk83 hs) rfl ?_
              refine J.callV (M' := mX12_later) (index := 349) (bc := 0) (bs := 0) (bc' := 0) (bs' := 0) (st := []) [.int 2, .int (I8 83 47)] ml_X12_349 cv_X12_later dX12_oneLine_188 (lt83 hs) (kk83 hs) (by decide) rfl rfl rfl rfl (Nat.le_of_ble_eq_true rfl) (kqv hW (fun I17 hW => ?_))
              exact hW
        · have hW := hW.2 hc14
          refine J.aload_n dX12_oneLine_158 rfl rfl ?_
          refine J.callV (M' := mX12_wrong) (index := 316) (bc := 0) (bs := 0) (bc' := 0) (bs' := 0) (st := []) [] ml_X12_316 cv_X12_wrong dX12_oneLine_159 (lt83 hs) (kk83 hs) (by decide) rfl rfl rfl rfl (Nat.le_of_ble_eq_true rfl) (kqi hW (fun r19 I18 hW => ?_))
          obtain ⟨hz, hW⟩ := hW
          exact J.reti dX12_oneLine_162 rfl (bz_nar hz) hW
    · have hW := hW.1 hc7
      refine J.aload_n dX12_oneLine_125 rfl rfl ?_
      refine J.callV (M' := mX12_wrong) (index := 316) (bc := 0) (bs := 0) (bc' := 0) (bs' := 0) (st := []) [] ml_X12_316 cv_X12_wrong dX12_oneLine_126 (lt83 hs) (kk83 hs) (by decide) rfl rfl rfl rfl (Nat.le_of_ble_eq_true rfl) (kqi hW (fun r21 I20 hW => ?_))
      obtain ⟨hz, hW⟩ := hW
      exact J.reti dX12_oneLine_129 rfl (bz_nar hz) hW
  · have hc4 := bI_n0.mp hc4
    have hW := hW.1 hc4
    refine J.iconst (v := 1) dX12_oneLine_54 (by decide) ?_
    refine J.istore_n (vs' := [some (.ref (eB E + 83)), some (.int x1), some (.int x2), some (.int 1), none]) dX12_oneLine_55 rfl (by decide) rfl ?_
    refine J.iconst (v := 0) dX12_oneLine_56 (by decide) ?_
    refine J.istore (vs' := [some (.ref (eB E + 83)), some (.int x1), some (.int x2), some (.int 1), some (.int 0)]) dX12_oneLine_57 (by decide) rfl ?_
    exact hW
set_option maxRecDepth 100000 in
set_option maxHeartbeats 4000000 in
theorem w_X12_oneLine_59 {E : Envt} {d : Nat} {Q : Pst} {h : mS} {I : mI} {L : mL} (hs : SL h)    (x1 : Int32) (x2 : Int32) (x3 : Int32) (x4 : Int32)
    (hW : (((x3 = 0) → (CT E mX12_need (d + 2) 0 0 [.ref (eB E + 83), .int 58] h I L (qiL h fun r4 I2 L3 => (((r4 = 0) → Q (some (.int 0)) h I2 L3) ∧ (¬ (r4 = 0) → (CT E mX12_actWord (d + 2) 0 0 [.ref (eB E + 83), .int x1] h I2 L3 (qi h L3 fun r7 I6 => (vp_in x2 17 ∧ (((r7 = (-1)) → (CT E mX12_wrong (d + 2) 0 0 [.ref (eB E + 83)] h (uI I6 128 x2.toNatClampNeg r7) L3 (qi h L3 fun r23 I22 => (bz r23 ∧ Q (some (.int r23)) h I22 L3)))) ∧ (¬ (r7 = (-1)) → (CT E mX12_token (d + 2) 0 0 [.ref (eB E + 83)] h (uI I6 128 x2.toNatClampNeg r7) L3 (qvL h fun I10 L11 => ((((I10 128 x2.toNatClampNeg) = 0) → (CT E mX12_need (d + 2) 0 0 [.ref (eB E + 83), .int 59] h (uI (uI I10 129 x2.toNatClampNeg 0) 83 54 ((I10 83 54) + 1)) L11 (qiL h fun r15 I13 L14 => (bz r15 ∧ Q (some (.int r15)) h I13 L14)))) ∧ (¬ ((I10 128 x2.toNatClampNeg) = 0) → ((((I10 83 48) = 3) → ((((I10 128 x2.toNatClampNeg) = 2) → ((((I10 83 49) ≤ 100) → J E mX12_oneLine (d + 3) Q 0 0 191 [some (.ref (eB E + 83)), some (.int x1), some (.int x2), none, none] [] h (uI I10 129 x2.toNatClampNeg 0) L11) ∧ (¬ ((I10 83 49) ≤ 100) → (CT E mX12_later (d + 2) 0 0 [.ref (eB E + 83), .int 2, .int (I10 83 47)] h (uI I10 129 x2.toNatClampNeg 0) L11 (qv h L11 fun I19 => J E mX12_oneLine (d + 3) Q 0 0 191 [some (.ref (eB E + 83)), some (.int x1), some (.int x2), none, none] [] h I19 L11))))) ∧ (¬ ((I10 128 x2.toNatClampNeg) = 2) → J E mX12_oneLine (d + 3) Q 0 0 191 [some (.ref (eB E + 83)), some (.int x1), some (.int x2), none, none] [] h (uI I10 129 x2.toNatClampNeg 0) L11))) ∧ (¬ ((I10 83 48) = 3) → (CT E mX12_wrong (d + 2) 0 0 [.ref (eB E + 83)] h (uI I10 129 x2.toNatClampNeg 0) L11 (qi h L11 fun r21 I20 => (bz r21 ∧ Q (some (.int r21)) h I20 L11))))))))))))))))))) ∧ (¬ (x3 = 0) → (CT E mX12_token (d + 2) 0 0 [.ref (eB E + 83)] h I L (qvL h fun I24 L25 => (CT E mX12_test (d + 2) 0 0 [.ref (eB E + 83), .int x2, .int x4] h I24 L25 (qiL h fun r28 I26 L27 => (((r28 = 0) → Q (some (.int 0)) h I26 L27) ∧ (¬ (r28 = 0) → J E mX12_oneLine (d + 3) Q 0 0 59 [some (.ref (eB E + 83)), some (.int x1), some (.int x2), some (.int (bI (((I26 83 48) = 2) ∧ ((lg_cmp (L27 83 50) 6385252) = 0)))), some (.int (x4 + 1))] [] h I26 L27))))))))) :
    J E mX12_oneLine (d + 3) Q 0 0 59 [some (.ref (eB E + 83)), some (.int x1), some (.int x2), some (.int x3), some (.int x4)] [] h I L := by
  refine J.iload_n dX12_oneLine_59 rfl rfl ?_
  refine J.if_eq 93 dX12_oneLine_60 (by decide) (fun hc1 => ?_) (fun hc1 => ?_)
  · have hW := hW.1 hc1
    refine J.aload_n dX12_oneLine_93 rfl rfl ?_
    refine J.bipush (v := 58) dX12_oneLine_94 (by decide) ?_
    refine J.callV (M' := mX12_need) (index := 377) (bc := 0) (bs := 0) (bc' := 0) (bs' := 0) (st := []) [.int 58] ml_X12_377 cv_X12_need dX12_oneLine_96 (lt83 hs) (kk83 hs) (by decide) rfl rfl rfl rfl (Nat.le_of_ble_eq_true rfl) (kqiL hW (fun r4 I2 L3 hW => ?_))
    refine J.if_ne 104 dX12_oneLine_99 (by decide) (fun hc5 => ?_) (fun hc5 => ?_)
    · have hW := hW.2 hc5
      refine J.aload_n dX12_oneLine_104 rfl rfl ?_
      refine J.getR (r := 128) fl_X12_144 rfl dX12_oneLine_105 (lt83 hs) (kk83 hs) (rr83_56 hs) ?_
      refine J.iload_n dX12_oneLine_108 rfl rfl ?_
      refine J.aload_n dX12_oneLine_109 rfl rfl ?_
      refine J.iload_n dX12_oneLine_110 rfl rfl ?_
      refine J.callV (M' := mX12_actWord) (index := 380) (bc := 0) (bs := 0) (bc' := 0) (bs' := 0) (st := [.int x2, .ref (eB E + 128)]) [.int x1] ml_X12_380 cv_X12_actWord dX12_oneLine_111 (lt83 hs) (kk83 hs) (by decide) rfl rfl rfl rfl (Nat.le_of_ble_eq_true rfl) (kqi hW (fun r7 I6 hW => ?_))
      obtain ⟨hb8, hW⟩ := hW
      refine J.iast dX12_oneLine_114 (lt128 hs) (kk128 hs) hb8 ?_
      refine J.aload_n dX12_oneLine_115 rfl rfl ?_
      refine J.getR (r := 128) fl_X12_144 rfl dX12_oneLine_116 (lt83 hs) (kk83 hs) (rr83_56 hs) ?_
      refine J.iload_n dX12_oneLine_119 rfl rfl ?_
      refine J.iald (x := r7) dX12_oneLine_120 (lt128 hs) (kk128 hs) hb8 (by simp [uI]) ?_
      refine J.iconst (v := (-1)) dX12_oneLine_121 (by decide) ?_
      refine J.ic_ne 130 dX12_oneLine_122 (by decide) (fun hc9 => ?_) (fun hc9 => ?_)
      · have hW := hW.2 hc9
        refine J.aload_n dX12_oneLine_130 rfl rfl ?_
        refine J.callV (M' := mX12_token) (index := 320) (bc := 0) (bs := 0) (bc' := 0) (bs' := 0) (st := []) [] ml_X12_320 cv_X12_token dX12_oneLine_131 (lt83 hs) (kk83 hs) (by decide) rfl rfl rfl rfl (Nat.le_of_ble_eq_true rfl) (kqvL hW (fun I10 L11 hW => ?_))
        refine J.aload_n dX12_oneLine_134 rfl rfl ?_
        refine J.getR (r := 129) fl_X12_147 rfl dX12_oneLine_135 (lt83 hs) (kk83 hs) (rr83_57 hs) ?_
        refine J.iload_n dX12_oneLine_138 rfl rfl ?_
        refine J.iconst (v := 0) dX12_oneLine_139 (by decide) ?_
        refine J.iast dX12_oneLine_140 (lt129 hs) (kk129 hs) hb8 ?_
        refine J.aload_n dX12_oneLine_141 rfl rfl ?_
        refine J.getR (r := 128) fl_X12_144 rfl dX12_oneLine_142 (lt83 hs) (kk83 hs) (rr83_56 hs) ?_
        refine J.iload_n dX12_oneLine_145 rfl rfl ?_
        refine J.iald (x := I10 128 x2.toNatClampNeg) dX12_oneLine_146 (lt128 hs) (kk128 hs) hb8 rfl ?_
        refine J.if_eq 205 dX12_oneLine_147 (by decide) (fun hc12 => ?_) (fun hc12 => ?_)
        · have hW := hW.1 hc12
          refine J.aload_n dX12_oneLine_205 rfl rfl ?_
          refine J.dup dX12_oneLine_206 rfl ?_
          refine J.getI (x := I10 83 54) fl_X12_367 rfl dX12_oneLine_207 (lt83 hs) (kk83 hs) rfl ?_
          refine J.iconst (v := 1) dX12_oneLine_210 (by decide) ?_
          refine J.iadd dX12_oneLine_211 ?_
          refine J.putI fw_X12_367 rfl dX12_oneLine_212 (lt83 hs) (kk83 hs) ?_
          refine J.aload_n dX12_oneLine_215 rfl rfl ?_
          refine J.bipush (v := 59) dX12_oneLine_216 (by decide) ?_
          refine J.callV (M' := mX12_need) (index := 377) (bc := 0) (bs := 0) (bc' := 0) (bs' := 0) (st := []) [.int 59] ml_X12_377 cv_X12_need dX12_oneLine_218 (lt83 hs) (kk83 hs) (by decide) rfl rfl rfl rfl (Nat.le_of_ble_eq_true rfl) (kqiL hW (fun r15 I13 L14 hW => ?_))
          obtain ⟨hz, hW⟩ := hW
          exact J.reti dX12_oneLine_221 rfl (bz_nar hz) hW
        · have hW := hW.2 hc12
          refine J.aload_n dX12_oneLine_150 rfl rfl ?_
          refine J.getI (x := I10 83 48) fl_X12_304 rfl dX12_oneLine_151 (lt83 hs) (kk83 hs) rfl ?_
          refine J.iconst (v := 3) dX12_oneLine_154 (by decide) ?_
          refine J.ic_eq 163 dX12_oneLine_155 (by decide) (fun hc16 => ?_) (fun hc16 => ?_)
          · have hW := hW.1 hc16
            refine J.aload_n dX12_oneLine_163 rfl rfl ?_
            refine J.getR (r := 128) fl_X12_144 rfl dX12_oneLine_164 (lt83 hs) (kk83 hs) (rr83_56 hs) ?_
            refine J.iload_n dX12_oneLine_167 rfl rfl ?_
            refine J.iald (x := I10 128 x2.toNatClampNeg) dX12_oneLine_168 (lt128 hs) (kk128 hs) hb8 rfl ?_
            refine J.iconst (v := 2) dX12_oneLine_169 (by decide) ?_
            refine J.ic_ne 191 dX12_oneLine_170 (by decide) (fun hc17 => ?_) (fun hc17 => ?_)
            · have hW := hW.2 hc17
              exact J.mask [true, true, true, false, false] rfl hW
            · have hW := hW.1 hc17
              refine J.aload_n dX12_oneLine_173 rfl rfl ?_
              refine J.getI (x := I10 83 49) fl_X12_297 rfl dX12_oneLine_174 (lt83 hs) (kk83 hs) rfl ?_
              refine J.bipush (v := 100) dX12_oneLine_177 (by decide) ?_
              refine J.ic_le 191 dX12_oneLine_179 (by decide) (fun hc18 => ?_) (fun hc18 => ?_)
              · have hW := hW.1 hc18
                exact J.mask [true, true, true, false, false] rfl hW
              · have hW := hW.2 hc18
                refine J.aload_n dX12_oneLine_182 rfl rfl ?_
                refine J.iconst (v := 2) dX12_oneLine_183 (by decide) ?_
                refine J.aload_n dX12_oneLine_184 rfl rfl ?_
                refine J.getI (x := I10 83 47) fl_X12_294 rfl dX12_oneLine_185 (lt83 hs) (kk83 hs) rfl ?_
                refine J.callV (M' := mX12_later) (index := 349) (bc := 0) (bs := 0) (bc' := 0) (bs' := 0) (st := []) [.int 2, .int (I10 83 47)] ml_X12_349 cv_X12_later dX12_oneLine_188 (lt83 hs) (kk83 hs) (by decide) rfl rfl rfl rfl (Nat.le_of_ble_eq_true rfl) (kqv hW (fun I19 hW => ?_))
                exact J.mask [true, true, true, false, false] rfl hW
          · have hW := hW.2 hc16
            refine J.aload_n dX12_oneLine_158 rfl rfl ?_
            refine J.callV (M' := mX12_wrong) (index := 316) (bc := 0) (bs := 0) (bc' := 0) (bs' := 0) (st := []) [] ml_X12_316 cv_X12_wrong dX12_oneLine_159 (lt83 hs) (kk83 hs) (by decide) rfl rfl rfl rfl (Nat.le_of_ble_eq_true rfl) (kqi hW (fun r21 I20 hW => ?_))
            obtain ⟨hz, hW⟩ := hW
            exact J.reti dX12_oneLine_162 rfl (bz_nar hz) hW
      · have hW := hW.1 hc9
        refine J.aload_n dX12_oneLine_125 rfl rfl ?_
        refine J.callV (M' := mX12_wrong) (index := 316) (bc := 0) (bs := 0) (bc' := 0) (bs' := 0) (st := []) [] ml_X12_316 cv_X12_wrong dX12_oneLine_126 (lt83 hs) (kk83 hs) (by decide) rfl rfl rfl rfl (Nat.le_of_ble_eq_true rfl) (kqi hW (fun r23 I22 hW => ?_))
        obtain ⟨hz, hW⟩ := hW
        exact J.reti dX12_oneLine_129 rfl (bz_nar hz) hW
    · have hW := hW.1 hc5
      refine J.iconst (v := 0) dX12_oneLine_102 (by decide) ?_
      exact J.reti dX12_oneLine_103 rfl (bz_nar (Or.inl rfl)) hW
  · have hW := hW.2 hc1
    refine J.aload_n dX12_oneLine_63 rfl rfl ?_
    refine J.callV (M' := mX12_token) (index := 320) (bc := 0) (bs := 0) (bc' := 0) (bs' := 0) (st := []) [] ml_X12_320 cv_X12_token dX12_oneLine_64 (lt83 hs) (kk83 hs) (by decide) rfl rfl rfl rfl (Nat.le_of_ble_eq_true rfl) (kqvL hW (fun I24 L25 hW => ?_))
    refine J.aload_n dX12_oneLine_67 rfl rfl ?_
    refine J.iload_n dX12_oneLine_68 rfl rfl ?_
    refine J.iload dX12_oneLine_69 rfl ?_
    refine J.callV (M' := mX12_test) (index := 372) (bc := 0) (bs := 0) (bc' := 0) (bs' := 0) (st := []) [.int x2, .int x4] ml_X12_372 cv_X12_test dX12_oneLine_71 (lt83 hs) (kk83 hs) (by decide) rfl rfl rfl rfl (Nat.le_of_ble_eq_true rfl) (kqiL hW (fun r28 I26 L27 hW => ?_))
    refine J.if_ne 79 dX12_oneLine_74 (by decide) (fun hc29 => ?_) (fun hc29 => ?_)
    · have hW := hW.2 hc29
      refine J.aload_n dX12_oneLine_79 rfl rfl ?_
      refine J.ldc2 (v := 6385252) dX12_oneLine_80 ck_X12_375 ?_
      refine J.callV (M' := mX12_isWord) (index := 325) (bc := 0) (bs := 0) (bc' := 0) (bs' := 0) (st := []) [.long 6385252] ml_X12_325 cv_X12_isWord dX12_oneLine_83 (lt83 hs) (kk83 hs) (by decide) rfl rfl rfl rfl (Nat.le_of_ble_eq_true rfl) (kqi (w_X12_isWord (d := d + 2) (Q := qi h L27 (fun v I' => I' = I26 ∧ v = bI (((I26 83 48) = 2) ∧ ((lg_cmp (L27 83 50) 6385252) = 0)))) hs 6385252 ⟨rfl, rfl, _, rfl, rfl, rfl⟩) (fun v30 I31 hv => ?_))
      rw [hv.1, hv.2]
      refine J.istore_n (vs' := [some (.ref (eB E + 83)), some (.int x1), some (.int x2), some (.int (bI (((I26 83 48) = 2) ∧ ((lg_cmp (L27 83 50) 6385252) = 0)))), some (.int x4)]) dX12_oneLine_86 rfl (by decide) rfl ?_
      refine J.iinc (v := x4 + 1) (vs' := [some (.ref (eB E + 83)), some (.int x1), some (.int x2), some (.int (bI (((I26 83 48) = 2) ∧ ((lg_cmp (L27 83 50) 6385252) = 0)))), some (.int (x4 + 1))]) dX12_oneLine_87 rfl (by rfl) (by decide) rfl ?_
      refine J.goto 59 dX12_oneLine_90 (by decide) ?_
      exact hW
    · have hW := hW.1 hc29
      refine J.iconst (v := 0) dX12_oneLine_77 (by decide) ?_
      exact J.reti dX12_oneLine_78 rfl (bz_nar (Or.inl rfl)) hW
set_option maxRecDepth 100000 in
set_option maxHeartbeats 4000000 in
theorem w_X12_oneLine_191 {E : Envt} {d : Nat} {Q : Pst} {h : mS} {I : mI} {L : mL} (hs : SL h)    (x1 : Int32) (x2 : Int32)
    (hW : (vp_in x2 17 ∧ (CT E mX12_token (d + 2) 0 0 [.ref (eB E + 83)] h (uI I 129 x2.toNatClampNeg (I 83 49)) L (qvL h fun I2 L3 => (CT E mX12_need (d + 2) 0 0 [.ref (eB E + 83), .int 59] h (uI I2 83 54 ((I2 83 54) + 1)) L3 (qiL h fun r6 I4 L5 => (bz r6 ∧ Q (some (.int r6)) h I4 L5))))))) :
    J E mX12_oneLine (d + 3) Q 0 0 191 [some (.ref (eB E + 83)), some (.int x1), some (.int x2), none, none] [] h I L := by
  refine J.aload_n dX12_oneLine_191 rfl rfl ?_
  refine J.getR (r := 129) fl_X12_147 rfl dX12_oneLine_192 (lt83 hs) (kk83 hs) (rr83_57 hs) ?_
  refine J.iload_n dX12_oneLine_195 rfl rfl ?_
  refine J.aload_n dX12_oneLine_196 rfl rfl ?_
  refine J.getI (x := I 83 49) fl_X12_297 rfl dX12_oneLine_197 (lt83 hs) (kk83 hs) rfl ?_
  obtain ⟨hb1, hW⟩ := hW
  refine J.iast dX12_oneLine_200 (lt129 hs) (kk129 hs) hb1 ?_
  refine J.aload_n dX12_oneLine_201 rfl rfl ?_
  refine J.callV (M' := mX12_token) (index := 320) (bc := 0) (bs := 0) (bc' := 0) (bs' := 0) (st := []) [] ml_X12_320 cv_X12_token dX12_oneLine_202 (lt83 hs) (kk83 hs) (by decide) rfl rfl rfl rfl (Nat.le_of_ble_eq_true rfl) (kqvL hW (fun I2 L3 hW => ?_))
  refine J.aload_n dX12_oneLine_205 rfl rfl ?_
  refine J.dup dX12_oneLine_206 rfl ?_
  refine J.getI (x := I2 83 54) fl_X12_367 rfl dX12_oneLine_207 (lt83 hs) (kk83 hs) rfl ?_
  refine J.iconst (v := 1) dX12_oneLine_210 (by decide) ?_
  refine J.iadd dX12_oneLine_211 ?_
  refine J.putI fw_X12_367 rfl dX12_oneLine_212 (lt83 hs) (kk83 hs) ?_
  refine J.aload_n dX12_oneLine_215 rfl rfl ?_
  refine J.bipush (v := 59) dX12_oneLine_216 (by decide) ?_
  refine J.callV (M' := mX12_need) (index := 377) (bc := 0) (bs := 0) (bc' := 0) (bs' := 0) (st := []) [.int 59] ml_X12_377 cv_X12_need dX12_oneLine_218 (lt83 hs) (kk83 hs) (by decide) rfl rfl rfl rfl (Nat.le_of_ble_eq_true rfl) (kqiL hW (fun r6 I4 L5 hW => ?_))
  obtain ⟨hz, hW⟩ := hW
  exact J.reti dX12_oneLine_221 rfl (bz_nar hz) hW
set_option maxRecDepth 100000 in
set_option maxHeartbeats 4000000 in
theorem w_X12_text {E : Envt} {d : Nat} {Q : Pst} {h : mS} {I : mI} {L : mL} (hs : SL h) (x1 : Int32) 
    (hW : (((¬ (x1 < 0) ∧ (¬ (6 < x1))) → (CT E mX12_token (d + 3) 0 0 [.ref (eB E + 83)] h (uI (uI (uI (uI (uI (uI (uI (uI (uI I 83 0 0) 83 46 (I 85 0)) 85 0 0) 86 0 0) 87 0 (-1)) 83 45 0) 83 51 (-1)) 83 52 0) 83 54 0) L (qvL h fun I4 L5 => J E mX12_text (d + 4) Q 0 0 75 [some (.ref (eB E + 83)), some (.int x1), some (.int 1), none, none, none] [] h I4 L5))) ∧ (¬ (¬ (x1 < 0) ∧ (¬ (6 < x1))) → Q (some (.int (-2))) h (uI (uI (uI (uI (uI I 83 0 0) 83 46 (I 85 0)) 85 0 0) 86 0 0) 87 0 (-1)) L))) :
    CT E mX12_text (d + 4) 0 0 [.ref (eB E + 83), .int x1] h I L Q := by
  refine CT.of (by decide) [some (.ref (eB E + 83)), some (.int x1), none, none, none, none] rfl (Nat.le_of_ble_eq_true rfl) ?_
  refine J.aload_n dX12_text_0 rfl rfl ?_
  refine J.iconst (v := 0) dX12_text_1 (by decide) ?_
  refine J.putI fw_X12_202 rfl dX12_text_2 (lt83 hs) (kk83 hs) ?_
  refine J.aload_n dX12_text_5 rfl rfl ?_
  refine J.aload_n dX12_text_6 rfl rfl ?_
  refine J.getR (r := 85) fl_X12_13 rfl dX12_text_7 (lt83 hs) (kk83 hs) (rr83_2 hs) ?_
  refine J.iconst (v := 0) dX12_text_10 (by decide) ?_
  refine J.iald (x := I 85 0) dX12_text_11 (lt85 hs) (kk85 hs) (by unfold vp_in; decide) rfl ?_
  refine J.putI fw_X12_287 rfl dX12_text_12 (lt83 hs) (kk83 hs) ?_
  refine J.aload_n dX12_text_15 rfl rfl ?_
  refine J.getR (r := 85) fl_X12_13 rfl dX12_text_16 (lt83 hs) (kk83 hs) (rr83_2 hs) ?_
  refine J.iconst (v := 0) dX12_text_19 (by decide) ?_
  refine J.iconst (v := 0) dX12_text_20 (by decide) ?_
  refine J.iast dX12_text_21 (lt85 hs) (kk85 hs) (by unfold vp_in; decide) ?_
  refine J.aload_n dX12_text_22 rfl rfl ?_
  refine J.getR (r := 86) fl_X12_17 rfl dX12_text_23 (lt83 hs) (kk83 hs) (rr83_3 hs) ?_
  refine J.iconst (v := 0) dX12_text_26 (by decide) ?_
  refine J.iconst (v := 0) dX12_text_27 (by decide) ?_
  refine J.iast dX12_text_28 (lt86 hs) (kk86 hs) (by unfold vp_in; decide) ?_
  refine J.aload_n dX12_text_29 rfl rfl ?_
  refine J.getR (r := 87) fl_X12_20 rfl dX12_text_30 (lt83 hs) (kk83 hs) (rr83_4 hs) ?_
  refine J.iconst (v := 0) dX12_text_33 (by decide) ?_
  refine J.iconst (v := (-1)) dX12_text_34 (by decide) ?_
  refine J.iast dX12_text_35 (lt87 hs) (kk87 hs) (by unfold vp_in; decide) ?_
  refine J.iload_n dX12_text_36 rfl rfl ?_
  refine J.iconst (v := 0) dX12_text_37 (by decide) ?_
  refine J.bipush (v := 6) dX12_text_38 (by decide) ?_
  refine J.callS (M' := mX12_in) (index := 218) (bc := 0) (bs := 0) (bc' := 0) (bs' := 0) (st := []) [.int x1, .int 0, .int 6] ml_X12_218 cv_X12_in dX12_text_40 rfl rfl (Nat.le_of_ble_eq_true rfl) (kqi (w_X12_in (d := d + 3) (Q := qi h L (fun v I' => I' = (uI (uI (uI (uI (uI I 83 0 0) 83 46 (I 85 0)) 85 0 0) 86 0 0) 87 0 (-1)) ∧ v = bI (¬ (x1 < 0) ∧ (¬ (6 < x1))))) hs x1 0 6 ⟨rfl, rfl, _, rfl, rfl, rfl⟩) (fun v1 I2 hv => ?_))
  rw [hv.1, hv.2]
  refine J.if_ne 49 dX12_text_43 (by decide) (fun hc3 => ?_) (fun hc3 => ?_)
  · have hc3 := bI_n0.mp hc3
    have hW := hW.1 hc3
    refine J.aload_n dX12_text_49 rfl rfl ?_
    refine J.iconst (v := 0) dX12_text_50 (by decide) ?_
    refine J.putI fw_X12_284 rfl dX12_text_51 (lt83 hs) (kk83 hs) ?_
    refine J.aload_n dX12_text_54 rfl rfl ?_
    refine J.iconst (v := (-1)) dX12_text_55 (by decide) ?_
    refine J.putI fw_X12_307 rfl dX12_text_56 (lt83 hs) (kk83 hs) ?_
    refine J.aload_n dX12_text_59 rfl rfl ?_
    refine J.iconst (v := 0) dX12_text_60 (by decide) ?_
    refine J.putI fw_X12_310 rfl dX12_text_61 (lt83 hs) (kk83 hs) ?_
    refine J.aload_n dX12_text_64 rfl rfl ?_
    refine J.iconst (v := 0) dX12_text_65 (by decide) ?_
    refine J.putI fw_X12_367 rfl dX12_text_66 (lt83 hs) (kk83 hs) ?_
    refine J.iconst (v := 1) dX12_text_69 (by decide) ?_
    refine J.istore_n (vs' := [some (.ref (eB E + 83)), some (.int x1), some (.int 1), none, none, none]) dX12_text_70 rfl (by decide) rfl ?_
    refine J.aload_n dX12_text_71 rfl rfl ?_
    refine J.callV (M' := mX12_token) (index := 320) (bc := 0) (bs := 0) (bc' := 0) (bs' := 0) (st := []) [] ml_X12_320 cv_X12_token dX12_text_72 (lt83 hs) (kk83 hs) (by decide) rfl rfl rfl rfl (Nat.le_of_ble_eq_true rfl) (kqvL hW (fun I4 L5 hW => ?_))
    exact hW
  · have hc3 := bI_0.mp hc3
    have hW := hW.2 hc3
    refine J.bipush (v := (-2)) dX12_text_46 (by decide) ?_
    exact J.reti dX12_text_48 rfl rfl hW
set_option maxRecDepth 100000 in
set_option maxHeartbeats 4000000 in
theorem w_X12_text_75 {E : Envt} {d : Nat} {Q : Pst} {h : mS} {I : mI} {L : mL} (hs : SL h)    (x1 : Int32) (x2 : Int32)
    (hW : (((x2 = 0) → J E mX12_text (d + 4) Q 0 0 104 [some (.ref (eB E + 83)), some (.int x1), some (.int x2), none, none, none] [] h I L) ∧ (¬ (x2 = 0) → ((((I 83 48) = 0) → J E mX12_text (d + 4) Q 0 0 104 [some (.ref (eB E + 83)), some (.int x1), some (.int x2), none, none, none] [] h I L) ∧ (¬ ((I 83 48) = 0) → (CT E mX12_oneLine (d + 3) 0 0 [.ref (eB E + 83), .int (bI (¬ (x1 < 5)))] h I L (qiL h fun r6 I4 L5 => J E mX12_text (d + 4) Q 0 0 75 [some (.ref (eB E + 83)), some (.int x1), some (.int r6), none, none, none] [] h I4 L5))))))) :
    J E mX12_text (d + 4) Q 0 0 75 [some (.ref (eB E + 83)), some (.int x1), some (.int x2), none, none, none] [] h I L := by
  refine J.iload_n dX12_text_75 rfl rfl ?_
  refine J.if_eq 104 dX12_text_76 (by decide) (fun hc1 => ?_) (fun hc1 => ?_)
  · have hW := hW.1 hc1
    exact hW
  · have hW := hW.2 hc1
    refine J.aload_n dX12_text_79 rfl rfl ?_
    refine J.getI (x := I 83 48) fl_X12_304 rfl dX12_text_80 (lt83 hs) (kk83 hs) rfl ?_
    refine J.if_eq 104 dX12_text_83 (by decide) (fun hc2 => ?_) (fun hc2 => ?_)
    · have hW := hW.1 hc2
      exact hW
    · have hW := hW.2 hc2
      refine J.aload_n dX12_text_86 rfl rfl ?_
      refine J.iload_n dX12_text_87 rfl rfl ?_
      refine J.iconst (v := 5) dX12_text_88 (by decide) ?_
      have hj : J E mX12_text (d + 4) Q 0 0 97 [some (.ref (eB E + 83)), some (.int x1), some (.int x2), none, none, none] [.int (bI (¬ (x1 < 5))), .ref (eB E + 83)] h I L := by
        refine J.callV (M' := mX12_oneLine) (index := 384) (bc := 0) (bs := 0) (bc' := 0) (bs' := 0) (st := []) [.int (bI (¬ (x1 < 5)))] ml_X12_384 cv_X12_oneLine dX12_text_97 (lt83 hs) (kk83 hs) (by decide) rfl rfl rfl rfl (Nat.le_of_ble_eq_true rfl) (kqiL hW (fun r6 I4 L5 hW => ?_))
        refine J.istore_n (vs' := [some (.ref (eB E + 83)), some (.int x1), some (.int r6), none, none, none]) dX12_text_100 rfl (by decide) rfl ?_
        refine J.goto 75 dX12_text_101 (by decide) ?_
        exact hW
      refine J.ic_lt 96 dX12_text_89 (by decide) (fun hc3 => ?_) (fun hc3 => ?_)
      · refine J.iconst (v := 0) dX12_text_96 (by decide) ?_
        rw [show bI (¬ (x1 < 5)) = 0 from bI_f (by simp only [eq_true hc3, and_true, true_and, and_false, false_and, or_true, true_or, or_false, false_or, not_true_eq_false, not_false_eq_true])] at hj
        exact hj
      · refine J.iconst (v := 1) dX12_text_92 (by decide) ?_
        refine J.goto 97 dX12_text_93 (by decide) ?_
        rw [show bI (¬ (x1 < 5)) = 1 from bI_t (by simp only [eq_false hc3, and_true, true_and, and_false, false_and, or_true, true_or, or_false, false_or, not_true_eq_false, not_false_eq_true])] at hj
        exact hj
set_option maxRecDepth 100000 in
set_option maxHeartbeats 4000000 in
theorem w_X12_text_104 {E : Envt} {d : Nat} {Q : Pst} {h : mS} {I : mI} {L : mL} (hs : SL h)    (x1 : Int32) (x2 : Int32)
    (hW : (((x2 = 0) → J E mX12_text (d + 4) Q 0 0 115 [some (.ref (eB E + 83)), some (.int x1), some (.int x2), none, none, none] [] h I L) ∧ (¬ (x2 = 0) → ((((I 83 52) ≤ 0) → (vp_in x1 268 ∧ J E mX12_text (d + 4) Q 0 0 168 [some (.ref (eB E + 83)), some (.int x1), some (.int x2), some (.int 0), none, none] [] h (uI I 116 x1.toNatClampNeg (I 83 54)) L)) ∧ (¬ ((I 83 52) ≤ 0) → J E mX12_text (d + 4) Q 0 0 115 [some (.ref (eB E + 83)), some (.int x1), some (.int x2), none, none, none] [] h I L))))) :
    J E mX12_text (d + 4) Q 0 0 104 [some (.ref (eB E + 83)), some (.int x1), some (.int x2), none, none, none] [] h I L := by
  refine J.iload_n dX12_text_104 rfl rfl ?_
  refine J.if_eq 115 dX12_text_105 (by decide) (fun hc1 => ?_) (fun hc1 => ?_)
  · have hW := hW.1 hc1
    exact hW
  · have hW := hW.2 hc1
    refine J.aload_n dX12_text_108 rfl rfl ?_
    refine J.getI (x := I 83 52) fl_X12_310 rfl dX12_text_109 (lt83 hs) (kk83 hs) rfl ?_
    refine J.if_le 156 dX12_text_112 (by decide) (fun hc2 => ?_) (fun hc2 => ?_)
    · have hW := hW.1 hc2
      refine J.aload_n dX12_text_156 rfl rfl ?_
      refine J.getR (r := 116) fl_X12_108 rfl dX12_text_157 (lt83 hs) (kk83 hs) (rr83_33 hs) ?_
      refine J.iload_n dX12_text_160 rfl rfl ?_
      refine J.aload_n dX12_text_161 rfl rfl ?_
      refine J.getI (x := I 83 54) fl_X12_367 rfl dX12_text_162 (lt83 hs) (kk83 hs) rfl ?_
      obtain ⟨hb3, hW⟩ := hW
      refine J.iast dX12_text_165 (lt116 hs) (kk116 hs) hb3 ?_
      refine J.iconst (v := 0) dX12_text_166 (by decide) ?_
      refine J.istore_n (vs' := [some (.ref (eB E + 83)), some (.int x1), some (.int x2), some (.int 0), none, none]) dX12_text_167 rfl (by decide) rfl ?_
      exact hW
    · have hW := hW.2 hc2
      exact hW
set_option maxRecDepth 100000 in
set_option maxHeartbeats 4000000 in
theorem w_X12_text_115 {E : Envt} {d : Nat} {Q : Pst} {h : mS} {I : mI} {L : mL} (hs : SL h)    (x1 : Int32) (x2 : Int32)
    (hW : Q (some (.int (-1))) h (uI (uI I 86 0 (if x2 = 0 then 1 else I 83 52 : Int32)) 87 0 (if x2 = 0 then I 83 51 else I 83 53 : Int32)) L) :
    J E mX12_text (d + 4) Q 0 0 115 [some (.ref (eB E + 83)), some (.int x1), some (.int x2), none, none, none] [] h I L := by
  refine J.aload_n dX12_text_115 rfl rfl ?_
  refine J.getR (r := 86) fl_X12_17 rfl dX12_text_116 (lt83 hs) (kk83 hs) (rr83_3 hs) ?_
  refine J.iconst (v := 0) dX12_text_119 (by decide) ?_
  refine J.iload_n dX12_text_120 rfl rfl ?_
  have hj : J E mX12_text (d + 4) Q 0 0 132 [some (.ref (eB E + 83)), some (.int x1), some (.int x2), none, none, none] [.int (if x2 = 0 then 1 else I 83 52 : Int32), .int 0, .ref (eB E + 86)] h I L := by
    refine J.iast dX12_text_132 (lt86 hs) (kk86 hs) (by unfold vp_in; decide) ?_
    refine J.aload_n dX12_text_133 rfl rfl ?_
    refine J.getR (r := 87) fl_X12_20 rfl dX12_text_134 (lt83 hs) (kk83 hs) (rr83_4 hs) ?_
    refine J.iconst (v := 0) dX12_text_137 (by decide) ?_
    refine J.iload_n dX12_text_138 rfl rfl ?_
    have hj : J E mX12_text (d + 4) Q 0 0 153 [some (.ref (eB E + 83)), some (.int x1), some (.int x2), none, none, none] [.int (if x2 = 0 then I 83 51 else I 83 53 : Int32), .int 0, .ref (eB E + 87)] h (uI I 86 0 (if x2 = 0 then 1 else I 83 52 : Int32)) L := by
      refine J.iast dX12_text_153 (lt87 hs) (kk87 hs) (by unfold vp_in; decide) ?_
      refine J.iconst (v := (-1)) dX12_text_154 (by decide) ?_
      exact J.reti dX12_text_155 rfl rfl hW
    refine J.if_eq 149 dX12_text_139 (by decide) (fun hc2 => ?_) (fun hc2 => ?_)
    · refine J.aload_n dX12_text_149 rfl rfl ?_
      refine J.getI (x := I 83 51) fl_X12_307 rfl dX12_text_150 (lt83 hs) (kk83 hs) rfl ?_
      rw [show ((if x2 = 0 then I 83 51 else I 83 53 : Int32) = I 83 51) from by simp only [eq_true hc2, if_true, if_false, bI_true, bI_false, and_true, true_and, and_false, false_and, or_true, true_or, or_false, false_or, not_true_eq_false, not_false_eq_true]] at hj
      exact hj
    · refine J.aload_n dX12_text_142 rfl rfl ?_
      refine J.getI (x := I 83 53) fl_X12_313 rfl dX12_text_143 (lt83 hs) (kk83 hs) rfl ?_
      refine J.goto 153 dX12_text_146 (by decide) ?_
      rw [show ((if x2 = 0 then I 83 51 else I 83 53 : Int32) = I 83 53) from by simp only [eq_false hc2, if_true, if_false, bI_true, bI_false, and_true, true_and, and_false, false_and, or_true, true_or, or_false, false_or, not_true_eq_false, not_false_eq_true]] at hj
      exact hj
  refine J.if_eq 131 dX12_text_121 (by decide) (fun hc1 => ?_) (fun hc1 => ?_)
  · refine J.iconst (v := 1) dX12_text_131 (by decide) ?_
    rw [show ((if x2 = 0 then 1 else I 83 52 : Int32) = 1) from by simp only [eq_true hc1, if_true, if_false, bI_true, bI_false, and_true, true_and, and_false, false_and, or_true, true_or, or_false, false_or, not_true_eq_false, not_false_eq_true]] at hj
    exact hj
  · refine J.aload_n dX12_text_124 rfl rfl ?_
    refine J.getI (x := I 83 52) fl_X12_310 rfl dX12_text_125 (lt83 hs) (kk83 hs) rfl ?_
    refine J.goto 132 dX12_text_128 (by decide) ?_
    rw [show ((if x2 = 0 then 1 else I 83 52 : Int32) = I 83 52) from by simp only [eq_false hc1, if_true, if_false, bI_true, bI_false, and_true, true_and, and_false, false_and, or_true, true_or, or_false, false_or, not_true_eq_false, not_false_eq_true]] at hj
    exact hj
set_option maxRecDepth 100000 in
set_option maxHeartbeats 4000000 in
theorem w_X12_text_168 {E : Envt} {d : Nat} {Q : Pst} {h : mS} {I : mI} {L : mL} (hs : SL h)    (x1 : Int32) (x2 : Int32) (x3 : Int32)
    (hW : ((((I 83 54) ≤ x3) → Q (some (.int (I 83 54))) h I L) ∧ (¬ ((I 83 54) ≤ x3) → (vp_in x3 17 ∧ (vp_in ((16 * x1) + x3) 4288 ∧ J E mX12_text (d + 4) Q 0 0 226 [some (.ref (eB E + 83)), some (.int x1), some (.int x2), some (.int x3), some (.int ((16 * x1) + x3)), some (.int 0)] [] h (uI (uI (uI I 117 (((16 * x1) + x3).toNatClampNeg) (I 127 x3.toNatClampNeg)) 118 (((16 * x1) + x3).toNatClampNeg) (I 128 x3.toNatClampNeg)) 119 (((16 * x1) + x3).toNatClampNeg) (I 129 x3.toNatClampNeg)) L))))) :
    J E mX12_text (d + 4) Q 0 0 168 [some (.ref (eB E + 83)), some (.int x1), some (.int x2), some (.int x3), none, none] [] h I L := by
  refine J.iload_n dX12_text_168 rfl rfl ?_
  refine J.aload_n dX12_text_169 rfl rfl ?_
  refine J.getI (x := I 83 54) fl_X12_367 rfl dX12_text_170 (lt83 hs) (kk83 hs) rfl ?_
  refine J.ic_ge 318 dX12_text_173 (by decide) (fun hc1 => ?_) (fun hc1 => ?_)
  · have hW := hW.1 hc1
    refine J.aload_n dX12_text_318 rfl rfl ?_
    refine J.getI (x := I 83 54) fl_X12_367 rfl dX12_text_319 (lt83 hs) (kk83 hs) rfl ?_
    exact J.reti dX12_text_322 rfl rfl hW
  · have hW := hW.2 hc1
    refine J.bipush (v := 16) dX12_text_176 (by decide) ?_
    refine J.iload_n dX12_text_178 rfl rfl ?_
    refine J.imul dX12_text_179 ?_
    refine J.iload_n dX12_text_180 rfl rfl ?_
    refine J.iadd dX12_text_181 ?_
    refine J.istore (vs' := [some (.ref (eB E + 83)), some (.int x1), some (.int x2), some (.int x3), some (.int ((16 * x1) + x3)), none]) dX12_text_182 (by decide) rfl ?_
    refine J.aload_n dX12_text_184 rfl rfl ?_
    refine J.getR (r := 117) fl_X12_111 rfl dX12_text_185 (lt83 hs) (kk83 hs) (rr83_34 hs) ?_
    refine J.iload dX12_text_188 rfl ?_
    refine J.aload_n dX12_text_190 rfl rfl ?_
    refine J.getR (r := 127) fl_X12_141 rfl dX12_text_191 (lt83 hs) (kk83 hs) (rr83_55 hs) ?_
    refine J.iload_n dX12_text_194 rfl rfl ?_
    obtain ⟨hb2, hW⟩ := hW
    refine J.iald (x := I 127 x3.toNatClampNeg) dX12_text_195 (lt127 hs) (kk127 hs) hb2 rfl ?_
    obtain ⟨hb3, hW⟩ := hW
    refine J.iast dX12_text_196 (lt117 hs) (kk117 hs) hb3 ?_
    refine J.aload_n dX12_text_197 rfl rfl ?_
    refine J.getR (r := 118) fl_X12_114 rfl dX12_text_198 (lt83 hs) (kk83 hs) (rr83_35 hs) ?_
    refine J.iload dX12_text_201 rfl ?_
    refine J.aload_n dX12_text_203 rfl rfl ?_
    refine J.getR (r := 128) fl_X12_144 rfl dX12_text_204 (lt83 hs) (kk83 hs) (rr83_56 hs) ?_
    refine J.iload_n dX12_text_207 rfl rfl ?_
    refine J.iald (x := I 128 x3.toNatClampNeg) dX12_text_208 (lt128 hs) (kk128 hs) hb2 rfl ?_
    refine J.iast dX12_text_209 (lt118 hs) (kk118 hs) hb3 ?_
    refine J.aload_n dX12_text_210 rfl rfl ?_
    refine J.getR (r := 119) fl_X12_117 rfl dX12_text_211 (lt83 hs) (kk83 hs) (rr83_36 hs) ?_
    refine J.iload dX12_text_214 rfl ?_
    refine J.aload_n dX12_text_216 rfl rfl ?_
    refine J.getR (r := 129) fl_X12_147 rfl dX12_text_217 (lt83 hs) (kk83 hs) (rr83_57 hs) ?_
    refine J.iload_n dX12_text_220 rfl rfl ?_
    refine J.iald (x := I 129 x3.toNatClampNeg) dX12_text_221 (lt129 hs) (kk129 hs) hb2 rfl ?_
    refine J.iast dX12_text_222 (lt119 hs) (kk119 hs) hb3 ?_
    refine J.iconst (v := 0) dX12_text_223 (by decide) ?_
    refine J.istore (vs' := [some (.ref (eB E + 83)), some (.int x1), some (.int x2), some (.int x3), some (.int ((16 * x1) + x3)), some (.int 0)]) dX12_text_224 (by decide) rfl ?_
    exact hW
set_option maxRecDepth 100000 in
set_option maxHeartbeats 4000000 in
theorem w_X12_text_226 {E : Envt} {d : Nat} {Q : Pst} {h : mS} {I : mI} {L : mL} (hs : SL h)    (x1 : Int32) (x2 : Int32) (x3 : Int32) (x4 : Int32) (x5 : Int32)
    (hW : (vp_in x3 17 ∧ ((((I 127 x3.toNatClampNeg) ≤ x5) → J E mX12_text (d + 4) Q 0 0 168 [some (.ref (eB E + 83)), some (.int x1), some (.int x2), some (.int (x3 + 1)), none, none] [] h I L) ∧ (¬ ((I 127 x3.toNatClampNeg) ≤ x5) → (vp_in ((4 * x3) + x5) 64 ∧ (vp_in ((4 * x4) + x5) 17152 ∧ J E mX12_text (d + 4) Q 0 0 226 [some (.ref (eB E + 83)), some (.int x1), some (.int x2), some (.int x3), some (.int x4), some (.int (x5 + 1))] [] h (uI (uI (uI I 120 (((4 * x4) + x5).toNatClampNeg) (I 130 (((4 * x3) + x5).toNatClampNeg))) 121 (((4 * x4) + x5).toNatClampNeg) (I 131 (((4 * x3) + x5).toNatClampNeg))) 122 (((4 * x4) + x5).toNatClampNeg) (I 132 (((4 * x3) + x5).toNatClampNeg))) L)))))) :
    J E mX12_text (d + 4) Q 0 0 226 [some (.ref (eB E + 83)), some (.int x1), some (.int x2), some (.int x3), some (.int x4), some (.int x5)] [] h I L := by
  refine J.iload dX12_text_226 rfl ?_
  refine J.aload_n dX12_text_228 rfl rfl ?_
  refine J.getR (r := 127) fl_X12_141 rfl dX12_text_229 (lt83 hs) (kk83 hs) (rr83_55 hs) ?_
  refine J.iload_n dX12_text_232 rfl rfl ?_
  obtain ⟨hb1, hW⟩ := hW
  refine J.iald (x := I 127 x3.toNatClampNeg) dX12_text_233 (lt127 hs) (kk127 hs) hb1 rfl ?_
  refine J.ic_ge 312 dX12_text_234 (by decide) (fun hc2 => ?_) (fun hc2 => ?_)
  · have hW := hW.1 hc2
    refine J.iinc (v := x3 + 1) (vs' := [some (.ref (eB E + 83)), some (.int x1), some (.int x2), some (.int (x3 + 1)), some (.int x4), some (.int x5)]) dX12_text_312 rfl (by rfl) (by decide) rfl ?_
    refine J.goto 168 dX12_text_315 (by decide) ?_
    exact J.mask [true, true, true, true, false, false] rfl hW
  · have hW := hW.2 hc2
    refine J.aload_n dX12_text_237 rfl rfl ?_
    refine J.getR (r := 120) fl_X12_120 rfl dX12_text_238 (lt83 hs) (kk83 hs) (rr83_37 hs) ?_
    refine J.iconst (v := 4) dX12_text_241 (by decide) ?_
    refine J.iload dX12_text_242 rfl ?_
    refine J.imul dX12_text_244 ?_
    refine J.iload dX12_text_245 rfl ?_
    refine J.iadd dX12_text_247 ?_
    refine J.aload_n dX12_text_248 rfl rfl ?_
    refine J.getR (r := 130) fl_X12_150 rfl dX12_text_249 (lt83 hs) (kk83 hs) (rr83_58 hs) ?_
    refine J.iconst (v := 4) dX12_text_252 (by decide) ?_
    refine J.iload_n dX12_text_253 rfl rfl ?_
    refine J.imul dX12_text_254 ?_
    refine J.iload dX12_text_255 rfl ?_
    refine J.iadd dX12_text_257 ?_
    obtain ⟨hb3, hW⟩ := hW
    refine J.iald (x := I 130 (((4 * x3) + x5).toNatClampNeg)) dX12_text_258 (lt130 hs) (kk130 hs) hb3 rfl ?_
    obtain ⟨hb4, hW⟩ := hW
    refine J.iast dX12_text_259 (lt120 hs) (kk120 hs) hb4 ?_
    refine J.aload_n dX12_text_260 rfl rfl ?_
    refine J.getR (r := 121) fl_X12_123 rfl dX12_text_261 (lt83 hs) (kk83 hs) (rr83_38 hs) ?_
    refine J.iconst (v := 4) dX12_text_264 (by decide) ?_
    refine J.iload dX12_text_265 rfl ?_
    refine J.imul dX12_text_267 ?_
    refine J.iload dX12_text_268 rfl ?_
    refine J.iadd dX12_text_270 ?_
    refine J.aload_n dX12_text_271 rfl rfl ?_
    refine J.getR (r := 131) fl_X12_153 rfl dX12_text_272 (lt83 hs) (kk83 hs) (rr83_59 hs) ?_
    refine J.iconst (v := 4) dX12_text_275 (by decide) ?_
    refine J.iload_n dX12_text_276 rfl rfl ?_
    refine J.imul dX12_text_277 ?_
    refine J.iload dX12_text_278 rfl ?_
    refine J.iadd dX12_text_280 ?_
    refine J.iald (x := I 131 (((4 * x3) + x5).toNatClampNeg)) dX12_text_281 (lt131 hs) (kk131 hs) hb3 rfl ?_
    refine J.iast dX12_text_282 (lt121 hs) (kk121 hs) hb4 ?_
    refine J.aload_n dX12_text_283 rfl rfl ?_
    refine J.getR (r := 122) fl_X12_126 rfl dX12_text_284 (lt83 hs) (kk83 hs) (rr83_39 hs) ?_
    refine J.iconst (v := 4) dX12_text_287 (by decide) ?_
    refine J.iload dX12_text_288 rfl ?_
    refine J.imul dX12_text_290 ?_
    refine J.iload dX12_text_291 rfl ?_
    refine J.iadd dX12_text_293 ?_
    refine J.aload_n dX12_text_294 rfl rfl ?_
    refine J.getR (r := 132) fl_X12_156 rfl dX12_text_295 (lt83 hs) (kk83 hs) (rr83_60 hs) ?_
    refine J.iconst (v := 4) dX12_text_298 (by decide) ?_
    refine J.iload_n dX12_text_299 rfl rfl ?_
    refine J.imul dX12_text_300 ?_
    refine J.iload dX12_text_301 rfl ?_
    refine J.iadd dX12_text_303 ?_
    refine J.iald (x := I 132 (((4 * x3) + x5).toNatClampNeg)) dX12_text_304 (lt132 hs) (kk132 hs) hb3 rfl ?_
    refine J.iast dX12_text_305 (lt122 hs) (kk122 hs) hb4 ?_
    refine J.iinc (v := x5 + 1) (vs' := [some (.ref (eB E + 83)), some (.int x1), some (.int x2), some (.int x3), some (.int x4), some (.int (x5 + 1))]) dX12_text_306 rfl (by rfl) (by decide) rfl ?_
    refine J.goto 226 dX12_text_309 (by decide) ?_
    exact hW
set_option maxRecDepth 100000 in
set_option maxHeartbeats 4000000 in
theorem w_X12_fault {E : Envt} {d : Nat} {Q : Pst} {h : mS} {I : mI} {L : mL} (hs : SL h) (x1 : Int32) 
    (hW : Q (some (.int (if x1 = 0 then I 86 0 else if x1 = 1 then I 87 0 else (-1) : Int32))) h (uI I 83 0 0) L) :
    CT E mX12_fault d 0 0 [.ref (eB E + 83), .int x1] h I L Q := by
  refine CT.of (by decide) [some (.ref (eB E + 83)), some (.int x1)] rfl (Nat.le_of_ble_eq_true rfl) ?_
  refine J.aload_n dX12_fault_0 rfl rfl ?_
  refine J.iconst (v := 0) dX12_fault_1 (by decide) ?_
  refine J.putI fw_X12_202 rfl dX12_fault_2 (lt83 hs) (kk83 hs) ?_
  refine J.iload_n dX12_fault_5 rfl rfl ?_
  have hj : J E mX12_fault d Q 0 0 33 [some (.ref (eB E + 83)), some (.int x1)] [.int (if x1 = 0 then I 86 0 else if x1 = 1 then I 87 0 else (-1) : Int32)] h (uI I 83 0 0) L := by
    exact J.reti dX12_fault_33 rfl rfl hW
  refine J.if_ne 18 dX12_fault_6 (by decide) (fun hc1 => ?_) (fun hc1 => ?_)
  · refine J.iload_n dX12_fault_18 rfl rfl ?_
    refine J.iconst (v := 1) dX12_fault_19 (by decide) ?_
    refine J.ic_ne 32 dX12_fault_20 (by decide) (fun hc2 => ?_) (fun hc2 => ?_)
    · refine J.iconst (v := (-1)) dX12_fault_32 (by decide) ?_
      rw [show ((if x1 = 0 then I 86 0 else if x1 = 1 then I 87 0 else (-1) : Int32) = (-1)) from by simp only [eq_false hc1, eq_false hc2, if_true, if_false, bI_true, bI_false, and_true, true_and, and_false, false_and, or_true, true_or, or_false, false_or, not_true_eq_false, not_false_eq_true]] at hj
      exact hj
    · refine J.aload_n dX12_fault_23 rfl rfl ?_
      refine J.getR (r := 87) fl_X12_20 rfl dX12_fault_24 (lt83 hs) (kk83 hs) (rr83_4 hs) ?_
      refine J.iconst (v := 0) dX12_fault_27 (by decide) ?_
      refine J.iald (x := I 87 0) dX12_fault_28 (lt87 hs) (kk87 hs) (by unfold vp_in; decide) rfl ?_
      refine J.goto 33 dX12_fault_29 (by decide) ?_
      rw [show ((if x1 = 0 then I 86 0 else if x1 = 1 then I 87 0 else (-1) : Int32) = I 87 0) from by simp only [eq_false hc1, eq_true hc2, if_true, if_false, bI_true, bI_false, and_true, true_and, and_false, false_and, or_true, true_or, or_false, false_or, not_true_eq_false, not_false_eq_true]] at hj
      exact hj
  · refine J.aload_n dX12_fault_9 rfl rfl ?_
    refine J.getR (r := 86) fl_X12_17 rfl dX12_fault_10 (lt83 hs) (kk83 hs) (rr83_3 hs) ?_
    refine J.iconst (v := 0) dX12_fault_13 (by decide) ?_
    refine J.iald (x := I 86 0) dX12_fault_14 (lt86 hs) (kk86 hs) (by unfold vp_in; decide) rfl ?_
    refine J.goto 33 dX12_fault_15 (by decide) ?_
    rw [show ((if x1 = 0 then I 86 0 else if x1 = 1 then I 87 0 else (-1) : Int32) = I 86 0) from by simp only [eq_true hc1, if_true, if_false, bI_true, bI_false, and_true, true_and, and_false, false_and, or_true, true_or, or_false, false_or, not_true_eq_false, not_false_eq_true]] at hj
    exact hj
