set_option maxRecDepth 100000 in
set_option maxHeartbeats 4000000 in
theorem w_X12_move {E : Envt} {d : Nat} {Q : Pst} {h : mS} {I : mI} {L : mL} (hs : SL h) {a0 n0 : Nat} (x1 : Int32) (x2 : Int32) (x3 : Int32) (hl0 : a0 < h.2.2) (hk0 : h.1 a0 = (14, n0))
    (hW : J E mX12_move d Q 0 0 3 [some (.ref (eB E + a0)), some (.int x1), some (.int x2), some (.int x3), some (.int 0)] [] h I L) :
    CT E mX12_move d 0 0 [.ref (eB E + a0), .int x1, .int x2, .int x3] h I L Q := by
  refine CT.of (by decide) [some (.ref (eB E + a0)), some (.int x1), some (.int x2), some (.int x3), none] rfl (Nat.le_of_ble_eq_true rfl) ?_
  refine J.iconst (v := 0) dX12_move_0 (by decide) ?_
  refine J.istore (vs' := [some (.ref (eB E + a0)), some (.int x1), some (.int x2), some (.int x3), some (.int 0)]) dX12_move_1 (by decide) rfl ?_
  exact hW
set_option maxRecDepth 100000 in
set_option maxHeartbeats 4000000 in
theorem w_X12_move_3 {E : Envt} {d : Nat} {Q : Pst} {h : mS} {I : mI} {L : mL} (hs : SL h) {a0 n0 : Nat} (hl0 : a0 < h.2.2) (hk0 : h.1 a0 = (14, n0))  (x1 : Int32) (x2 : Int32) (x3 : Int32) (x4 : Int32)
    (hW : (((x1 ≤ x4) → Q none h I L) ∧ (¬ (x1 ≤ x4) → (vp_in ((x1 * x2) + x4) n0 ∧ (vp_in ((x1 * x3) + x4) n0 ∧ J E mX12_move d Q 0 0 3 [some (.ref (eB E + a0)), some (.int x1), some (.int x2), some (.int x3), some (.int (x4 + 1))] [] h (uI I a0 (((x1 * x3) + x4).toNatClampNeg) (I a0 (((x1 * x2) + x4).toNatClampNeg))) L))))) :
    J E mX12_move d Q 0 0 3 [some (.ref (eB E + a0)), some (.int x1), some (.int x2), some (.int x3), some (.int x4)] [] h I L := by
  refine J.iload dX12_move_3 rfl ?_
  refine J.iload_n dX12_move_5 rfl rfl ?_
  refine J.ic_ge 31 dX12_move_6 (by decide) (fun hc1 => ?_) (fun hc1 => ?_)
  · have hW := hW.1 hc1
    exact J.retv dX12_move_31 rfl hW
  · have hW := hW.2 hc1
    refine J.aload_n dX12_move_9 rfl rfl ?_
    refine J.iload_n dX12_move_10 rfl rfl ?_
    refine J.iload_n dX12_move_11 rfl rfl ?_
    refine J.imul dX12_move_12 ?_
    refine J.iload dX12_move_13 rfl ?_
    refine J.iadd dX12_move_15 ?_
    refine J.aload_n dX12_move_16 rfl rfl ?_
    refine J.iload_n dX12_move_17 rfl rfl ?_
    refine J.iload_n dX12_move_18 rfl rfl ?_
    refine J.imul dX12_move_19 ?_
    refine J.iload dX12_move_20 rfl ?_
    refine J.iadd dX12_move_22 ?_
    obtain ⟨hb2, hW⟩ := hW
    refine J.iald (x := I a0 (((x1 * x2) + x4).toNatClampNeg)) dX12_move_23 hl0 hk0 hb2 rfl ?_
    obtain ⟨hb3, hW⟩ := hW
    refine J.iast dX12_move_24 hl0 hk0 hb3 ?_
    refine J.iinc (v := x4 + 1) (vs' := [some (.ref (eB E + a0)), some (.int x1), some (.int x2), some (.int x3), some (.int (x4 + 1))]) dX12_move_25 rfl (by rfl) (by decide) rfl ?_
    refine J.goto 3 dX12_move_28 (by decide) ?_
    exact hW
set_option maxRecDepth 100000 in
set_option maxHeartbeats 4000000 in
theorem w_X12_moveBits {E : Envt} {d : Nat} {Q : Pst} {h : mS} {I : mI} {L : mL} (hs : SL h) {a0 n0 : Nat} (x1 : Int32) (x2 : Int32) (x3 : Int32) (hl0 : a0 < h.2.2) (hk0 : h.1 a0 = (16, n0))
    (hW : J E mX12_moveBits d Q 0 0 3 [some (.ref (eB E + a0)), some (.int x1), some (.int x2), some (.int x3), some (.int 0)] [] h I L) :
    CT E mX12_moveBits d 0 0 [.ref (eB E + a0), .int x1, .int x2, .int x3] h I L Q := by
  refine CT.of (by decide) [some (.ref (eB E + a0)), some (.int x1), some (.int x2), some (.int x3), none] rfl (Nat.le_of_ble_eq_true rfl) ?_
  refine J.iconst (v := 0) dX12_moveBits_0 (by decide) ?_
  refine J.istore (vs' := [some (.ref (eB E + a0)), some (.int x1), some (.int x2), some (.int x3), some (.int 0)]) dX12_moveBits_1 (by decide) rfl ?_
  exact hW
set_option maxRecDepth 100000 in
set_option maxHeartbeats 4000000 in
theorem w_X12_moveBits_3 {E : Envt} {d : Nat} {Q : Pst} {h : mS} {I : mI} {L : mL} (hs : SL h) {a0 n0 : Nat} (hl0 : a0 < h.2.2) (hk0 : h.1 a0 = (16, n0))  (x1 : Int32) (x2 : Int32) (x3 : Int32) (x4 : Int32)
    (hW : (((x1 ≤ x4) → Q none h I L) ∧ (¬ (x1 ≤ x4) → (vp_in ((x1 * x2) + x4) n0 ∧ (vp_in ((x1 * x3) + x4) n0 ∧ (bz (I a0 (((x1 * x2) + x4).toNatClampNeg)) ∧ J E mX12_moveBits d Q 0 0 3 [some (.ref (eB E + a0)), some (.int x1), some (.int x2), some (.int x3), some (.int (x4 + 1))] [] h (uI I a0 (((x1 * x3) + x4).toNatClampNeg) (I a0 (((x1 * x2) + x4).toNatClampNeg))) L)))))) :
    J E mX12_moveBits d Q 0 0 3 [some (.ref (eB E + a0)), some (.int x1), some (.int x2), some (.int x3), some (.int x4)] [] h I L := by
  refine J.iload dX12_moveBits_3 rfl ?_
  refine J.iload_n dX12_moveBits_5 rfl rfl ?_
  refine J.ic_ge 31 dX12_moveBits_6 (by decide) (fun hc1 => ?_) (fun hc1 => ?_)
  · have hW := hW.1 hc1
    exact J.retv dX12_moveBits_31 rfl hW
  · have hW := hW.2 hc1
    refine J.aload_n dX12_moveBits_9 rfl rfl ?_
    refine J.iload_n dX12_moveBits_10 rfl rfl ?_
    refine J.iload_n dX12_moveBits_11 rfl rfl ?_
    refine J.imul dX12_moveBits_12 ?_
    refine J.iload dX12_moveBits_13 rfl ?_
    refine J.iadd dX12_moveBits_15 ?_
    refine J.aload_n dX12_moveBits_16 rfl rfl ?_
    refine J.iload_n dX12_moveBits_17 rfl rfl ?_
    refine J.iload_n dX12_moveBits_18 rfl rfl ?_
    refine J.imul dX12_moveBits_19 ?_
    refine J.iload dX12_moveBits_20 rfl ?_
    refine J.iadd dX12_moveBits_22 ?_
    obtain ⟨hb2, hW⟩ := hW
    refine J.zald (x := I a0 (((x1 * x2) + x4).toNatClampNeg)) dX12_moveBits_23 hl0 hk0 hb2 rfl ?_
    obtain ⟨hb3, hW⟩ := hW
    obtain ⟨hz, hW⟩ := hW
    refine J.zast dX12_moveBits_24 hl0 hk0 hb3 hz ?_
    refine J.iinc (v := x4 + 1) (vs' := [some (.ref (eB E + a0)), some (.int x1), some (.int x2), some (.int x3), some (.int (x4 + 1))]) dX12_moveBits_25 rfl (by rfl) (by decide) rfl ?_
    refine J.goto 3 dX12_moveBits_28 (by decide) ?_
    exact hW
set_option maxRecDepth 100000 in
set_option maxHeartbeats 4000000 in
theorem w_X12_copyMatches {E : Envt} {d : Nat} {Q : Pst} {h : mS} {I : mI} {L : mL} (hs : SL h) (x1 : Int32) (x2 : Int32) 
    (hW : (CT E mX12_move d 0 0 [.ref (eB E + 106), .int 1, .int x1, .int x2] h I L (qv h L fun I1 => (CT E mX12_move d 0 0 [.ref (eB E + 107), .int 30, .int x1, .int x2] h I1 L (qv h L fun I2 => (CT E mX12_move d 0 0 [.ref (eB E + 108), .int 30, .int x1, .int x2] h I2 L (qv h L fun I3 => (CT E mX12_move d 0 0 [.ref (eB E + 109), .int 30, .int x1, .int x2] h I3 L (qv h L fun I4 => (CT E mX12_move d 0 0 [.ref (eB E + 110), .int 30, .int x1, .int x2] h I4 L (qv h L fun I5 => (CT E mX12_move d 0 0 [.ref (eB E + 111), .int 30, .int x1, .int x2] h I5 L (qv h L fun I6 => (CT E mX12_move d 0 0 [.ref (eB E + 112), .int 30, .int x1, .int x2] h I6 L (qv h L fun I7 => (CT E mX12_move d 0 0 [.ref (eB E + 113), .int 30, .int x1, .int x2] h I7 L (qv h L fun I8 => (CT E mX12_move d 0 0 [.ref (eB E + 114), .int 30, .int x1, .int x2] h I8 L (qv h L fun I9 => (CT E mX12_move d 0 0 [.ref (eB E + 115), .int 330, .int x1, .int x2] h I9 L (qv h L fun I10 => (CT E mX12_move d 0 0 [.ref (eB E + 116), .int 67, .int x1, .int x2] h I10 L (qv h L fun I11 => (CT E mX12_move d 0 0 [.ref (eB E + 117), .int (16 * 67), .int x1, .int x2] h I11 L (qv h L fun I12 => (CT E mX12_move d 0 0 [.ref (eB E + 118), .int (16 * 67), .int x1, .int x2] h I12 L (qv h L fun I13 => (CT E mX12_move d 0 0 [.ref (eB E + 119), .int (16 * 67), .int x1, .int x2] h I13 L (qv h L fun I14 => (CT E mX12_move d 0 0 [.ref (eB E + 120), .int (64 * 67), .int x1, .int x2] h I14 L (qv h L fun I15 => (CT E mX12_move d 0 0 [.ref (eB E + 121), .int (64 * 67), .int x1, .int x2] h I15 L (qv h L fun I16 => (CT E mX12_move d 0 0 [.ref (eB E + 122), .int (64 * 67), .int x1, .int x2] h I16 L (qv h L fun I17 => Q none h I17 L))))))))))))))))))))))))))))))))))) :
    CT E mX12_copyMatches (d + 1) 0 0 [.ref (eB E + 83), .int x1, .int x2] h I L Q := by
  refine CT.of (by decide) [some (.ref (eB E + 83)), some (.int x1), some (.int x2), none] rfl (Nat.le_of_ble_eq_true rfl) ?_
  refine J.aload_n dX12_copyMatches_0 rfl rfl ?_
  refine J.getR (r := 106) fl_X12_78 rfl dX12_copyMatches_1 (lt83 hs) (kk83 hs) (rr83_23 hs) ?_
  refine J.iconst (v := 1) dX12_copyMatches_4 (by decide) ?_
  refine J.iload_n dX12_copyMatches_5 rfl rfl ?_
  refine J.iload_n dX12_copyMatches_6 rfl rfl ?_
  refine J.callS (M' := mX12_move) (index := 206) (bc := 0) (bs := 0) (bc' := 0) (bs' := 0) (st := []) [.ref (eB E + 106), .int 1, .int x1, .int x2] ml_X12_206 cv_X12_move dX12_copyMatches_7 rfl rfl (Nat.le_of_ble_eq_true rfl) (kqv hW (fun I1 hW => ?_))
  refine J.aload_n dX12_copyMatches_10 rfl rfl ?_
  refine J.getR (r := 107) fl_X12_81 rfl dX12_copyMatches_11 (lt83 hs) (kk83 hs) (rr83_24 hs) ?_
  refine J.bipush (v := 30) dX12_copyMatches_14 (by decide) ?_
  refine J.iload_n dX12_copyMatches_16 rfl rfl ?_
  refine J.iload_n dX12_copyMatches_17 rfl rfl ?_
  refine J.callS (M' := mX12_move) (index := 206) (bc := 0) (bs := 0) (bc' := 0) (bs' := 0) (st := []) [.ref (eB E + 107), .int 30, .int x1, .int x2] ml_X12_206 cv_X12_move dX12_copyMatches_18 rfl rfl (Nat.le_of_ble_eq_true rfl) (kqv hW (fun I2 hW => ?_))
  refine J.aload_n dX12_copyMatches_21 rfl rfl ?_
  refine J.getR (r := 108) fl_X12_84 rfl dX12_copyMatches_22 (lt83 hs) (kk83 hs) (rr83_25 hs) ?_
  refine J.bipush (v := 30) dX12_copyMatches_25 (by decide) ?_
  refine J.iload_n dX12_copyMatches_27 rfl rfl ?_
  refine J.iload_n dX12_copyMatches_28 rfl rfl ?_
  refine J.callS (M' := mX12_move) (index := 206) (bc := 0) (bs := 0) (bc' := 0) (bs' := 0) (st := []) [.ref (eB E + 108), .int 30, .int x1, .int x2] ml_X12_206 cv_X12_move dX12_copyMatches_29 rfl rfl (Nat.le_of_ble_eq_true rfl) (kqv hW (fun I3 hW => ?_))
  refine J.aload_n dX12_copyMatches_32 rfl rfl ?_
  refine J.getR (r := 109) fl_X12_87 rfl dX12_copyMatches_33 (lt83 hs) (kk83 hs) (rr83_26 hs) ?_
  refine J.bipush (v := 30) dX12_copyMatches_36 (by decide) ?_
  refine J.iload_n dX12_copyMatches_38 rfl rfl ?_
  refine J.iload_n dX12_copyMatches_39 rfl rfl ?_
  refine J.callS (M' := mX12_move) (index := 206) (bc := 0) (bs := 0) (bc' := 0) (bs' := 0) (st := []) [.ref (eB E + 109), .int 30, .int x1, .int x2] ml_X12_206 cv_X12_move dX12_copyMatches_40 rfl rfl (Nat.le_of_ble_eq_true rfl) (kqv hW (fun I4 hW => ?_))
  refine J.aload_n dX12_copyMatches_43 rfl rfl ?_
  refine J.getR (r := 110) fl_X12_90 rfl dX12_copyMatches_44 (lt83 hs) (kk83 hs) (rr83_27 hs) ?_
  refine J.bipush (v := 30) dX12_copyMatches_47 (by decide) ?_
  refine J.iload_n dX12_copyMatches_49 rfl rfl ?_
  refine J.iload_n dX12_copyMatches_50 rfl rfl ?_
  refine J.callS (M' := mX12_move) (index := 206) (bc := 0) (bs := 0) (bc' := 0) (bs' := 0) (st := []) [.ref (eB E + 110), .int 30, .int x1, .int x2] ml_X12_206 cv_X12_move dX12_copyMatches_51 rfl rfl (Nat.le_of_ble_eq_true rfl) (kqv hW (fun I5 hW => ?_))
  refine J.aload_n dX12_copyMatches_54 rfl rfl ?_
  refine J.getR (r := 111) fl_X12_93 rfl dX12_copyMatches_55 (lt83 hs) (kk83 hs) (rr83_28 hs) ?_
  refine J.bipush (v := 30) dX12_copyMatches_58 (by decide) ?_
  refine J.iload_n dX12_copyMatches_60 rfl rfl ?_
  refine J.iload_n dX12_copyMatches_61 rfl rfl ?_
  refine J.callS (M' := mX12_move) (index := 206) (bc := 0) (bs := 0) (bc' := 0) (bs' := 0) (st := []) [.ref (eB E + 111), .int 30, .int x1, .int x2] ml_X12_206 cv_X12_move dX12_copyMatches_62 rfl rfl (Nat.le_of_ble_eq_true rfl) (kqv hW (fun I6 hW => ?_))
  refine J.aload_n dX12_copyMatches_65 rfl rfl ?_
  refine J.getR (r := 112) fl_X12_96 rfl dX12_copyMatches_66 (lt83 hs) (kk83 hs) (rr83_29 hs) ?_
  refine J.bipush (v := 30) dX12_copyMatches_69 (by decide) ?_
  refine J.iload_n dX12_copyMatches_71 rfl rfl ?_
  refine J.iload_n dX12_copyMatches_72 rfl rfl ?_
  refine J.callS (M' := mX12_move) (index := 206) (bc := 0) (bs := 0) (bc' := 0) (bs' := 0) (st := []) [.ref (eB E + 112), .int 30, .int x1, .int x2] ml_X12_206 cv_X12_move dX12_copyMatches_73 rfl rfl (Nat.le_of_ble_eq_true rfl) (kqv hW (fun I7 hW => ?_))
  refine J.aload_n dX12_copyMatches_76 rfl rfl ?_
  refine J.getR (r := 113) fl_X12_99 rfl dX12_copyMatches_77 (lt83 hs) (kk83 hs) (rr83_30 hs) ?_
  refine J.bipush (v := 30) dX12_copyMatches_80 (by decide) ?_
  refine J.iload_n dX12_copyMatches_82 rfl rfl ?_
  refine J.iload_n dX12_copyMatches_83 rfl rfl ?_
  refine J.callS (M' := mX12_move) (index := 206) (bc := 0) (bs := 0) (bc' := 0) (bs' := 0) (st := []) [.ref (eB E + 113), .int 30, .int x1, .int x2] ml_X12_206 cv_X12_move dX12_copyMatches_84 rfl rfl (Nat.le_of_ble_eq_true rfl) (kqv hW (fun I8 hW => ?_))
  refine J.aload_n dX12_copyMatches_87 rfl rfl ?_
  refine J.getR (r := 114) fl_X12_102 rfl dX12_copyMatches_88 (lt83 hs) (kk83 hs) (rr83_31 hs) ?_
  refine J.bipush (v := 30) dX12_copyMatches_91 (by decide) ?_
  refine J.iload_n dX12_copyMatches_93 rfl rfl ?_
  refine J.iload_n dX12_copyMatches_94 rfl rfl ?_
  refine J.callS (M' := mX12_move) (index := 206) (bc := 0) (bs := 0) (bc' := 0) (bs' := 0) (st := []) [.ref (eB E + 114), .int 30, .int x1, .int x2] ml_X12_206 cv_X12_move dX12_copyMatches_95 rfl rfl (Nat.le_of_ble_eq_true rfl) (kqv hW (fun I9 hW => ?_))
  refine J.aload_n dX12_copyMatches_98 rfl rfl ?_
  refine J.getR (r := 115) fl_X12_105 rfl dX12_copyMatches_99 (lt83 hs) (kk83 hs) (rr83_32 hs) ?_
  refine J.sipush (v := 330) dX12_copyMatches_102 (by decide) ?_
  refine J.iload_n dX12_copyMatches_105 rfl rfl ?_
  refine J.iload_n dX12_copyMatches_106 rfl rfl ?_
  refine J.callS (M' := mX12_move) (index := 206) (bc := 0) (bs := 0) (bc' := 0) (bs' := 0) (st := []) [.ref (eB E + 115), .int 330, .int x1, .int x2] ml_X12_206 cv_X12_move dX12_copyMatches_107 rfl rfl (Nat.le_of_ble_eq_true rfl) (kqv hW (fun I10 hW => ?_))
  refine J.bipush (v := 67) dX12_copyMatches_110 (by decide) ?_
  refine J.istore_n (vs' := [some (.ref (eB E + 83)), some (.int x1), some (.int x2), some (.int 67)]) dX12_copyMatches_112 rfl (by decide) rfl ?_
  refine J.aload_n dX12_copyMatches_113 rfl rfl ?_
  refine J.getR (r := 116) fl_X12_108 rfl dX12_copyMatches_114 (lt83 hs) (kk83 hs) (rr83_33 hs) ?_
  refine J.iload_n dX12_copyMatches_117 rfl rfl ?_
  refine J.iload_n dX12_copyMatches_118 rfl rfl ?_
  refine J.iload_n dX12_copyMatches_119 rfl rfl ?_
  refine J.callS (M' := mX12_move) (index := 206) (bc := 0) (bs := 0) (bc' := 0) (bs' := 0) (st := []) [.ref (eB E + 116), .int 67, .int x1, .int x2] ml_X12_206 cv_X12_move dX12_copyMatches_120 rfl rfl (Nat.le_of_ble_eq_true rfl) (kqv hW (fun I11 hW => ?_))
  refine J.aload_n dX12_copyMatches_123 rfl rfl ?_
  refine J.getR (r := 117) fl_X12_111 rfl dX12_copyMatches_124 (lt83 hs) (kk83 hs) (rr83_34 hs) ?_
  refine J.bipush (v := 16) dX12_copyMatches_127 (by decide) ?_
  refine J.iload_n dX12_copyMatches_129 rfl rfl ?_
  refine J.imul dX12_copyMatches_130 ?_
  refine J.iload_n dX12_copyMatches_131 rfl rfl ?_
  refine J.iload_n dX12_copyMatches_132 rfl rfl ?_
  refine J.callS (M' := mX12_move) (index := 206) (bc := 0) (bs := 0) (bc' := 0) (bs' := 0) (st := []) [.ref (eB E + 117), .int (16 * 67), .int x1, .int x2] ml_X12_206 cv_X12_move dX12_copyMatches_133 rfl rfl (Nat.le_of_ble_eq_true rfl) (kqv hW (fun I12 hW => ?_))
  refine J.aload_n dX12_copyMatches_136 rfl rfl ?_
  refine J.getR (r := 118) fl_X12_114 rfl dX12_copyMatches_137 (lt83 hs) (kk83 hs) (rr83_35 hs) ?_
  refine J.bipush (v := 16) dX12_copyMatches_140 (by decide) ?_
  refine J.iload_n dX12_copyMatches_142 rfl rfl ?_
  refine J.imul dX12_copyMatches_143 ?_
  refine J.iload_n dX12_copyMatches_144 rfl rfl ?_
  refine J.iload_n dX12_copyMatches_145 rfl rfl ?_
  refine J.callS (M' := mX12_move) (index := 206) (bc := 0) (bs := 0) (bc' := 0) (bs' := 0) (st := []) [.ref (eB E + 118), .int (16 * 67), .int x1, .int x2] ml_X12_206 cv_X12_move dX12_copyMatches_146 rfl rfl (Nat.le_of_ble_eq_true rfl) (kqv hW (fun I13 hW => ?_))
  refine J.aload_n dX12_copyMatches_149 rfl rfl ?_
  refine J.getR (r := 119) fl_X12_117 rfl dX12_copyMatches_150 (lt83 hs) (kk83 hs) (rr83_36 hs) ?_
  refine J.bipush (v := 16) dX12_copyMatches_153 (by decide) ?_
  refine J.iload_n dX12_copyMatches_155 rfl rfl ?_
  refine J.imul dX12_copyMatches_156 ?_
  refine J.iload_n dX12_copyMatches_157 rfl rfl ?_
  refine J.iload_n dX12_copyMatches_158 rfl rfl ?_
  refine J.callS (M' := mX12_move) (index := 206) (bc := 0) (bs := 0) (bc' := 0) (bs' := 0) (st := []) [.ref (eB E + 119), .int (16 * 67), .int x1, .int x2] ml_X12_206 cv_X12_move dX12_copyMatches_159 rfl rfl (Nat.le_of_ble_eq_true rfl) (kqv hW (fun I14 hW => ?_))
  refine J.aload_n dX12_copyMatches_162 rfl rfl ?_
  refine J.getR (r := 120) fl_X12_120 rfl dX12_copyMatches_163 (lt83 hs) (kk83 hs) (rr83_37 hs) ?_
  refine J.bipush (v := 64) dX12_copyMatches_166 (by decide) ?_
  refine J.iload_n dX12_copyMatches_168 rfl rfl ?_
  refine J.imul dX12_copyMatches_169 ?_
  refine J.iload_n dX12_copyMatches_170 rfl rfl ?_
  refine J.iload_n dX12_copyMatches_171 rfl rfl ?_
  refine J.callS (M' := mX12_move) (index := 206) (bc := 0) (bs := 0) (bc' := 0) (bs' := 0) (st := []) [.ref (eB E + 120), .int (64 * 67), .int x1, .int x2] ml_X12_206 cv_X12_move dX12_copyMatches_172 rfl rfl (Nat.le_of_ble_eq_true rfl) (kqv hW (fun I15 hW => ?_))
  refine J.aload_n dX12_copyMatches_175 rfl rfl ?_
  refine J.getR (r := 121) fl_X12_123 rfl dX12_copyMatches_176 (lt83 hs) (kk83 hs) (rr83_38 hs) ?_
  refine J.bipush (v := 64) dX12_copyMatches_179 (by decide) ?_
  refine J.iload_n dX12_copyMatches_181 rfl rfl ?_
  refine J.imul dX12_copyMatches_182 ?_
  refine J.iload_n dX12_copyMatches_183 rfl rfl ?_
  refine J.iload_n dX12_copyMatches_184 rfl rfl ?_
  refine J.callS (M' := mX12_move) (index := 206) (bc := 0) (bs := 0) (bc' := 0) (bs' := 0) (st := []) [.ref (eB E + 121), .int (64 * 67), .int x1, .int x2] ml_X12_206 cv_X12_move dX12_copyMatches_185 rfl rfl (Nat.le_of_ble_eq_true rfl) (kqv hW (fun I16 hW => ?_))
  refine J.aload_n dX12_copyMatches_188 rfl rfl ?_
  refine J.getR (r := 122) fl_X12_126 rfl dX12_copyMatches_189 (lt83 hs) (kk83 hs) (rr83_39 hs) ?_
  refine J.bipush (v := 64) dX12_copyMatches_192 (by decide) ?_
  refine J.iload_n dX12_copyMatches_194 rfl rfl ?_
  refine J.imul dX12_copyMatches_195 ?_
  refine J.iload_n dX12_copyMatches_196 rfl rfl ?_
  refine J.iload_n dX12_copyMatches_197 rfl rfl ?_
  refine J.callS (M' := mX12_move) (index := 206) (bc := 0) (bs := 0) (bc' := 0) (bs' := 0) (st := []) [.ref (eB E + 122), .int (64 * 67), .int x1, .int x2] ml_X12_206 cv_X12_move dX12_copyMatches_198 rfl rfl (Nat.le_of_ble_eq_true rfl) (kqv hW (fun I17 hW => ?_))
  exact J.retv dX12_copyMatches_201 rfl hW
set_option maxRecDepth 100000 in
set_option maxHeartbeats 4000000 in
theorem w_X12_copy {E : Envt} {d : Nat} {Q : Pst} {h : mS} {I : mI} {L : mL} (hs : SL h) (x1 : Int32) (x2 : Int32) 
    (hW : J E mX12_copy (d + 2) Q 0 0 2 [some (.ref (eB E + 83)), some (.int x1), some (.int x2), some (.int 0)] [] h I L) :
    CT E mX12_copy (d + 2) 0 0 [.ref (eB E + 83), .int x1, .int x2] h I L Q := by
  refine CT.of (by decide) [some (.ref (eB E + 83)), some (.int x1), some (.int x2), none] rfl (Nat.le_of_ble_eq_true rfl) ?_
  refine J.iconst (v := 0) dX12_copy_0 (by decide) ?_
  refine J.istore_n (vs' := [some (.ref (eB E + 83)), some (.int x1), some (.int x2), some (.int 0)]) dX12_copy_1 rfl (by decide) rfl ?_
  exact hW
set_option maxRecDepth 100000 in
set_option maxHeartbeats 4000000 in
theorem w_X12_copy_2 {E : Envt} {d : Nat} {Q : Pst} {h : mS} {I : mI} {L : mL} (hs : SL h)    (x1 : Int32) (x2 : Int32) (x3 : Int32)
    (hW : (((500 ≤ x3) → (CT E mX12_move (d + 1) 0 0 [.ref (eB E + 85), .int 1, .int x1, .int x2] h I L (qv h L fun I2 => (CT E mX12_move (d + 1) 0 0 [.ref (eB E + 86), .int 1, .int x1, .int x2] h I2 L (qv h L fun I3 => (CT E mX12_move (d + 1) 0 0 [.ref (eB E + 87), .int 1, .int x1, .int x2] h I3 L (qv h L fun I4 => (CT E mX12_move (d + 1) 0 0 [.ref (eB E + 88), .int 1, .int x1, .int x2] h I4 L (qv h L fun I5 => (CT E mX12_move (d + 1) 0 0 [.ref (eB E + 89), .int 25, .int x1, .int x2] h I5 L (qv h L fun I6 => (CT E mX12_move (d + 1) 0 0 [.ref (eB E + 90), .int 1, .int x1, .int x2] h I6 L (qv h L fun I7 => (CT E mX12_move (d + 1) 0 0 [.ref (eB E + 91), .int 8, .int x1, .int x2] h I7 L (qv h L fun I8 => (CT E mX12_move (d + 1) 0 0 [.ref (eB E + 92), .int 8, .int x1, .int x2] h I8 L (qv h L fun I9 => (CT E mX12_move (d + 1) 0 0 [.ref (eB E + 93), .int 8, .int x1, .int x2] h I9 L (qv h L fun I10 => (CT E mX12_move (d + 1) 0 0 [.ref (eB E + 94), .int 8, .int x1, .int x2] h I10 L (qv h L fun I11 => (CT E mX12_move (d + 1) 0 0 [.ref (eB E + 95), .int 1, .int x1, .int x2] h I11 L (qv h L fun I12 => (CT E mX12_move (d + 1) 0 0 [.ref (eB E + 96), .int 20, .int x1, .int x2] h I12 L (qv h L fun I13 => (CT E mX12_move (d + 1) 0 0 [.ref (eB E + 97), .int 20, .int x1, .int x2] h I13 L (qv h L fun I14 => (CT E mX12_move (d + 1) 0 0 [.ref (eB E + 98), .int 20, .int x1, .int x2] h I14 L (qv h L fun I15 => (CT E mX12_move (d + 1) 0 0 [.ref (eB E + 99), .int 20, .int x1, .int x2] h I15 L (qv h L fun I16 => (CT E mX12_moveBits (d + 1) 0 0 [.ref (eB E + 100), .int 20, .int x1, .int x2] h I16 L (qv h L fun I17 => (CT E mX12_move (d + 1) 0 0 [.ref (eB E + 101), .int 20, .int x1, .int x2] h I17 L (qv h L fun I18 => (CT E mX12_moveBits (d + 1) 0 0 [.ref (eB E + 102), .int 20, .int x1, .int x2] h I18 L (qv h L fun I19 => (CT E mX12_moveBits (d + 1) 0 0 [.ref (eB E + 103), .int 20, .int x1, .int x2] h I19 L (qv h L fun I20 => (CT E mX12_move (d + 1) 0 0 [.ref (eB E + 104), .int 1, .int x1, .int x2] h I20 L (qv h L fun I21 => (CT E mX12_move (d + 1) 0 0 [.ref (eB E + 105), .int 240, .int x1, .int x2] h I21 L (qv h L fun I22 => (CT E mX12_copyMatches (d + 1) 0 0 [.ref (eB E + 83), .int x1, .int x2] h I22 L (qv h L fun I23 => Q none h I23 L))))))))))))))))))))))))))))))))))))))))))))) ∧ (¬ (500 ≤ x3) → (vp_in ((500 * x1) + x3) 2000 ∧ (vp_in ((500 * x2) + x3) 2000 ∧ (((I 84 (((500 * x1) + x3).toNatClampNeg)).toInt8.toInt32 = I 84 (((500 * x1) + x3).toNatClampNeg)) ∧ J E mX12_copy (d + 2) Q 0 0 2 [some (.ref (eB E + 83)), some (.int x1), some (.int x2), some (.int (x3 + 1))] [] h (uI I 84 (((500 * x2) + x3).toNatClampNeg) (I 84 (((500 * x1) + x3).toNatClampNeg))) L)))))) :
    J E mX12_copy (d + 2) Q 0 0 2 [some (.ref (eB E + 83)), some (.int x1), some (.int x2), some (.int x3)] [] h I L := by
  refine J.iload_n dX12_copy_2 rfl rfl ?_
  refine J.sipush (v := 500) dX12_copy_3 (by decide) ?_
  refine J.ic_ge 39 dX12_copy_6 (by decide) (fun hc1 => ?_) (fun hc1 => ?_)
  · have hW := hW.1 hc1
    refine J.aload_n dX12_copy_39 rfl rfl ?_
    refine J.getR (r := 85) fl_X12_13 rfl dX12_copy_40 (lt83 hs) (kk83 hs) (rr83_2 hs) ?_
    refine J.iconst (v := 1) dX12_copy_43 (by decide) ?_
    refine J.iload_n dX12_copy_44 rfl rfl ?_
    refine J.iload_n dX12_copy_45 rfl rfl ?_
    refine J.callS (M' := mX12_move) (index := 206) (bc := 0) (bs := 0) (bc' := 0) (bs' := 0) (st := []) [.ref (eB E + 85), .int 1, .int x1, .int x2] ml_X12_206 cv_X12_move dX12_copy_46 rfl rfl (Nat.le_of_ble_eq_true rfl) (kqv hW (fun I2 hW => ?_))
    refine J.aload_n dX12_copy_49 rfl rfl ?_
    refine J.getR (r := 86) fl_X12_17 rfl dX12_copy_50 (lt83 hs) (kk83 hs) (rr83_3 hs) ?_
    refine J.iconst (v := 1) dX12_copy_53 (by decide) ?_
    refine J.iload_n dX12_copy_54 rfl rfl ?_
    refine J.iload_n dX12_copy_55 rfl rfl ?_
    refine J.callS (M' := mX12_move) (index := 206) (bc := 0) (bs := 0) (bc' := 0) (bs' := 0) (st := []) [.ref (eB E + 86), .int 1, .int x1, .int x2] ml_X12_206 cv_X12_move dX12_copy_56 rfl rfl (Nat.le_of_ble_eq_true rfl) (kqv hW (fun I3 hW => ?_))
    refine J.aload_n dX12_copy_59 rfl rfl ?_
    refine J.getR (r := 87) fl_X12_20 rfl dX12_copy_60 (lt83 hs) (kk83 hs) (rr83_4 hs) ?_
    refine J.iconst (v := 1) dX12_copy_63 (by decide) ?_
    refine J.iload_n dX12_copy_64 rfl rfl ?_
    refine J.iload_n dX12_copy_65 rfl rfl ?_
    refine J.callS (M' := mX12_move) (index := 206) (bc := 0) (bs := 0) (bc' := 0) (bs' := 0) (st := []) [.ref (eB E + 87), .int 1, .int x1, .int x2] ml_X12_206 cv_X12_move dX12_copy_66 rfl rfl (Nat.le_of_ble_eq_true rfl) (kqv hW (fun I4 hW => ?_))
    refine J.aload_n dX12_copy_69 rfl rfl ?_
    refine J.getR (r := 88) fl_X12_23 rfl dX12_copy_70 (lt83 hs) (kk83 hs) (rr83_5 hs) ?_
    refine J.iconst (v := 1) dX12_copy_73 (by decide) ?_
    refine J.iload_n dX12_copy_74 rfl rfl ?_
    refine J.iload_n dX12_copy_75 rfl rfl ?_
    refine J.callS (M' := mX12_move) (index := 206) (bc := 0) (bs := 0) (bc' := 0) (bs' := 0) (st := []) [.ref (eB E + 88), .int 1, .int x1, .int x2] ml_X12_206 cv_X12_move dX12_copy_76 rfl rfl (Nat.le_of_ble_eq_true rfl) (kqv hW (fun I5 hW => ?_))
    refine J.aload_n dX12_copy_79 rfl rfl ?_
    refine J.getR (r := 89) fl_X12_26 rfl dX12_copy_80 (lt83 hs) (kk83 hs) (rr83_6 hs) ?_
    refine J.bipush (v := 25) dX12_copy_83 (by decide) ?_
    refine J.iload_n dX12_copy_85 rfl rfl ?_
    refine J.iload_n dX12_copy_86 rfl rfl ?_
    refine J.callS (M' := mX12_move) (index := 206) (bc := 0) (bs := 0) (bc' := 0) (bs' := 0) (st := []) [.ref (eB E + 89), .int 25, .int x1, .int x2] ml_X12_206 cv_X12_move dX12_copy_87 rfl rfl (Nat.le_of_ble_eq_true rfl) (kqv hW (fun I6 hW => ?_))
    refine J.aload_n dX12_copy_90 rfl rfl ?_
    refine J.getR (r := 90) fl_X12_29 rfl dX12_copy_91 (lt83 hs) (kk83 hs) (rr83_7 hs) ?_
    refine J.iconst (v := 1) dX12_copy_94 (by decide) ?_
    refine J.iload_n dX12_copy_95 rfl rfl ?_
    refine J.iload_n dX12_copy_96 rfl rfl ?_
    refine J.callS (M' := mX12_move) (index := 206) (bc := 0) (bs := 0) (bc' := 0) (bs' := 0) (st := []) [.ref (eB E + 90), .int 1, .int x1, .int x2] ml_X12_206 cv_X12_move dX12_copy_97 rfl rfl (Nat.le_of_ble_eq_true rfl) (kqv hW (fun I7 hW => ?_))
    refine J.aload_n dX12_copy_100 rfl rfl ?_
    refine J.getR (r := 91) fl_X12_32 rfl dX12_copy_101 (lt83 hs) (kk83 hs) (rr83_8 hs) ?_
    refine J.bipush (v := 8) dX12_copy_104 (by decide) ?_
    refine J.iload_n dX12_copy_106 rfl rfl ?_
    refine J.iload_n dX12_copy_107 rfl rfl ?_
    refine J.callS (M' := mX12_move) (index := 206) (bc := 0) (bs := 0) (bc' := 0) (bs' := 0) (st := []) [.ref (eB E + 91), .int 8, .int x1, .int x2] ml_X12_206 cv_X12_move dX12_copy_108 rfl rfl (Nat.le_of_ble_eq_true rfl) (kqv hW (fun I8 hW => ?_))
    refine J.aload_n dX12_copy_111 rfl rfl ?_
    refine J.getR (r := 92) fl_X12_35 rfl dX12_copy_112 (lt83 hs) (kk83 hs) (rr83_9 hs) ?_
    refine J.bipush (v := 8) dX12_copy_115 (by decide) ?_
    refine J.iload_n dX12_copy_117 rfl rfl ?_
    refine J.iload_n dX12_copy_118 rfl rfl ?_
    refine J.callS (M' := mX12_move) (index := 206) (bc := 0) (bs := 0) (bc' := 0) (bs' := 0) (st := []) [.ref (eB E + 92), .int 8, .int x1, .int x2] ml_X12_206 cv_X12_move dX12_copy_119 rfl rfl (Nat.le_of_ble_eq_true rfl) (kqv hW (fun I9 hW => ?_))
    refine J.aload_n dX12_copy_122 rfl rfl ?_
    refine J.getR (r := 93) fl_X12_38 rfl dX12_copy_123 (lt83 hs) (kk83 hs) (rr83_10 hs) ?_
    refine J.bipush (v := 8) dX12_copy_126 (by decide) ?_
    refine J.iload_n dX12_copy_128 rfl rfl ?_
    refine J.iload_n dX12_copy_129 rfl rfl ?_
    refine J.callS (M' := mX12_move) (index := 206) (bc := 0) (bs := 0) (bc' := 0) (bs' := 0) (st := []) [.ref (eB E + 93), .int 8, .int x1, .int x2] ml_X12_206 cv_X12_move dX12_copy_130 rfl rfl (Nat.le_of_ble_eq_true rfl) (kqv hW (fun I10 hW => ?_))
    refine J.aload_n dX12_copy_133 rfl rfl ?_
    refine J.getR (r := 94) fl_X12_41 rfl dX12_copy_134 (lt83 hs) (kk83 hs) (rr83_11 hs) ?_
    refine J.bipush (v := 8) dX12_copy_137 (by decide) ?_
    refine J.iload_n dX12_copy_139 rfl rfl ?_
    refine J.iload_n dX12_copy_140 rfl rfl ?_
    refine J.callS (M' := mX12_move) (index := 206) (bc := 0) (bs := 0) (bc' := 0) (bs' := 0) (st := []) [.ref (eB E + 94), .int 8, .int x1, .int x2] ml_X12_206 cv_X12_move dX12_copy_141 rfl rfl (Nat.le_of_ble_eq_true rfl) (kqv hW (fun I11 hW => ?_))
    refine J.aload_n dX12_copy_144 rfl rfl ?_
    refine J.getR (r := 95) fl_X12_44 rfl dX12_copy_145 (lt83 hs) (kk83 hs) (rr83_12 hs) ?_
    refine J.iconst (v := 1) dX12_copy_148 (by decide) ?_
    refine J.iload_n dX12_copy_149 rfl rfl ?_
    refine J.iload_n dX12_copy_150 rfl rfl ?_
    refine J.callS (M' := mX12_move) (index := 206) (bc := 0) (bs := 0) (bc' := 0) (bs' := 0) (st := []) [.ref (eB E + 95), .int 1, .int x1, .int x2] ml_X12_206 cv_X12_move dX12_copy_151 rfl rfl (Nat.le_of_ble_eq_true rfl) (kqv hW (fun I12 hW => ?_))
    refine J.aload_n dX12_copy_154 rfl rfl ?_
    refine J.getR (r := 96) fl_X12_47 rfl dX12_copy_155 (lt83 hs) (kk83 hs) (rr83_13 hs) ?_
    refine J.bipush (v := 20) dX12_copy_158 (by decide) ?_
    refine J.iload_n dX12_copy_160 rfl rfl ?_
    refine J.iload_n dX12_copy_161 rfl rfl ?_
    refine J.callS (M' := mX12_move) (index := 206) (bc := 0) (bs := 0) (bc' := 0) (bs' := 0) (st := []) [.ref (eB E + 96), .int 20, .int x1, .int x2] ml_X12_206 cv_X12_move dX12_copy_162 rfl rfl (Nat.le_of_ble_eq_true rfl) (kqv hW (fun I13 hW => ?_))
    refine J.aload_n dX12_copy_165 rfl rfl ?_
    refine J.getR (r := 97) fl_X12_50 rfl dX12_copy_166 (lt83 hs) (kk83 hs) (rr83_14 hs) ?_
    refine J.bipush (v := 20) dX12_copy_169 (by decide) ?_
    refine J.iload_n dX12_copy_171 rfl rfl ?_
    refine J.iload_n dX12_copy_172 rfl rfl ?_
    refine J.callS (M' := mX12_move) (index := 206) (bc := 0) (bs := 0) (bc' := 0) (bs' := 0) (st := []) [.ref (eB E + 97), .int 20, .int x1, .int x2] ml_X12_206 cv_X12_move dX12_copy_173 rfl rfl (Nat.le_of_ble_eq_true rfl) (kqv hW (fun I14 hW => ?_))
    refine J.aload_n dX12_copy_176 rfl rfl ?_
    refine J.getR (r := 98) fl_X12_53 rfl dX12_copy_177 (lt83 hs) (kk83 hs) (rr83_15 hs) ?_
    refine J.bipush (v := 20) dX12_copy_180 (by decide) ?_
    refine J.iload_n dX12_copy_182 rfl rfl ?_
    refine J.iload_n dX12_copy_183 rfl rfl ?_
    refine J.callS (M' := mX12_move) (index := 206) (bc := 0) (bs := 0) (bc' := 0) (bs' := 0) (st := []) [.ref (eB E + 98), .int 20, .int x1, .int x2] ml_X12_206 cv_X12_move dX12_copy_184 rfl rfl (Nat.le_of_ble_eq_true rfl) (kqv hW (fun I15 hW => ?_))
    refine J.aload_n dX12_copy_187 rfl rfl ?_
    refine J.getR (r := 99) fl_X12_56 rfl dX12_copy_188 (lt83 hs) (kk83 hs) (rr83_16 hs) ?_
    refine J.bipush (v := 20) dX12_copy_191 (by decide) ?_
    refine J.iload_n dX12_copy_193 rfl rfl ?_
    refine J.iload_n dX12_copy_194 rfl rfl ?_
    refine J.callS (M' := mX12_move) (index := 206) (bc := 0) (bs := 0) (bc' := 0) (bs' := 0) (st := []) [.ref (eB E + 99), .int 20, .int x1, .int x2] ml_X12_206 cv_X12_move dX12_copy_195 rfl rfl (Nat.le_of_ble_eq_true rfl) (kqv hW (fun I16 hW => ?_))
    refine J.aload_n dX12_copy_198 rfl rfl ?_
    refine J.getR (r := 100) fl_X12_59 rfl dX12_copy_199 (lt83 hs) (kk83 hs) (rr83_17 hs) ?_
    refine J.bipush (v := 20) dX12_copy_202 (by decide) ?_
    refine J.iload_n dX12_copy_204 rfl rfl ?_
    refine J.iload_n dX12_copy_205 rfl rfl ?_
    refine J.callS (M' := mX12_moveBits) (index := 210) (bc := 0) (bs := 0) (bc' := 0) (bs' := 0) (st := []) [.ref (eB E + 100), .int 20, .int x1, .int x2] ml_X12_210 cv_X12_moveBits dX12_copy_206 rfl rfl (Nat.le_of_ble_eq_true rfl) (kqv hW (fun I17 hW => ?_))
    refine J.aload_n dX12_copy_209 rfl rfl ?_
    refine J.getR (r := 101) fl_X12_63 rfl dX12_copy_210 (lt83 hs) (kk83 hs) (rr83_18 hs) ?_
    refine J.bipush (v := 20) dX12_copy_213 (by decide) ?_
    refine J.iload_n dX12_copy_215 rfl rfl ?_
    refine J.iload_n dX12_copy_216 rfl rfl ?_
    refine J.callS (M' := mX12_move) (index := 206) (bc := 0) (bs := 0) (bc' := 0) (bs' := 0) (st := []) [.ref (eB E + 101), .int 20, .int x1, .int x2] ml_X12_206 cv_X12_move dX12_copy_217 rfl rfl (Nat.le_of_ble_eq_true rfl) (kqv hW (fun I18 hW => ?_))
    refine J.aload_n dX12_copy_220 rfl rfl ?_
    refine J.getR (r := 102) fl_X12_66 rfl dX12_copy_221 (lt83 hs) (kk83 hs) (rr83_19 hs) ?_
    refine J.bipush (v := 20) dX12_copy_224 (by decide) ?_
    refine J.iload_n dX12_copy_226 rfl rfl ?_
    refine J.iload_n dX12_copy_227 rfl rfl ?_
    refine J.callS (M' := mX12_moveBits) (index := 210) (bc := 0) (bs := 0) (bc' := 0) (bs' := 0) (st := []) [.ref (eB E + 102), .int 20, .int x1, .int x2] ml_X12_210 cv_X12_moveBits dX12_copy_228 rfl rfl (Nat.le_of_ble_eq_true rfl) (kqv hW (fun I19 hW => ?_))
    refine J.aload_n dX12_copy_231 rfl rfl ?_
    refine J.getR (r := 103) fl_X12_69 rfl dX12_copy_232 (lt83 hs) (kk83 hs) (rr83_20 hs) ?_
    refine J.bipush (v := 20) dX12_copy_235 (by decide) ?_
    refine J.iload_n dX12_copy_237 rfl rfl ?_
    refine J.iload_n dX12_copy_238 rfl rfl ?_
    refine J.callS (M' := mX12_moveBits) (index := 210) (bc := 0) (bs := 0) (bc' := 0) (bs' := 0) (st := []) [.ref (eB E + 103), .int 20, .int x1, .int x2] ml_X12_210 cv_X12_moveBits dX12_copy_239 rfl rfl (Nat.le_of_ble_eq_true rfl) (kqv hW (fun I20 hW => ?_))
    refine J.aload_n dX12_copy_242 rfl rfl ?_
    refine J.getR (r := 104) fl_X12_72 rfl dX12_copy_243 (lt83 hs) (kk83 hs) (rr83_21 hs) ?_
    refine J.iconst (v := 1) dX12_copy_246 (by decide) ?_
    refine J.iload_n dX12_copy_247 rfl rfl ?_
    refine J.iload_n dX12_copy_248 rfl rfl ?_
    refine J.callS (M' := mX12_move) (index := 206) (bc := 0) (bs := 0) (bc' := 0) (bs' := 0) (st := []) [.ref (eB E + 104), .int 1, .int x1, .int x2] ml_X12_206 cv_X12_move dX12_copy_249 rfl rfl (Nat.le_of_ble_eq_true rfl) (kqv hW (fun I21 hW => ?_))
    refine J.aload_n dX12_copy_252 rfl rfl ?_
    refine J.getR (r := 105) fl_X12_75 rfl dX12_copy_253 (lt83 hs) (kk83 hs) (rr83_22 hs) ?_
    refine J.sipush (v := 240) dX12_copy_256 (by decide) ?_
    refine J.iload_n dX12_copy_259 rfl rfl ?_
    refine J.iload_n dX12_copy_260 rfl rfl ?_
    refine J.callS (M' := mX12_move) (index := 206) (bc := 0) (bs := 0) (bc' := 0) (bs' := 0) (st := []) [.ref (eB E + 105), .int 240, .int x1, .int x2] ml_X12_206 cv_X12_move dX12_copy_261 rfl rfl (Nat.le_of_ble_eq_true rfl) (kqv hW (fun I22 hW => ?_))
    refine J.aload_n dX12_copy_264 rfl rfl ?_
    refine J.iload_n dX12_copy_265 rfl rfl ?_
    refine J.iload_n dX12_copy_266 rfl rfl ?_
    refine J.callV (M' := mX12_copyMatches) (index := 214) (bc := 0) (bs := 0) (bc' := 0) (bs' := 0) (st := []) [.int x1, .int x2] ml_X12_214 cv_X12_copyMatches dX12_copy_267 (lt83 hs) (kk83 hs) (by decide) rfl rfl rfl rfl (Nat.le_of_ble_eq_true rfl) (kqv hW (fun I23 hW => ?_))
    exact J.retv dX12_copy_270 rfl hW
  · have hW := hW.2 hc1
    refine J.aload_n dX12_copy_9 rfl rfl ?_
    refine J.getR (r := 84) fl_X12_7 rfl dX12_copy_10 (lt83 hs) (kk83 hs) (rr83_1 hs) ?_
    refine J.sipush (v := 500) dX12_copy_13 (by decide) ?_
    refine J.iload_n dX12_copy_16 rfl rfl ?_
    refine J.imul dX12_copy_17 ?_
    refine J.iload_n dX12_copy_18 rfl rfl ?_
    refine J.iadd dX12_copy_19 ?_
    refine J.aload_n dX12_copy_20 rfl rfl ?_
    refine J.getR (r := 84) fl_X12_7 rfl dX12_copy_21 (lt83 hs) (kk83 hs) (rr83_1 hs) ?_
    refine J.sipush (v := 500) dX12_copy_24 (by decide) ?_
    refine J.iload_n dX12_copy_27 rfl rfl ?_
    refine J.imul dX12_copy_28 ?_
    refine J.iload_n dX12_copy_29 rfl rfl ?_
    refine J.iadd dX12_copy_30 ?_
    obtain ⟨hb24, hW⟩ := hW
    refine J.bald (x := I 84 (((500 * x1) + x3).toNatClampNeg)) dX12_copy_31 (lt84 hs) (kk84 hs) hb24 rfl ?_
    obtain ⟨hb25, hW⟩ := hW
    obtain ⟨hz26, hW⟩ := hW
    refine J.bast2 dX12_copy_32 (lt84 hs) (kk84 hs) hb25 hz26 ?_
    refine J.iinc (v := x3 + 1) (vs' := [some (.ref (eB E + 83)), some (.int x1), some (.int x2), some (.int (x3 + 1))]) dX12_copy_33 rfl (by rfl) (by decide) rfl ?_
    refine J.goto 2 dX12_copy_36 (by decide) ?_
    exact hW
set_option maxRecDepth 100000 in
set_option maxHeartbeats 4000000 in
theorem w_X12_isVillage {E : Envt} {d : Nat} {Q : Pst} {h : mS} {I : mI} {L : mL} (hs : SL h) (x0 : Int32) 
    (hW : Q (some (.int (bI (¬ (x0 < 0) ∧ (¬ (4 < x0)))))) h I L) :
    CT E mX12_isVillage (d + 1) 0 0 [.int x0] h I L Q := by
  refine CT.of (by decide) [some (.int x0)] rfl (Nat.le_of_ble_eq_true rfl) ?_
  refine J.iload_n dX12_isVillage_0 rfl rfl ?_
  refine J.iconst (v := 0) dX12_isVillage_1 (by decide) ?_
  refine J.iconst (v := 4) dX12_isVillage_2 (by decide) ?_
  refine J.callS (M' := mX12_in) (index := 218) (bc := 0) (bs := 0) (bc' := 0) (bs' := 0) (st := []) [.int x0, .int 0, .int 4] ml_X12_218 cv_X12_in dX12_isVillage_3 rfl rfl (Nat.le_of_ble_eq_true rfl) (kqi (w_X12_in (d := d) (Q := qi h L (fun v I' => I' = I ∧ v = bI (¬ (x0 < 0) ∧ (¬ (4 < x0))))) hs x0 0 4 ⟨rfl, rfl, _, rfl, rfl, rfl⟩) (fun v1 I2 hv => ?_))
  rw [hv.1, hv.2]
  exact J.reti dX12_isVillage_6 rfl (bz_nar (bI_bz _)) hW
set_option maxRecDepth 100000 in
set_option maxHeartbeats 4000000 in
theorem w_X12_isHouse {E : Envt} {d : Nat} {Q : Pst} {h : mS} {I : mI} {L : mL} (hs : SL h) (x1 : Int32) 
    (hW : Q (some (.int (bI (¬ (x1 < 0) ∧ (¬ (((I 90 0) - 1) < x1)))))) h I L) :
    CT E mX12_isHouse (d + 1) 0 0 [.ref (eB E + 83), .int x1] h I L Q := by
  refine CT.of (by decide) [some (.ref (eB E + 83)), some (.int x1)] rfl (Nat.le_of_ble_eq_true rfl) ?_
  refine J.iload_n dX12_isHouse_0 rfl rfl ?_
  refine J.iconst (v := 0) dX12_isHouse_1 (by decide) ?_
  refine J.aload_n dX12_isHouse_2 rfl rfl ?_
  refine J.getR (r := 90) fl_X12_29 rfl dX12_isHouse_3 (lt83 hs) (kk83 hs) (rr83_7 hs) ?_
  refine J.iconst (v := 0) dX12_isHouse_6 (by decide) ?_
  refine J.iald (x := I 90 0) dX12_isHouse_7 (lt90 hs) (kk90 hs) (by unfold vp_in; decide) rfl ?_
  refine J.iconst (v := 1) dX12_isHouse_8 (by decide) ?_
  refine J.isub dX12_isHouse_9 ?_
  refine J.callS (M' := mX12_in) (index := 218) (bc := 0) (bs := 0) (bc' := 0) (bs' := 0) (st := []) [.int x1, .int 0, .int ((I 90 0) - 1)] ml_X12_218 cv_X12_in dX12_isHouse_10 rfl rfl (Nat.le_of_ble_eq_true rfl) (kqi (w_X12_in (d := d) (Q := qi h L (fun v I' => I' = I ∧ v = bI (¬ (x1 < 0) ∧ (¬ (((I 90 0) - 1) < x1))))) hs x1 0 ((I 90 0) - 1) ⟨rfl, rfl, _, rfl, rfl, rfl⟩) (fun v1 I2 hv => ?_))
  rw [hv.1, hv.2]
  exact J.reti dX12_isHouse_13 rfl (bz_nar (bI_bz _)) hW
set_option maxRecDepth 100000 in
set_option maxHeartbeats 4000000 in
theorem w_X12_isPerson {E : Envt} {d : Nat} {Q : Pst} {h : mS} {I : mI} {L : mL} (hs : SL h) (x1 : Int32) 
    (hW : Q (some (.int (bI (¬ (x1 < 0) ∧ (¬ (((I 95 0) - 1) < x1)))))) h I L) :
    CT E mX12_isPerson (d + 1) 0 0 [.ref (eB E + 83), .int x1] h I L Q := by
  refine CT.of (by decide) [some (.ref (eB E + 83)), some (.int x1)] rfl (Nat.le_of_ble_eq_true rfl) ?_
  refine J.iload_n dX12_isPerson_0 rfl rfl ?_
  refine J.iconst (v := 0) dX12_isPerson_1 (by decide) ?_
  refine J.aload_n dX12_isPerson_2 rfl rfl ?_
  refine J.getR (r := 95) fl_X12_44 rfl dX12_isPerson_3 (lt83 hs) (kk83 hs) (rr83_12 hs) ?_
  refine J.iconst (v := 0) dX12_isPerson_6 (by decide) ?_
  refine J.iald (x := I 95 0) dX12_isPerson_7 (lt95 hs) (kk95 hs) (by unfold vp_in; decide) rfl ?_
  refine J.iconst (v := 1) dX12_isPerson_8 (by decide) ?_
  refine J.isub dX12_isPerson_9 ?_
  refine J.callS (M' := mX12_in) (index := 218) (bc := 0) (bs := 0) (bc' := 0) (bs' := 0) (st := []) [.int x1, .int 0, .int ((I 95 0) - 1)] ml_X12_218 cv_X12_in dX12_isPerson_10 rfl rfl (Nat.le_of_ble_eq_true rfl) (kqi (w_X12_in (d := d) (Q := qi h L (fun v I' => I' = I ∧ v = bI (¬ (x1 < 0) ∧ (¬ (((I 95 0) - 1) < x1))))) hs x1 0 ((I 95 0) - 1) ⟨rfl, rfl, _, rfl, rfl, rfl⟩) (fun v1 I2 hv => ?_))
  rw [hv.1, hv.2]
  exact J.reti dX12_isPerson_13 rfl (bz_nar (bI_bz _)) hW
set_option maxRecDepth 100000 in
set_option maxHeartbeats 4000000 in
theorem w_X12_areCouple {E : Envt} {d : Nat} {Q : Pst} {h : mS} {I : mI} {L : mL} (hs : SL h) (x1 : Int32) (x2 : Int32) 
    (hW : (((¬ (x1 < 0) ∧ (¬ (((I 95 0) - 1) < x1))) → (¬ (x2 < 0) ∧ (¬ (((I 95 0) - 1) < x2))) → vp_in x1 80) ∧ (((¬ (x1 < 0) ∧ (¬ (((I 95 0) - 1) < x1))) → (¬ (x2 < 0) ∧ (¬ (((I 95 0) - 1) < x2))) → ((I 97 x1.toNatClampNeg) = 0) → vp_in x2 80) ∧ Q (some (.int (bI ((¬ (x1 < 0) ∧ (¬ (((I 95 0) - 1) < x1))) ∧ ((¬ (x2 < 0) ∧ (¬ (((I 95 0) - 1) < x2))) ∧ (((I 97 x1.toNatClampNeg) = 0) ∧ ((I 97 x2.toNatClampNeg) = 1))))))) h I L))) :
    CT E mX12_areCouple (d + 2) 0 0 [.ref (eB E + 83), .int x1, .int x2] h I L Q := by
  refine CT.of (by decide) [some (.ref (eB E + 83)), some (.int x1), some (.int x2)] rfl (Nat.le_of_ble_eq_true rfl) ?_
  refine J.aload_n dX12_areCouple_0 rfl rfl ?_
  refine J.iload_n dX12_areCouple_1 rfl rfl ?_
  refine J.callV (M' := mX12_isPerson) (index := 222) (bc := 0) (bs := 0) (bc' := 0) (bs' := 0) (st := []) [.int x1] ml_X12_222 cv_X12_isPerson dX12_areCouple_2 (lt83 hs) (kk83 hs) (by decide) rfl rfl rfl rfl (Nat.le_of_ble_eq_true rfl) (kqi (w_X12_isPerson (d := d) (Q := qi h L (fun v I' => I' = I ∧ v = bI (¬ (x1 < 0) ∧ (¬ (((I 95 0) - 1) < x1))))) hs x1 ⟨rfl, rfl, _, rfl, rfl, rfl⟩) (fun v1 I2 hv => ?_))
  rw [hv.1, hv.2]
  obtain ⟨hq8, hW⟩ := hW
  obtain ⟨hq11, hW⟩ := hW
  have hj : J E mX12_areCouple (d + 2) Q 0 0 40 [some (.ref (eB E + 83)), some (.int x1), some (.int x2)] [.int (bI ((¬ (x1 < 0) ∧ (¬ (((I 95 0) - 1) < x1))) ∧ ((¬ (x2 < 0) ∧ (¬ (((I 95 0) - 1) < x2))) ∧ (((I 97 x1.toNatClampNeg) = 0) ∧ ((I 97 x2.toNatClampNeg) = 1)))))] h I L := by
    exact J.reti dX12_areCouple_40 rfl (bz_nar (bI_bz _)) hW
  refine J.if_eq 39 dX12_areCouple_5 (by decide) (fun hc3 => ?_) (fun hc3 => ?_)
  · have hc3 := bI_0.mp hc3
    refine J.iconst (v := 0) dX12_areCouple_39 (by decide) ?_
    rw [show bI ((¬ (x1 < 0) ∧ (¬ (((I 95 0) - 1) < x1))) ∧ ((¬ (x2 < 0) ∧ (¬ (((I 95 0) - 1) < x2))) ∧ (((I 97 x1.toNatClampNeg) = 0) ∧ ((I 97 x2.toNatClampNeg) = 1)))) = 0 from bI_f (by simp only [eq_false hc3, and_true, true_and, and_false, false_and, or_true, true_or, or_false, false_or, not_true_eq_false, not_false_eq_true])] at hj
    exact hj
  · have hc3 := bI_n0.mp hc3
    refine J.aload_n dX12_areCouple_8 rfl rfl ?_
    refine J.iload_n dX12_areCouple_9 rfl rfl ?_
    refine J.callV (M' := mX12_isPerson) (index := 222) (bc := 0) (bs := 0) (bc' := 0) (bs' := 0) (st := []) [.int x2] ml_X12_222 cv_X12_isPerson dX12_areCouple_10 (lt83 hs) (kk83 hs) (by decide) rfl rfl rfl rfl (Nat.le_of_ble_eq_true rfl) (kqi (w_X12_isPerson (d := d) (Q := qi h L (fun v I' => I' = I ∧ v = bI (¬ (x2 < 0) ∧ (¬ (((I 95 0) - 1) < x2))))) hs x2 ⟨rfl, rfl, _, rfl, rfl, rfl⟩) (fun v4 I5 hv => ?_))
    rw [hv.1, hv.2]
    refine J.if_eq 39 dX12_areCouple_13 (by decide) (fun hc6 => ?_) (fun hc6 => ?_)
    · have hc6 := bI_0.mp hc6
      refine J.iconst (v := 0) dX12_areCouple_39 (by decide) ?_
      rw [show bI ((¬ (x1 < 0) ∧ (¬ (((I 95 0) - 1) < x1))) ∧ ((¬ (x2 < 0) ∧ (¬ (((I 95 0) - 1) < x2))) ∧ (((I 97 x1.toNatClampNeg) = 0) ∧ ((I 97 x2.toNatClampNeg) = 1)))) = 0 from bI_f (by simp only [eq_true hc3, eq_false hc6, and_true, true_and, and_false, false_and, or_true, true_or, or_false, false_or, not_true_eq_false, not_false_eq_true])] at hj
      exact hj
    · have hc6 := bI_n0.mp hc6
      refine J.aload_n dX12_areCouple_16 rfl rfl ?_
      refine J.getR (r := 97) fl_X12_50 rfl dX12_areCouple_17 (lt83 hs) (kk83 hs) (rr83_14 hs) ?_
      refine J.iload_n dX12_areCouple_20 rfl rfl ?_
      have hb7 := hq8 hc3 hc6
      refine J.iald (x := I 97 x1.toNatClampNeg) dX12_areCouple_21 (lt97 hs) (kk97 hs) hb7 rfl ?_
      refine J.if_ne 39 dX12_areCouple_22 (by decide) (fun hc9 => ?_) (fun hc9 => ?_)
      · refine J.iconst (v := 0) dX12_areCouple_39 (by decide) ?_
        rw [show bI ((¬ (x1 < 0) ∧ (¬ (((I 95 0) - 1) < x1))) ∧ ((¬ (x2 < 0) ∧ (¬ (((I 95 0) - 1) < x2))) ∧ (((I 97 x1.toNatClampNeg) = 0) ∧ ((I 97 x2.toNatClampNeg) = 1)))) = 0 from bI_f (by simp only [eq_true hc3, eq_true hc6, eq_false hc9, and_true, true_and, and_false, false_and, or_true, true_or, or_false, false_or, not_true_eq_false, not_false_eq_true])] at hj
        exact hj
      · refine J.aload_n dX12_areCouple_25 rfl rfl ?_
        refine J.getR (r := 97) fl_X12_50 rfl dX12_areCouple_26 (lt83 hs) (kk83 hs) (rr83_14 hs) ?_
        refine J.iload_n dX12_areCouple_29 rfl rfl ?_
        have hb10 := hq11 hc3 hc6 hc9
        refine J.iald (x := I 97 x2.toNatClampNeg) dX12_areCouple_30 (lt97 hs) (kk97 hs) hb10 rfl ?_
        refine J.iconst (v := 1) dX12_areCouple_31 (by decide) ?_
        refine J.ic_ne 39 dX12_areCouple_32 (by decide) (fun hc12 => ?_) (fun hc12 => ?_)
        · refine J.iconst (v := 0) dX12_areCouple_39 (by decide) ?_
          rw [show bI ((¬ (x1 < 0) ∧ (¬ (((I 95 0) - 1) < x1))) ∧ ((¬ (x2 < 0) ∧ (¬ (((I 95 0) - 1) < x2))) ∧ (((I 97 x1.toNatClampNeg) = 0) ∧ ((I 97 x2.toNatClampNeg) = 1)))) = 0 from bI_f (by simp only [eq_true hc3, eq_true hc6, eq_true hc9, eq_false hc12, and_true, true_and, and_false, false_and, or_true, true_or, or_false, false_or, not_true_eq_false, not_false_eq_true])] at hj
          exact hj
        · refine J.iconst (v := 1) dX12_areCouple_35 (by decide) ?_
          refine J.goto 40 dX12_areCouple_36 (by decide) ?_
          rw [show bI ((¬ (x1 < 0) ∧ (¬ (((I 95 0) - 1) < x1))) ∧ ((¬ (x2 < 0) ∧ (¬ (((I 95 0) - 1) < x2))) ∧ (((I 97 x1.toNatClampNeg) = 0) ∧ ((I 97 x2.toNatClampNeg) = 1)))) = 1 from bI_t (by simp only [eq_true hc3, eq_true hc6, eq_true hc9, eq_true hc12, and_true, true_and, and_false, false_and, or_true, true_or, or_false, false_or, not_true_eq_false, not_false_eq_true])] at hj
          exact hj
set_option maxRecDepth 100000 in
set_option maxHeartbeats 4000000 in
theorem w_X12_ageOf {E : Envt} {d : Nat} {Q : Pst} {h : mS} {I : mI} {L : mL} (hs : SL h) (x1 : Int32) 
    (hW : (vp_in x1 80 ∧ Q (some (.int ((I 88 0) - (I 99 x1.toNatClampNeg)))) h I L)) :
    CT E mX12_ageOf d 0 0 [.ref (eB E + 83), .int x1] h I L Q := by
  refine CT.of (by decide) [some (.ref (eB E + 83)), some (.int x1)] rfl (Nat.le_of_ble_eq_true rfl) ?_
  refine J.aload_n dX12_ageOf_0 rfl rfl ?_
  refine J.getR (r := 88) fl_X12_23 rfl dX12_ageOf_1 (lt83 hs) (kk83 hs) (rr83_5 hs) ?_
  refine J.iconst (v := 0) dX12_ageOf_4 (by decide) ?_
  refine J.iald (x := I 88 0) dX12_ageOf_5 (lt88 hs) (kk88 hs) (by unfold vp_in; decide) rfl ?_
  refine J.aload_n dX12_ageOf_6 rfl rfl ?_
  refine J.getR (r := 99) fl_X12_56 rfl dX12_ageOf_7 (lt83 hs) (kk83 hs) (rr83_16 hs) ?_
  refine J.iload_n dX12_ageOf_10 rfl rfl ?_
  obtain ⟨hb1, hW⟩ := hW
  refine J.iald (x := I 99 x1.toNatClampNeg) dX12_ageOf_11 (lt99 hs) (kk99 hs) hb1 rfl ?_
  refine J.isub dX12_ageOf_12 ?_
  exact J.reti dX12_ageOf_13 rfl rfl hW
set_option maxRecDepth 100000 in
set_option maxHeartbeats 4000000 in
theorem w_X12_house {E : Envt} {d : Nat} {Q : Pst} {h : mS} {I : mI} {L : mL} (hs : SL h) (x1 : Int32) (x2 : Int32) (x3 : Int32) 
    (hW : ((((I 90 0) = 8) → Q (some (.int (-1))) h (uI I 83 0 0) L) ∧ (¬ ((I 90 0) = 8) → (((¬ (x1 < 0) ∧ (¬ (5 < x1))) → (((¬ (x2 < 0) ∧ (¬ (4 < x2))) → (((¬ (x3 < 0) ∧ (¬ (100000 < x3))) → (vp_in (I 90 0) 32 ∧ Q (some (.int (I 90 0))) h (uI (uI (uI (uI (uI (uI I 83 0 0) 90 0 ((I 90 0) + 1)) 91 ((I 90 0).toNatClampNeg) x1) 92 ((I 90 0).toNatClampNeg) x2) 93 ((I 90 0).toNatClampNeg) x3) 94 ((I 90 0).toNatClampNeg) 0) L)) ∧ (¬ (¬ (x3 < 0) ∧ (¬ (100000 < x3))) → Q (some (.int (-1))) h (uI I 83 0 0) L))) ∧ (¬ (¬ (x2 < 0) ∧ (¬ (4 < x2))) → Q (some (.int (-1))) h (uI I 83 0 0) L))) ∧ (¬ (¬ (x1 < 0) ∧ (¬ (5 < x1))) → Q (some (.int (-1))) h (uI I 83 0 0) L))))) :
    CT E mX12_house (d + 2) 0 0 [.ref (eB E + 83), .int x1, .int x2, .int x3] h I L Q := by
  refine CT.of (by decide) [some (.ref (eB E + 83)), some (.int x1), some (.int x2), some (.int x3), none] rfl (Nat.le_of_ble_eq_true rfl) ?_
  refine J.aload_n dX12_house_0 rfl rfl ?_
  refine J.iconst (v := 0) dX12_house_1 (by decide) ?_
  refine J.putI fw_X12_202 rfl dX12_house_2 (lt83 hs) (kk83 hs) ?_
  refine J.aload_n dX12_house_5 rfl rfl ?_
  refine J.getR (r := 90) fl_X12_29 rfl dX12_house_6 (lt83 hs) (kk83 hs) (rr83_7 hs) ?_
  refine J.iconst (v := 0) dX12_house_9 (by decide) ?_
  refine J.iald (x := I 90 0) dX12_house_10 (lt90 hs) (kk90 hs) (by unfold vp_in; decide) rfl ?_
  refine J.bipush (v := 8) dX12_house_11 (by decide) ?_
  refine J.ic_eq 42 dX12_house_13 (by decide) (fun hc1 => ?_) (fun hc1 => ?_)
  · have hW := hW.1 hc1
    refine J.iconst (v := (-1)) dX12_house_42 (by decide) ?_
    exact J.reti dX12_house_43 rfl rfl hW
  · have hW := hW.2 hc1
    refine J.iload_n dX12_house_16 rfl rfl ?_
    refine J.iconst (v := 0) dX12_house_17 (by decide) ?_
    refine J.iconst (v := 5) dX12_house_18 (by decide) ?_
    refine J.callS (M' := mX12_in) (index := 218) (bc := 0) (bs := 0) (bc' := 0) (bs' := 0) (st := []) [.int x1, .int 0, .int 5] ml_X12_218 cv_X12_in dX12_house_19 rfl rfl (Nat.le_of_ble_eq_true rfl) (kqi (w_X12_in (d := d + 1) (Q := qi h L (fun v I' => I' = (uI I 83 0 0) ∧ v = bI (¬ (x1 < 0) ∧ (¬ (5 < x1))))) hs x1 0 5 ⟨rfl, rfl, _, rfl, rfl, rfl⟩) (fun v2 I3 hv => ?_))
    rw [hv.1, hv.2]
    refine J.if_eq 42 dX12_house_22 (by decide) (fun hc4 => ?_) (fun hc4 => ?_)
    · have hc4 := bI_0.mp hc4
      have hW := hW.2 hc4
      refine J.iconst (v := (-1)) dX12_house_42 (by decide) ?_
      exact J.reti dX12_house_43 rfl rfl hW
    · have hc4 := bI_n0.mp hc4
      have hW := hW.1 hc4
      refine J.iload_n dX12_house_25 rfl rfl ?_
      refine J.callS (M' := mX12_isVillage) (index := 226) (bc := 0) (bs := 0) (bc' := 0) (bs' := 0) (st := []) [.int x2] ml_X12_226 cv_X12_isVillage dX12_house_26 rfl rfl (Nat.le_of_ble_eq_true rfl) (kqi (w_X12_isVillage (d := d) (Q := qi h L (fun v I' => I' = (uI I 83 0 0) ∧ v = bI (¬ (x2 < 0) ∧ (¬ (4 < x2))))) hs x2 ⟨rfl, rfl, _, rfl, rfl, rfl⟩) (fun v5 I6 hv => ?_))
      rw [hv.1, hv.2]
      refine J.if_eq 42 dX12_house_29 (by decide) (fun hc7 => ?_) (fun hc7 => ?_)
      · have hc7 := bI_0.mp hc7
        have hW := hW.2 hc7
        refine J.iconst (v := (-1)) dX12_house_42 (by decide) ?_
        exact J.reti dX12_house_43 rfl rfl hW
      · have hc7 := bI_n0.mp hc7
        have hW := hW.1 hc7
        refine J.iload_n dX12_house_32 rfl rfl ?_
        refine J.iconst (v := 0) dX12_house_33 (by decide) ?_
        refine J.ldc (v := 100000) ck_X12_229 dX12_house_34 ?_
        refine J.callS (M' := mX12_in) (index := 218) (bc := 0) (bs := 0) (bc' := 0) (bs' := 0) (st := []) [.int x3, .int 0, .int 100000] ml_X12_218 cv_X12_in dX12_house_36 rfl rfl (Nat.le_of_ble_eq_true rfl) (kqi (w_X12_in (d := d + 1) (Q := qi h L (fun v I' => I' = (uI I 83 0 0) ∧ v = bI (¬ (x3 < 0) ∧ (¬ (100000 < x3))))) hs x3 0 100000 ⟨rfl, rfl, _, rfl, rfl, rfl⟩) (fun v8 I9 hv => ?_))
        rw [hv.1, hv.2]
        refine J.if_ne 44 dX12_house_39 (by decide) (fun hc10 => ?_) (fun hc10 => ?_)
        · have hc10 := bI_n0.mp hc10
          have hW := hW.1 hc10
          refine J.aload_n dX12_house_44 rfl rfl ?_
          refine J.getR (r := 90) fl_X12_29 rfl dX12_house_45 (lt83 hs) (kk83 hs) (rr83_7 hs) ?_
          refine J.iconst (v := 0) dX12_house_48 (by decide) ?_
          refine J.iald (x := I 90 0) dX12_house_49 (lt90 hs) (kk90 hs) (by unfold vp_in; decide) rfl ?_
          refine J.istore (vs' := [some (.ref (eB E + 83)), some (.int x1), some (.int x2), some (.int x3), some (.int (I 90 0))]) dX12_house_50 (by decide) rfl ?_
          refine J.aload_n dX12_house_52 rfl rfl ?_
          refine J.getR (r := 90) fl_X12_29 rfl dX12_house_53 (lt83 hs) (kk83 hs) (rr83_7 hs) ?_
          refine J.iconst (v := 0) dX12_house_56 (by decide) ?_
          refine J.dup2 dX12_house_57 rfl rfl ?_
          refine J.iald (x := I 90 0) dX12_house_58 (lt90 hs) (kk90 hs) (by unfold vp_in; decide) rfl ?_
          refine J.iconst (v := 1) dX12_house_59 (by decide) ?_
          refine J.iadd dX12_house_60 ?_
          refine J.iast dX12_house_61 (lt90 hs) (kk90 hs) (by unfold vp_in; decide) ?_
          refine J.aload_n dX12_house_62 rfl rfl ?_
          refine J.getR (r := 91) fl_X12_32 rfl dX12_house_63 (lt83 hs) (kk83 hs) (rr83_8 hs) ?_
          refine J.iload dX12_house_66 rfl ?_
          refine J.iload_n dX12_house_68 rfl rfl ?_
          obtain ⟨hb11, hW⟩ := hW
          refine J.iast dX12_house_69 (lt91 hs) (kk91 hs) hb11 ?_
          refine J.aload_n dX12_house_70 rfl rfl ?_
          refine J.getR (r := 92) fl_X12_35 rfl dX12_house_71 (lt83 hs) (kk83 hs) (rr83_9 hs) ?_
          refine J.iload dX12_house_74 rfl ?_
          refine J.iload_n dX12_house_76 rfl rfl ?_
          refine J.iast dX12_house_77 (lt92 hs) (kk92 hs) hb11 ?_
          refine J.aload_n dX12_house_78 rfl rfl ?_
          refine J.getR (r := 93) fl_X12_38 rfl dX12_house_79 (lt83 hs) (kk83 hs) (rr83_10 hs) ?_
          refine J.iload dX12_house_82 rfl ?_
          refine J.iload_n dX12_house_84 rfl rfl ?_
          refine J.iast dX12_house_85 (lt93 hs) (kk93 hs) hb11 ?_
          refine J.aload_n dX12_house_86 rfl rfl ?_
          refine J.getR (r := 94) fl_X12_41 rfl dX12_house_87 (lt83 hs) (kk83 hs) (rr83_11 hs) ?_
          refine J.iload dX12_house_90 rfl ?_
          refine J.iconst (v := 0) dX12_house_92 (by decide) ?_
          refine J.iast dX12_house_93 (lt94 hs) (kk94 hs) hb11 ?_
          refine J.iload dX12_house_94 rfl ?_
          exact J.reti dX12_house_96 rfl rfl hW
        · have hc10 := bI_0.mp hc10
          have hW := hW.2 hc10
          refine J.iconst (v := (-1)) dX12_house_42 (by decide) ?_
          exact J.reti dX12_house_43 rfl rfl hW
