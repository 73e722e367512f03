set_option maxRecDepth 100000 in
set_option maxHeartbeats 4000000 in
theorem w_X12_kinOf {E : Envt} {d : Nat} {Q : Pst} {h : mS} {I : mI} {L : mL} (hs : SL h) (x1 : Int32) (x2 : Int32) (x3 : Int32) (x4 : Int32) 
    (hW : (CT E mX12_findParents (d + 1) 0 0 [.ref (eB E + 83), .int x3, .int x4] h I L (qv h L fun I1 => (CT E mX12_findUp (d + 1) 0 0 [.ref (eB E + 83), .int x1, .ref (eB E + 125)] h I1 L (qv h L fun I2 => (CT E mX12_findUp (d + 1) 0 0 [.ref (eB E + 83), .int x2, .ref (eB E + 126)] h I2 L (qv h L fun I3 => J E mX12_kinOf (d + 2) Q 0 0 37 [some (.ref (eB E + 83)), some (.int x1), some (.int x2), some (.int x3), some (.int x4), some (.int 99), some (.int 0), none, none] [] h (uI I3 83 44 (-1)) L))))))) :
    CT E mX12_kinOf (d + 2) 0 0 [.ref (eB E + 83), .int x1, .int x2, .int x3, .int x4] h I L Q := by
  refine CT.of (by decide) [some (.ref (eB E + 83)), some (.int x1), some (.int x2), some (.int x3), some (.int x4), none, none, none, none] rfl (Nat.le_of_ble_eq_true rfl) ?_
  refine J.aload_n dX12_kinOf_0 rfl rfl ?_
  refine J.iload_n dX12_kinOf_1 rfl rfl ?_
  refine J.iload dX12_kinOf_2 rfl ?_
  refine J.callV (M' := mX12_findParents) (index := 252) (bc := 0) (bs := 0) (bc' := 0) (bs' := 0) (st := []) [.int x3, .int x4] ml_X12_252 cv_X12_findParents dX12_kinOf_4 (lt83 hs) (kk83 hs) (by decide) rfl rfl rfl rfl (Nat.le_of_ble_eq_true rfl) (kqv hW (fun I1 hW => ?_))
  refine J.aload_n dX12_kinOf_7 rfl rfl ?_
  refine J.iload_n dX12_kinOf_8 rfl rfl ?_
  refine J.aload_n dX12_kinOf_9 rfl rfl ?_
  refine J.getR (r := 125) fl_X12_135 rfl dX12_kinOf_10 (lt83 hs) (kk83 hs) (rr83_42 hs) ?_
  refine J.callV (M' := mX12_findUp) (index := 255) (bc := 0) (bs := 0) (bc' := 0) (bs' := 0) (st := []) [.int x1, .ref (eB E + 125)] ml_X12_255 cv_X12_findUp dX12_kinOf_13 (lt83 hs) (kk83 hs) (by decide) rfl rfl rfl rfl (Nat.le_of_ble_eq_true rfl) (kqv hW (fun I2 hW => ?_))
  refine J.aload_n dX12_kinOf_16 rfl rfl ?_
  refine J.iload_n dX12_kinOf_17 rfl rfl ?_
  refine J.aload_n dX12_kinOf_18 rfl rfl ?_
  refine J.getR (r := 126) fl_X12_138 rfl dX12_kinOf_19 (lt83 hs) (kk83 hs) (rr83_43 hs) ?_
  refine J.callV (M' := mX12_findUp) (index := 255) (bc := 0) (bs := 0) (bc' := 0) (bs' := 0) (st := []) [.int x2, .ref (eB E + 126)] ml_X12_255 cv_X12_findUp dX12_kinOf_22 (lt83 hs) (kk83 hs) (by decide) rfl rfl rfl rfl (Nat.le_of_ble_eq_true rfl) (kqv hW (fun I3 hW => ?_))
  refine J.bipush (v := 99) dX12_kinOf_25 (by decide) ?_
  refine J.istore (vs' := [some (.ref (eB E + 83)), some (.int x1), some (.int x2), some (.int x3), some (.int x4), some (.int 99), none, none, none]) dX12_kinOf_27 (by decide) rfl ?_
  refine J.aload_n dX12_kinOf_29 rfl rfl ?_
  refine J.iconst (v := (-1)) dX12_kinOf_30 (by decide) ?_
  refine J.putI fw_X12_259 rfl dX12_kinOf_31 (lt83 hs) (kk83 hs) ?_
  refine J.iconst (v := 0) dX12_kinOf_34 (by decide) ?_
  refine J.istore (vs' := [some (.ref (eB E + 83)), some (.int x1), some (.int x2), some (.int x3), some (.int x4), some (.int 99), some (.int 0), none, none]) dX12_kinOf_35 (by decide) rfl ?_
  exact hW
set_option maxRecDepth 100000 in
set_option maxHeartbeats 4000000 in
theorem w_X12_kinOf_37 {E : Envt} {d : Nat} {Q : Pst} {h : mS} {I : mI} {L : mL} (hs : SL h)    (x1 : Int32) (x2 : Int32) (x3 : Int32) (x4 : Int32) (x5 : Int32) (x6 : Int32)
    (hW : ((((I 95 0) ≤ x6) → Q (some (.int x5)) h I L) ∧ (¬ ((I 95 0) ≤ x6) → (vp_in x6 20 ∧ (∀ y3 : Int32, y3 = (I 125 x6.toNatClampNeg) + (I 126 x6.toNatClampNeg) → ((¬ (y3 < x5) → (y3 = x5) → ¬ ((I 83 44) = (-1)) → vp_in (I 83 44) 20) ∧ (((99 ≤ (I 125 x6.toNatClampNeg)) → J E mX12_kinOf (d + 2) Q 0 0 37 [some (.ref (eB E + 83)), some (.int x1), some (.int x2), some (.int x3), some (.int x4), some (.int x5), some (.int (x6 + 1)), none, none] [] h I L) ∧ (¬ (99 ≤ (I 125 x6.toNatClampNeg)) → (((99 ≤ (I 126 x6.toNatClampNeg)) → J E mX12_kinOf (d + 2) Q 0 0 37 [some (.ref (eB E + 83)), some (.int x1), some (.int x2), some (.int x3), some (.int x4), some (.int x5), some (.int (x6 + 1)), none, none] [] h I L) ∧ (¬ (99 ≤ (I 126 x6.toNatClampNeg)) → ((((y3 < x5) ∨ ((y3 = x5) ∧ (¬ ((I 83 44) = (-1)) ∧ (¬ ((I 125 ((I 83 44).toNatClampNeg)) ≤ (I 125 x6.toNatClampNeg)))))) → J E mX12_kinOf (d + 2) Q 0 0 37 [some (.ref (eB E + 83)), some (.int x1), some (.int x2), some (.int x3), some (.int x4), some (.int y3), some (.int (x6 + 1)), none, none] [] h (uI I 83 44 x6) L) ∧ (¬ ((y3 < x5) ∨ ((y3 = x5) ∧ (¬ ((I 83 44) = (-1)) ∧ (¬ ((I 125 ((I 83 44).toNatClampNeg)) ≤ (I 125 x6.toNatClampNeg)))))) → J E mX12_kinOf (d + 2) Q 0 0 37 [some (.ref (eB E + 83)), some (.int x1), some (.int x2), some (.int x3), some (.int x4), some (.int x5), some (.int (x6 + 1)), none, none] [] h I L)))))))))))) :
    J E mX12_kinOf (d + 2) Q 0 0 37 [some (.ref (eB E + 83)), some (.int x1), some (.int x2), some (.int x3), some (.int x4), some (.int x5), some (.int x6), none, none] [] h I L := by
  refine J.iload dX12_kinOf_37 rfl ?_
  refine J.aload_n dX12_kinOf_39 rfl rfl ?_
  refine J.getR (r := 95) fl_X12_44 rfl dX12_kinOf_40 (lt83 hs) (kk83 hs) (rr83_12 hs) ?_
  refine J.iconst (v := 0) dX12_kinOf_43 (by decide) ?_
  refine J.iald (x := I 95 0) dX12_kinOf_44 (lt95 hs) (kk95 hs) (by unfold vp_in; decide) rfl ?_
  refine J.ic_ge 158 dX12_kinOf_45 (by decide) (fun hc1 => ?_) (fun hc1 => ?_)
  · have hW := hW.1 hc1
    refine J.iload dX12_kinOf_158 rfl ?_
    exact J.reti dX12_kinOf_160 rfl rfl hW
  · have hW := hW.2 hc1
    refine J.aload_n dX12_kinOf_48 rfl rfl ?_
    refine J.getR (r := 125) fl_X12_135 rfl dX12_kinOf_49 (lt83 hs) (kk83 hs) (rr83_42 hs) ?_
    refine J.iload dX12_kinOf_52 rfl ?_
    obtain ⟨hb2, hW⟩ := hW
    refine J.iald (x := I 125 x6.toNatClampNeg) dX12_kinOf_54 (lt125 hs) (kk125 hs) hb2 rfl ?_
    refine J.aload_n dX12_kinOf_55 rfl rfl ?_
    refine J.getR (r := 126) fl_X12_138 rfl dX12_kinOf_56 (lt83 hs) (kk83 hs) (rr83_43 hs) ?_
    refine J.iload dX12_kinOf_59 rfl ?_
    refine J.iald (x := I 126 x6.toNatClampNeg) dX12_kinOf_61 (lt126 hs) (kk126 hs) hb2 rfl ?_
    refine J.iadd dX12_kinOf_62 ?_
    refine J.topi (fun y3 hyy3 => ?_)
    have hW := hW y3 hyy3
    refine J.istore (vs' := [some (.ref (eB E + 83)), some (.int x1), some (.int x2), some (.int x3), some (.int x4), some (.int x5), some (.int x6), some (.int y3), none]) dX12_kinOf_63 (by decide) rfl ?_
    refine J.iload dX12_kinOf_65 rfl ?_
    refine J.iload dX12_kinOf_67 rfl ?_
    obtain ⟨hq8, hW⟩ := hW
    have hj : J E mX12_kinOf (d + 2) Q 0 0 111 [some (.ref (eB E + 83)), some (.int x1), some (.int x2), some (.int x3), some (.int x4), some (.int x5), some (.int x6), some (.int y3), none] [.int (bI ((y3 < x5) ∨ ((y3 = x5) ∧ (¬ ((I 83 44) = (-1)) ∧ (¬ ((I 125 ((I 83 44).toNatClampNeg)) ≤ (I 125 x6.toNatClampNeg)))))))] h I L := by
      refine J.istore (vs' := [some (.ref (eB E + 83)), some (.int x1), some (.int x2), some (.int x3), some (.int x4), some (.int x5), some (.int x6), some (.int y3), some (.int (bI ((y3 < x5) ∨ ((y3 = x5) ∧ (¬ ((I 83 44) = (-1)) ∧ (¬ ((I 125 ((I 83 44).toNatClampNeg)) ≤ (I 125 x6.toNatClampNeg))))))))]) dX12_kinOf_111 (by decide) rfl ?_
      refine J.aload_n dX12_kinOf_113 rfl rfl ?_
      refine J.getR (r := 125) fl_X12_135 rfl dX12_kinOf_114 (lt83 hs) (kk83 hs) (rr83_42 hs) ?_
      refine J.iload dX12_kinOf_117 rfl ?_
      refine J.iald (x := I 125 x6.toNatClampNeg) dX12_kinOf_119 (lt125 hs) (kk125 hs) hb2 rfl ?_
      refine J.bipush (v := 99) dX12_kinOf_120 (by decide) ?_
      refine J.ic_ge 152 dX12_kinOf_122 (by decide) (fun hc10 => ?_) (fun hc10 => ?_)
      · have hW := hW.1 hc10
        refine J.iinc (v := x6 + 1) (vs' := [some (.ref (eB E + 83)), some (.int x1), some (.int x2), some (.int x3), some (.int x4), some (.int x5), some (.int (x6 + 1)), some (.int y3), some (.int (bI ((y3 < x5) ∨ ((y3 = x5) ∧ (¬ ((I 83 44) = (-1)) ∧ (¬ ((I 125 ((I 83 44).toNatClampNeg)) ≤ (I 125 x6.toNatClampNeg))))))))]) dX12_kinOf_152 rfl (by rfl) (by decide) rfl ?_
        refine J.goto 37 dX12_kinOf_155 (by decide) ?_
        exact J.mask [true, true, true, true, true, true, true, false, false] rfl hW
      · have hW := hW.2 hc10
        refine J.aload_n dX12_kinOf_125 rfl rfl ?_
        refine J.getR (r := 126) fl_X12_138 rfl dX12_kinOf_126 (lt83 hs) (kk83 hs) (rr83_43 hs) ?_
        refine J.iload dX12_kinOf_129 rfl ?_
        refine J.iald (x := I 126 x6.toNatClampNeg) dX12_kinOf_131 (lt126 hs) (kk126 hs) hb2 rfl ?_
        refine J.bipush (v := 99) dX12_kinOf_132 (by decide) ?_
        refine J.ic_ge 152 dX12_kinOf_134 (by decide) (fun hc11 => ?_) (fun hc11 => ?_)
        · have hW := hW.1 hc11
          refine J.iinc (v := x6 + 1) (vs' := [some (.ref (eB E + 83)), some (.int x1), some (.int x2), some (.int x3), some (.int x4), some (.int x5), some (.int (x6 + 1)), some (.int y3), some (.int (bI ((y3 < x5) ∨ ((y3 = x5) ∧ (¬ ((I 83 44) = (-1)) ∧ (¬ ((I 125 ((I 83 44).toNatClampNeg)) ≤ (I 125 x6.toNatClampNeg))))))))]) dX12_kinOf_152 rfl (by rfl) (by decide) rfl ?_
          refine J.goto 37 dX12_kinOf_155 (by decide) ?_
          exact J.mask [true, true, true, true, true, true, true, false, false] rfl hW
        · have hW := hW.2 hc11
          refine J.iload dX12_kinOf_137 rfl ?_
          refine J.if_eq 152 dX12_kinOf_139 (by decide) (fun hc12 => ?_) (fun hc12 => ?_)
          · have hc12 := bI_0.mp hc12
            have hW := hW.2 hc12
            refine J.iinc (v := x6 + 1) (vs' := [some (.ref (eB E + 83)), some (.int x1), some (.int x2), some (.int x3), some (.int x4), some (.int x5), some (.int (x6 + 1)), some (.int y3), some (.int (bI ((y3 < x5) ∨ ((y3 = x5) ∧ (¬ ((I 83 44) = (-1)) ∧ (¬ ((I 125 ((I 83 44).toNatClampNeg)) ≤ (I 125 x6.toNatClampNeg))))))))]) dX12_kinOf_152 rfl (by rfl) (by decide) rfl ?_
            refine J.goto 37 dX12_kinOf_155 (by decide) ?_
            exact J.mask [true, true, true, true, true, true, true, false, false] rfl hW
          · have hc12 := bI_n0.mp hc12
            have hW := hW.1 hc12
            refine J.iload dX12_kinOf_142 rfl ?_
            refine J.istore (vs' := [some (.ref (eB E + 83)), some (.int x1), some (.int x2), some (.int x3), some (.int x4), some (.int y3), some (.int x6), some (.int y3), some (.int (bI ((y3 < x5) ∨ ((y3 = x5) ∧ (¬ ((I 83 44) = (-1)) ∧ (¬ ((I 125 ((I 83 44).toNatClampNeg)) ≤ (I 125 x6.toNatClampNeg))))))))]) dX12_kinOf_144 (by decide) rfl ?_
            refine J.aload_n dX12_kinOf_146 rfl rfl ?_
            refine J.iload dX12_kinOf_147 rfl ?_
            refine J.putI fw_X12_259 rfl dX12_kinOf_149 (lt83 hs) (kk83 hs) ?_
            refine J.iinc (v := x6 + 1) (vs' := [some (.ref (eB E + 83)), some (.int x1), some (.int x2), some (.int x3), some (.int x4), some (.int y3), some (.int (x6 + 1)), some (.int y3), some (.int (bI ((y3 < x5) ∨ ((y3 = x5) ∧ (¬ ((I 83 44) = (-1)) ∧ (¬ ((I 125 ((I 83 44).toNatClampNeg)) ≤ (I 125 x6.toNatClampNeg))))))))]) dX12_kinOf_152 rfl (by rfl) (by decide) rfl ?_
            refine J.goto 37 dX12_kinOf_155 (by decide) ?_
            exact J.mask [true, true, true, true, true, true, true, false, false] rfl hW
    refine J.ic_lt 106 dX12_kinOf_69 (by decide) (fun hc4 => ?_) (fun hc4 => ?_)
    · refine J.iconst (v := 1) dX12_kinOf_106 (by decide) ?_
      refine J.goto 111 dX12_kinOf_107 (by decide) ?_
      rw [show bI ((y3 < x5) ∨ ((y3 = x5) ∧ (¬ ((I 83 44) = (-1)) ∧ (¬ ((I 125 ((I 83 44).toNatClampNeg)) ≤ (I 125 x6.toNatClampNeg)))))) = 1 from bI_t (by simp only [eq_true hc4, and_true, true_and, and_false, false_and, or_true, true_or, or_false, false_or, not_true_eq_false, not_false_eq_true])] at hj
      exact hj
    · refine J.iload dX12_kinOf_72 rfl ?_
      refine J.iload dX12_kinOf_74 rfl ?_
      refine J.ic_ne 110 dX12_kinOf_76 (by decide) (fun hc5 => ?_) (fun hc5 => ?_)
      · refine J.iconst (v := 0) dX12_kinOf_110 (by decide) ?_
        rw [show bI ((y3 < x5) ∨ ((y3 = x5) ∧ (¬ ((I 83 44) = (-1)) ∧ (¬ ((I 125 ((I 83 44).toNatClampNeg)) ≤ (I 125 x6.toNatClampNeg)))))) = 0 from bI_f (by simp only [eq_false hc4, eq_false hc5, and_true, true_and, and_false, false_and, or_true, true_or, or_false, false_or, not_true_eq_false, not_false_eq_true])] at hj
        exact hj
      · refine J.aload_n dX12_kinOf_79 rfl rfl ?_
        refine J.getI (x := I 83 44) fl_X12_259 rfl dX12_kinOf_80 (lt83 hs) (kk83 hs) rfl ?_
        refine J.iconst (v := (-1)) dX12_kinOf_83 (by decide) ?_
        refine J.ic_eq 110 dX12_kinOf_84 (by decide) (fun hc6 => ?_) (fun hc6 => ?_)
        · refine J.iconst (v := 0) dX12_kinOf_110 (by decide) ?_
          rw [show bI ((y3 < x5) ∨ ((y3 = x5) ∧ (¬ ((I 83 44) = (-1)) ∧ (¬ ((I 125 ((I 83 44).toNatClampNeg)) ≤ (I 125 x6.toNatClampNeg)))))) = 0 from bI_f (by simp only [eq_false hc4, eq_true hc5, eq_true hc6, and_true, true_and, and_false, false_and, or_true, true_or, or_false, false_or, not_true_eq_false, not_false_eq_true])] at hj
          exact hj
        · refine J.aload_n dX12_kinOf_87 rfl rfl ?_
          refine J.getR (r := 125) fl_X12_135 rfl dX12_kinOf_88 (lt83 hs) (kk83 hs) (rr83_42 hs) ?_
          refine J.iload dX12_kinOf_91 rfl ?_
          refine J.iald (x := I 125 x6.toNatClampNeg) dX12_kinOf_93 (lt125 hs) (kk125 hs) hb2 rfl ?_
          refine J.aload_n dX12_kinOf_94 rfl rfl ?_
          refine J.getR (r := 125) fl_X12_135 rfl dX12_kinOf_95 (lt83 hs) (kk83 hs) (rr83_42 hs) ?_
          refine J.aload_n dX12_kinOf_98 rfl rfl ?_
          refine J.getI (x := I 83 44) fl_X12_259 rfl dX12_kinOf_99 (lt83 hs) (kk83 hs) rfl ?_
          have hb7 := hq8 hc4 hc5 hc6
          refine J.iald (x := I 125 ((I 83 44).toNatClampNeg)) dX12_kinOf_102 (lt125 hs) (kk125 hs) hb7 rfl ?_
          refine J.ic_ge 110 dX12_kinOf_103 (by decide) (fun hc9 => ?_) (fun hc9 => ?_)
          · refine J.iconst (v := 0) dX12_kinOf_110 (by decide) ?_
            rw [show bI ((y3 < x5) ∨ ((y3 = x5) ∧ (¬ ((I 83 44) = (-1)) ∧ (¬ ((I 125 ((I 83 44).toNatClampNeg)) ≤ (I 125 x6.toNatClampNeg)))))) = 0 from bI_f (by simp only [eq_false hc4, eq_true hc5, eq_false hc6, eq_true hc9, and_true, true_and, and_false, false_and, or_true, true_or, or_false, false_or, not_true_eq_false, not_false_eq_true])] at hj
            exact hj
          · refine J.iconst (v := 1) dX12_kinOf_106 (by decide) ?_
            refine J.goto 111 dX12_kinOf_107 (by decide) ?_
            rw [show bI ((y3 < x5) ∨ ((y3 = x5) ∧ (¬ ((I 83 44) = (-1)) ∧ (¬ ((I 125 ((I 83 44).toNatClampNeg)) ≤ (I 125 x6.toNatClampNeg)))))) = 1 from bI_t (by simp only [eq_false hc4, eq_true hc5, eq_false hc6, eq_false hc9, and_true, true_and, and_false, false_and, or_true, true_or, or_false, false_or, not_true_eq_false, not_false_eq_true])] at hj
            exact hj
set_option maxRecDepth 100000 in
set_option maxHeartbeats 4000000 in
theorem w_X12_isYear {E : Envt} {d : Nat} {Q : Pst} {h : mS} {I : mI} {L : mL} (hs : SL h) (x0 : Int32) 
    (hW : Q (some (.int (bI (¬ (x0 < 0) ∧ (¬ (300 < x0)))))) h I L) :
    CT E mX12_isYear (d + 1) 0 0 [.int x0] h I L Q := by
  refine CT.of (by decide) [some (.int x0)] rfl (Nat.le_of_ble_eq_true rfl) ?_
  refine J.iload_n dX12_isYear_0 rfl rfl ?_
  refine J.iconst (v := 0) dX12_isYear_1 (by decide) ?_
  refine J.sipush (v := 300) dX12_isYear_2 (by decide) ?_
  refine J.callS (M' := mX12_in) (index := 218) (bc := 0) (bs := 0) (bc' := 0) (bs' := 0) (st := []) [.int x0, .int 0, .int 300] ml_X12_218 cv_X12_in dX12_isYear_5 rfl rfl (Nat.le_of_ble_eq_true rfl) (kqi (w_X12_in (d := d) (Q := qi h L (fun v I' => I' = I ∧ v = bI (¬ (x0 < 0) ∧ (¬ (300 < x0))))) hs x0 0 300 ⟨rfl, rfl, _, rfl, rfl, rfl⟩) (fun v1 I2 hv => ?_))
  rw [hv.1, hv.2]
  exact J.reti dX12_isYear_8 rfl (bz_nar (bI_bz _)) hW
set_option maxRecDepth 100000 in
set_option maxHeartbeats 4000000 in
theorem w_X12_kin {E : Envt} {d : Nat} {Q : Pst} {h : mS} {I : mI} {L : mL} (hs : SL h) (x1 : Int32) (x2 : Int32) (x3 : Int32) (x4 : Int32) 
    (hW : (((¬ (x1 < 0) ∧ (¬ ((((uI I 83 0 0) 95 0) - 1) < x1))) → (((¬ (x2 < 0) ∧ (¬ ((((uI I 83 0 0) 95 0) - 1) < x2))) → (((¬ (x3 < 0) ∧ (¬ (4 < x3))) → (((¬ (x4 < 0) ∧ (¬ (300 < x4))) → (CT E mX12_kinOf (d + 2) 0 0 [.ref (eB E + 83), .int x1, .int x2, .int x3, .int x4] h (uI I 83 0 0) L (qi h L fun r14 I13 => Q (some (.int r14)) h I13 L))) ∧ (¬ (¬ (x4 < 0) ∧ (¬ (300 < x4))) → Q (some (.int (-1))) h (uI I 83 0 0) L))) ∧ (¬ (¬ (x3 < 0) ∧ (¬ (4 < x3))) → Q (some (.int (-1))) h (uI I 83 0 0) L))) ∧ (¬ (¬ (x2 < 0) ∧ (¬ ((((uI I 83 0 0) 95 0) - 1) < x2))) → Q (some (.int (-1))) h (uI I 83 0 0) L))) ∧ (¬ (¬ (x1 < 0) ∧ (¬ ((((uI I 83 0 0) 95 0) - 1) < x1))) → Q (some (.int (-1))) h (uI I 83 0 0) L))) :
    CT E mX12_kin (d + 3) 0 0 [.ref (eB E + 83), .int x1, .int x2, .int x3, .int x4] h I L Q := by
  refine CT.of (by decide) [some (.ref (eB E + 83)), some (.int x1), some (.int x2), some (.int x3), some (.int x4)] rfl (Nat.le_of_ble_eq_true rfl) ?_
  refine J.aload_n dX12_kin_0 rfl rfl ?_
  refine J.iconst (v := 0) dX12_kin_1 (by decide) ?_
  refine J.putI fw_X12_202 rfl dX12_kin_2 (lt83 hs) (kk83 hs) ?_
  refine J.aload_n dX12_kin_5 rfl rfl ?_
  refine J.iload_n dX12_kin_6 rfl rfl ?_
  refine J.callV (M' := mX12_isPerson) (index := 222) (bc := 0) (bs := 0) (bc' := 0) (bs' := 0) (st := []) [.int x1] ml_X12_222 cv_X12_isPerson dX12_kin_7 (lt83 hs) (kk83 hs) (by decide) rfl rfl rfl rfl (Nat.le_of_ble_eq_true rfl) (kqi (w_X12_isPerson (d := d + 1) (Q := qi h L (fun v I' => I' = (uI I 83 0 0) ∧ v = bI (¬ (x1 < 0) ∧ (¬ ((((uI I 83 0 0) 95 0) - 1) < x1))))) hs x1 ⟨rfl, rfl, _, rfl, rfl, rfl⟩) (fun v1 I2 hv => ?_))
  rw [hv.1, hv.2]
  refine J.if_eq 48 dX12_kin_10 (by decide) (fun hc3 => ?_) (fun hc3 => ?_)
  · have hc3 := bI_0.mp hc3
    have hW := hW.2 hc3
    refine J.iconst (v := (-1)) dX12_kin_48 (by decide) ?_
    exact J.reti dX12_kin_49 rfl rfl hW
  · have hc3 := bI_n0.mp hc3
    have hW := hW.1 hc3
    refine J.aload_n dX12_kin_13 rfl rfl ?_
    refine J.iload_n dX12_kin_14 rfl rfl ?_
    refine J.callV (M' := mX12_isPerson) (index := 222) (bc := 0) (bs := 0) (bc' := 0) (bs' := 0) (st := []) [.int x2] ml_X12_222 cv_X12_isPerson dX12_kin_15 (lt83 hs) (kk83 hs) (by decide) rfl rfl rfl rfl (Nat.le_of_ble_eq_true rfl) (kqi (w_X12_isPerson (d := d + 1) (Q := qi h L (fun v I' => I' = (uI I 83 0 0) ∧ v = bI (¬ (x2 < 0) ∧ (¬ ((((uI I 83 0 0) 95 0) - 1) < x2))))) hs x2 ⟨rfl, rfl, _, rfl, rfl, rfl⟩) (fun v4 I5 hv => ?_))
    rw [hv.1, hv.2]
    refine J.if_eq 48 dX12_kin_18 (by decide) (fun hc6 => ?_) (fun hc6 => ?_)
    · have hc6 := bI_0.mp hc6
      have hW := hW.2 hc6
      refine J.iconst (v := (-1)) dX12_kin_48 (by decide) ?_
      exact J.reti dX12_kin_49 rfl rfl hW
    · have hc6 := bI_n0.mp hc6
      have hW := hW.1 hc6
      refine J.iload_n dX12_kin_21 rfl rfl ?_
      refine J.callS (M' := mX12_isVillage) (index := 226) (bc := 0) (bs := 0) (bc' := 0) (bs' := 0) (st := []) [.int x3] ml_X12_226 cv_X12_isVillage dX12_kin_22 rfl rfl (Nat.le_of_ble_eq_true rfl) (kqi (w_X12_isVillage (d := d + 1) (Q := qi h L (fun v I' => I' = (uI I 83 0 0) ∧ v = bI (¬ (x3 < 0) ∧ (¬ (4 < x3))))) hs x3 ⟨rfl, rfl, _, rfl, rfl, rfl⟩) (fun v7 I8 hv => ?_))
      rw [hv.1, hv.2]
      refine J.if_eq 48 dX12_kin_25 (by decide) (fun hc9 => ?_) (fun hc9 => ?_)
      · have hc9 := bI_0.mp hc9
        have hW := hW.2 hc9
        refine J.iconst (v := (-1)) dX12_kin_48 (by decide) ?_
        exact J.reti dX12_kin_49 rfl rfl hW
      · have hc9 := bI_n0.mp hc9
        have hW := hW.1 hc9
        refine J.iload dX12_kin_28 rfl ?_
        refine J.callS (M' := mX12_isYear) (index := 262) (bc := 0) (bs := 0) (bc' := 0) (bs' := 0) (st := []) [.int x4] ml_X12_262 cv_X12_isYear dX12_kin_30 rfl rfl (Nat.le_of_ble_eq_true rfl) (kqi (w_X12_isYear (d := d + 1) (Q := qi h L (fun v I' => I' = (uI I 83 0 0) ∧ v = bI (¬ (x4 < 0) ∧ (¬ (300 < x4))))) hs x4 ⟨rfl, rfl, _, rfl, rfl, rfl⟩) (fun v10 I11 hv => ?_))
        rw [hv.1, hv.2]
        refine J.if_eq 48 dX12_kin_33 (by decide) (fun hc12 => ?_) (fun hc12 => ?_)
        · have hc12 := bI_0.mp hc12
          have hW := hW.2 hc12
          refine J.iconst (v := (-1)) dX12_kin_48 (by decide) ?_
          exact J.reti dX12_kin_49 rfl rfl hW
        · have hc12 := bI_n0.mp hc12
          have hW := hW.1 hc12
          refine J.aload_n dX12_kin_36 rfl rfl ?_
          refine J.iload_n dX12_kin_37 rfl rfl ?_
          refine J.iload_n dX12_kin_38 rfl rfl ?_
          refine J.iload_n dX12_kin_39 rfl rfl ?_
          refine J.iload dX12_kin_40 rfl ?_
          refine J.callV (M' := mX12_kinOf) (index := 265) (bc := 0) (bs := 0) (bc' := 0) (bs' := 0) (st := []) [.int x1, .int x2, .int x3, .int x4] ml_X12_265 cv_X12_kinOf dX12_kin_42 (lt83 hs) (kk83 hs) (by decide) rfl rfl rfl rfl (Nat.le_of_ble_eq_true rfl) (kqi hW (fun r14 I13 hW => ?_))
          refine J.goto 49 dX12_kin_45 (by decide) ?_
          exact J.reti dX12_kin_49 rfl rfl hW
set_option maxRecDepth 100000 in
set_option maxHeartbeats 4000000 in
theorem w_X12_nearer {E : Envt} {d : Nat} {Q : Pst} {h : mS} {I : mI} {L : mL} (hs : SL h) (x1 : Int32) (x2 : Int32) (x3 : Int32) 
    (hW : (((x1 = (-1)) → Q (some (.int 0)) h I L) ∧ (¬ (x1 = (-1)) → (CT E mX12_findUp d 0 0 [.ref (eB E + 83), .int x1, .ref (eB E + 126)] h I L (qv h L fun I2 => (vp_in x2 20 ∧ Q (some (.int (bI ((I2 126 x2.toNatClampNeg) = x3)))) h I2 L)))))) :
    CT E mX12_nearer (d + 1) 0 0 [.ref (eB E + 83), .int x1, .int x2, .int x3] h I L Q := by
  refine CT.of (by decide) [some (.ref (eB E + 83)), some (.int x1), some (.int x2), some (.int x3)] rfl (Nat.le_of_ble_eq_true rfl) ?_
  refine J.iload_n dX12_nearer_0 rfl rfl ?_
  refine J.iconst (v := (-1)) dX12_nearer_1 (by decide) ?_
  refine J.ic_ne 7 dX12_nearer_2 (by decide) (fun hc1 => ?_) (fun hc1 => ?_)
  · have hW := hW.2 hc1
    refine J.aload_n dX12_nearer_7 rfl rfl ?_
    refine J.iload_n dX12_nearer_8 rfl rfl ?_
    refine J.aload_n dX12_nearer_9 rfl rfl ?_
    refine J.getR (r := 126) fl_X12_138 rfl dX12_nearer_10 (lt83 hs) (kk83 hs) (rr83_43 hs) ?_
    refine J.callV (M' := mX12_findUp) (index := 255) (bc := 0) (bs := 0) (bc' := 0) (bs' := 0) (st := []) [.int x1, .ref (eB E + 126)] ml_X12_255 cv_X12_findUp dX12_nearer_13 (lt83 hs) (kk83 hs) (by decide) rfl rfl rfl rfl (Nat.le_of_ble_eq_true rfl) (kqv hW (fun I2 hW => ?_))
    refine J.aload_n dX12_nearer_16 rfl rfl ?_
    refine J.getR (r := 126) fl_X12_138 rfl dX12_nearer_17 (lt83 hs) (kk83 hs) (rr83_43 hs) ?_
    refine J.iload_n dX12_nearer_20 rfl rfl ?_
    obtain ⟨hb3, hW⟩ := hW
    refine J.iald (x := I2 126 x2.toNatClampNeg) dX12_nearer_21 (lt126 hs) (kk126 hs) hb3 rfl ?_
    refine J.iload_n dX12_nearer_22 rfl rfl ?_
    have hj : J E mX12_nearer (d + 1) Q 0 0 31 [some (.ref (eB E + 83)), some (.int x1), some (.int x2), some (.int x3)] [.int (bI ((I2 126 x2.toNatClampNeg) = x3))] h I2 L := by
      exact J.reti dX12_nearer_31 rfl (bz_nar (bI_bz _)) hW
    refine J.ic_ne 30 dX12_nearer_23 (by decide) (fun hc4 => ?_) (fun hc4 => ?_)
    · refine J.iconst (v := 0) dX12_nearer_30 (by decide) ?_
      rw [show bI ((I2 126 x2.toNatClampNeg) = x3) = 0 from bI_f (by simp only [eq_false hc4, and_true, true_and, and_false, false_and, or_true, true_or, or_false, false_or, not_true_eq_false, not_false_eq_true])] at hj
      exact hj
    · refine J.iconst (v := 1) dX12_nearer_26 (by decide) ?_
      refine J.goto 31 dX12_nearer_27 (by decide) ?_
      rw [show bI ((I2 126 x2.toNatClampNeg) = x3) = 1 from bI_t (by simp only [eq_true hc4, and_true, true_and, and_false, false_and, or_true, true_or, or_false, false_or, not_true_eq_false, not_false_eq_true])] at hj
      exact hj
  · have hW := hW.1 hc1
    refine J.iconst (v := 0) dX12_nearer_5 (by decide) ?_
    exact J.reti dX12_nearer_6 rfl (bz_nar (Or.inl rfl)) hW
set_option maxRecDepth 100000 in
set_option maxHeartbeats 4000000 in
theorem w_X12_chain {E : Envt} {d : Nat} {Q : Pst} {h : mS} {I : mI} {L : mL} (hs : SL h) (x1 : Int32) (x2 : Int32) (x3 : Int32) (x4 : Int32) (x5 : Int32) 
    (hW : (((¬ (x1 < 0) ∧ (¬ ((((uI I 83 0 0) 95 0) - 1) < x1))) → (((¬ (x2 < 0) ∧ (¬ ((((uI I 83 0 0) 95 0) - 1) < x2))) → (((¬ (x3 < 0) ∧ (¬ (4 < x3))) → (((¬ (x4 < 0) ∧ (¬ (300 < x4))) → (CT E mX12_kinOf (d + 2) 0 0 [.ref (eB E + 83), .int x1, .int x2, .int x3, .int x4] h (uI I 83 0 0) L (qi h L fun r14 I13 => ((((I13 83 44) = (-1)) → Q (some (.int (-1))) h I13 L) ∧ (¬ ((I13 83 44) = (-1)) → (((¬ (x5 < 0) ∧ (¬ (r14 < x5))) → (vp_in (I13 83 44) 20 ∧ (∀ y20 : Int32, y20 = I13 125 ((I13 83 44).toNatClampNeg) → J E mX12_chain (d + 3) Q 0 0 91 [some (.ref (eB E + 83)), some (.int x1), some (.int x2), some (.int x3), some (.int x4), some (.int x5), some (.int r14), some (.int (I13 83 44)), some (.int y20), some (.int x1), some (.int 0), none, none, none] [] h I13 L))) ∧ (¬ (¬ (x5 < 0) ∧ (¬ (r14 < x5))) → Q (some (.int (-1))) h I13 L))))))) ∧ (¬ (¬ (x4 < 0) ∧ (¬ (300 < x4))) → Q (some (.int (-1))) h (uI I 83 0 0) L))) ∧ (¬ (¬ (x3 < 0) ∧ (¬ (4 < x3))) → Q (some (.int (-1))) h (uI I 83 0 0) L))) ∧ (¬ (¬ (x2 < 0) ∧ (¬ ((((uI I 83 0 0) 95 0) - 1) < x2))) → Q (some (.int (-1))) h (uI I 83 0 0) L))) ∧ (¬ (¬ (x1 < 0) ∧ (¬ ((((uI I 83 0 0) 95 0) - 1) < x1))) → Q (some (.int (-1))) h (uI I 83 0 0) L))) :
    CT E mX12_chain (d + 3) 0 0 [.ref (eB E + 83), .int x1, .int x2, .int x3, .int x4, .int x5] h I L Q := by
  refine CT.of (by decide) [some (.ref (eB E + 83)), some (.int x1), some (.int x2), some (.int x3), some (.int x4), some (.int x5), none, none, none, none, none, none, none, none] rfl (Nat.le_of_ble_eq_true rfl) ?_
  refine J.aload_n dX12_chain_0 rfl rfl ?_
  refine J.iconst (v := 0) dX12_chain_1 (by decide) ?_
  refine J.putI fw_X12_202 rfl dX12_chain_2 (lt83 hs) (kk83 hs) ?_
  refine J.aload_n dX12_chain_5 rfl rfl ?_
  refine J.iload_n dX12_chain_6 rfl rfl ?_
  refine J.callV (M' := mX12_isPerson) (index := 222) (bc := 0) (bs := 0) (bc' := 0) (bs' := 0) (st := []) [.int x1] ml_X12_222 cv_X12_isPerson dX12_chain_7 (lt83 hs) (kk83 hs) (by decide) rfl rfl rfl rfl (Nat.le_of_ble_eq_true rfl) (kqi (w_X12_isPerson (d := d + 1) (Q := qi h L (fun v I' => I' = (uI I 83 0 0) ∧ v = bI (¬ (x1 < 0) ∧ (¬ ((((uI I 83 0 0) 95 0) - 1) < x1))))) hs x1 ⟨rfl, rfl, _, rfl, rfl, rfl⟩) (fun v1 I2 hv => ?_))
  rw [hv.1, hv.2]
  refine J.if_eq 36 dX12_chain_10 (by decide) (fun hc3 => ?_) (fun hc3 => ?_)
  · have hc3 := bI_0.mp hc3
    have hW := hW.2 hc3
    refine J.iconst (v := (-1)) dX12_chain_36 (by decide) ?_
    exact J.reti dX12_chain_37 rfl rfl hW
  · have hc3 := bI_n0.mp hc3
    have hW := hW.1 hc3
    refine J.aload_n dX12_chain_13 rfl rfl ?_
    refine J.iload_n dX12_chain_14 rfl rfl ?_
    refine J.callV (M' := mX12_isPerson) (index := 222) (bc := 0) (bs := 0) (bc' := 0) (bs' := 0) (st := []) [.int x2] ml_X12_222 cv_X12_isPerson dX12_chain_15 (lt83 hs) (kk83 hs) (by decide) rfl rfl rfl rfl (Nat.le_of_ble_eq_true rfl) (kqi (w_X12_isPerson (d := d + 1) (Q := qi h L (fun v I' => I' = (uI I 83 0 0) ∧ v = bI (¬ (x2 < 0) ∧ (¬ ((((uI I 83 0 0) 95 0) - 1) < x2))))) hs x2 ⟨rfl, rfl, _, rfl, rfl, rfl⟩) (fun v4 I5 hv => ?_))
    rw [hv.1, hv.2]
    refine J.if_eq 36 dX12_chain_18 (by decide) (fun hc6 => ?_) (fun hc6 => ?_)
    · have hc6 := bI_0.mp hc6
      have hW := hW.2 hc6
      refine J.iconst (v := (-1)) dX12_chain_36 (by decide) ?_
      exact J.reti dX12_chain_37 rfl rfl hW
    · have hc6 := bI_n0.mp hc6
      have hW := hW.1 hc6
      refine J.iload_n dX12_chain_21 rfl rfl ?_
      refine J.callS (M' := mX12_isVillage) (index := 226) (bc := 0) (bs := 0) (bc' := 0) (bs' := 0) (st := []) [.int x3] ml_X12_226 cv_X12_isVillage dX12_chain_22 rfl rfl (Nat.le_of_ble_eq_true rfl) (kqi (w_X12_isVillage (d := d + 1) (Q := qi h L (fun v I' => I' = (uI I 83 0 0) ∧ v = bI (¬ (x3 < 0) ∧ (¬ (4 < x3))))) hs x3 ⟨rfl, rfl, _, rfl, rfl, rfl⟩) (fun v7 I8 hv => ?_))
      rw [hv.1, hv.2]
      refine J.if_eq 36 dX12_chain_25 (by decide) (fun hc9 => ?_) (fun hc9 => ?_)
      · have hc9 := bI_0.mp hc9
        have hW := hW.2 hc9
        refine J.iconst (v := (-1)) dX12_chain_36 (by decide) ?_
        exact J.reti dX12_chain_37 rfl rfl hW
      · have hc9 := bI_n0.mp hc9
        have hW := hW.1 hc9
        refine J.iload dX12_chain_28 rfl ?_
        refine J.callS (M' := mX12_isYear) (index := 262) (bc := 0) (bs := 0) (bc' := 0) (bs' := 0) (st := []) [.int x4] ml_X12_262 cv_X12_isYear dX12_chain_30 rfl rfl (Nat.le_of_ble_eq_true rfl) (kqi (w_X12_isYear (d := d + 1) (Q := qi h L (fun v I' => I' = (uI I 83 0 0) ∧ v = bI (¬ (x4 < 0) ∧ (¬ (300 < x4))))) hs x4 ⟨rfl, rfl, _, rfl, rfl, rfl⟩) (fun v10 I11 hv => ?_))
        rw [hv.1, hv.2]
        refine J.if_ne 38 dX12_chain_33 (by decide) (fun hc12 => ?_) (fun hc12 => ?_)
        · have hc12 := bI_n0.mp hc12
          have hW := hW.1 hc12
          refine J.aload_n dX12_chain_38 rfl rfl ?_
          refine J.iload_n dX12_chain_39 rfl rfl ?_
          refine J.iload_n dX12_chain_40 rfl rfl ?_
          refine J.iload_n dX12_chain_41 rfl rfl ?_
          refine J.iload dX12_chain_42 rfl ?_
          refine J.callV (M' := mX12_kinOf) (index := 265) (bc := 0) (bs := 0) (bc' := 0) (bs' := 0) (st := []) [.int x1, .int x2, .int x3, .int x4] ml_X12_265 cv_X12_kinOf dX12_chain_44 (lt83 hs) (kk83 hs) (by decide) rfl rfl rfl rfl (Nat.le_of_ble_eq_true rfl) (kqi hW (fun r14 I13 hW => ?_))
          refine J.istore (vs' := [some (.ref (eB E + 83)), some (.int x1), some (.int x2), some (.int x3), some (.int x4), some (.int x5), some (.int r14), none, none, none, none, none, none, none]) dX12_chain_47 (by decide) rfl ?_
          refine J.aload_n dX12_chain_49 rfl rfl ?_
          refine J.getI (x := I13 83 44) fl_X12_259 rfl dX12_chain_50 (lt83 hs) (kk83 hs) rfl ?_
          refine J.iconst (v := (-1)) dX12_chain_53 (by decide) ?_
          refine J.ic_eq 68 dX12_chain_54 (by decide) (fun hc15 => ?_) (fun hc15 => ?_)
          · have hW := hW.1 hc15
            refine J.iconst (v := (-1)) dX12_chain_68 (by decide) ?_
            exact J.reti dX12_chain_69 rfl rfl hW
          · have hW := hW.2 hc15
            refine J.iload dX12_chain_57 rfl ?_
            refine J.iconst (v := 0) dX12_chain_59 (by decide) ?_
            refine J.iload dX12_chain_60 rfl ?_
            refine J.callS (M' := mX12_in) (index := 218) (bc := 0) (bs := 0) (bc' := 0) (bs' := 0) (st := []) [.int x5, .int 0, .int r14] ml_X12_218 cv_X12_in dX12_chain_62 rfl rfl (Nat.le_of_ble_eq_true rfl) (kqi (w_X12_in (d := d + 2) (Q := qi h L (fun v I' => I' = I13 ∧ v = bI (¬ (x5 < 0) ∧ (¬ (r14 < x5))))) hs x5 0 r14 ⟨rfl, rfl, _, rfl, rfl, rfl⟩) (fun v16 I17 hv => ?_))
            rw [hv.1, hv.2]
            refine J.if_ne 70 dX12_chain_65 (by decide) (fun hc18 => ?_) (fun hc18 => ?_)
            · have hc18 := bI_n0.mp hc18
              have hW := hW.1 hc18
              refine J.aload_n dX12_chain_70 rfl rfl ?_
              refine J.getI (x := I13 83 44) fl_X12_259 rfl dX12_chain_71 (lt83 hs) (kk83 hs) rfl ?_
              refine J.istore (vs' := [some (.ref (eB E + 83)), some (.int x1), some (.int x2), some (.int x3), some (.int x4), some (.int x5), some (.int r14), some (.int (I13 83 44)), none, none, none, none, none, none]) dX12_chain_74 (by decide) rfl ?_
              refine J.aload_n dX12_chain_76 rfl rfl ?_
              refine J.getR (r := 125) fl_X12_135 rfl dX12_chain_77 (lt83 hs) (kk83 hs) (rr83_42 hs) ?_
              refine J.iload dX12_chain_80 rfl ?_
              obtain ⟨hb19, hW⟩ := hW
              refine J.iald (x := I13 125 ((I13 83 44).toNatClampNeg)) dX12_chain_82 (lt125 hs) (kk125 hs) hb19 rfl ?_
              refine J.topi (fun y20 hyy20 => ?_)
              have hW := hW y20 hyy20
              refine J.istore (vs' := [some (.ref (eB E + 83)), some (.int x1), some (.int x2), some (.int x3), some (.int x4), some (.int x5), some (.int r14), some (.int (I13 83 44)), some (.int y20), none, none, none, none, none]) dX12_chain_83 (by decide) rfl ?_
              refine J.iload_n dX12_chain_85 rfl rfl ?_
              refine J.istore (vs' := [some (.ref (eB E + 83)), some (.int x1), some (.int x2), some (.int x3), some (.int x4), some (.int x5), some (.int r14), some (.int (I13 83 44)), some (.int y20), some (.int x1), none, none, none, none]) dX12_chain_86 (by decide) rfl ?_
              refine J.iconst (v := 0) dX12_chain_88 (by decide) ?_
              refine J.istore (vs' := [some (.ref (eB E + 83)), some (.int x1), some (.int x2), some (.int x3), some (.int x4), some (.int x5), some (.int r14), some (.int (I13 83 44)), some (.int y20), some (.int x1), some (.int 0), none, none, none]) dX12_chain_89 (by decide) rfl ?_
              exact hW
            · have hc18 := bI_0.mp hc18
              have hW := hW.2 hc18
              refine J.iconst (v := (-1)) dX12_chain_68 (by decide) ?_
              exact J.reti dX12_chain_69 rfl rfl hW
        · have hc12 := bI_0.mp hc12
          have hW := hW.2 hc12
          refine J.iconst (v := (-1)) dX12_chain_36 (by decide) ?_
          exact J.reti dX12_chain_37 rfl rfl hW
set_option maxRecDepth 100000 in
set_option maxHeartbeats 4000000 in
theorem w_X12_chain_91 {E : Envt} {d : Nat} {Q : Pst} {h : mS} {I : mI} {L : mL} (hs : SL h)    (x1 : Int32) (x2 : Int32) (x3 : Int32) (x4 : Int32) (x5 : Int32) (x6 : Int32) (x7 : Int32) (x8 : Int32) (x9 : Int32) (x10 : Int32)
    (hW : (((x5 ≤ x10) → (CT E mX12_findUp (d + 2) 0 0 [.ref (eB E + 83), .int x2, .ref (eB E + 126)] h I L (qv h L fun I2 => J E mX12_chain (d + 3) Q 0 0 214 [some (.ref (eB E + 83)), some (.int x1), some (.int x2), some (.int x3), some (.int x4), some (.int x5), some (.int x6), some (.int x7), some (.int x8), some (.int x9), some (.int x10), none, none, none] [] h I2 L))) ∧ (¬ (x5 ≤ x10) → (((x8 ≤ x10) → (CT E mX12_findUp (d + 2) 0 0 [.ref (eB E + 83), .int x2, .ref (eB E + 126)] h I L (qv h L fun I4 => J E mX12_chain (d + 3) Q 0 0 214 [some (.ref (eB E + 83)), some (.int x1), some (.int x2), some (.int x3), some (.int x4), some (.int x5), some (.int x6), some (.int x7), some (.int x8), some (.int x9), some (.int x10), none, none, none] [] h I4 L))) ∧ (¬ (x8 ≤ x10) → (vp_in (2 * x9) 40 ∧ (∀ y6 : Int32, y6 = I 124 ((2 * x9).toNatClampNeg) → (vp_in ((2 * x9) + 1) 40 ∧ (∀ y8 : Int32, y8 = I 124 (((2 * x9) + 1).toNatClampNeg) → (CT E mX12_nearer (d + 2) 0 0 [.ref (eB E + 83), .int y6, .int x7, .int ((x8 - x10) - 1)] h I L (qi h L fun r10 I9 => (∀ y12 : Int32, y12 = (if r10 = 0 then (-1) else y6 : Int32) → (CT E mX12_nearer (d + 2) 0 0 [.ref (eB E + 83), .int y8, .int x7, .int ((x8 - x10) - 1)] h I9 L (qi h L fun r14 I13 => (∀ y18 : Int32, y18 = (if r14 = 0 then y12 else if y12 = (-1) then y8 else if y12 ≤ y8 then y12 else y8 : Int32) → J E mX12_chain (d + 3) Q 0 0 91 [some (.ref (eB E + 83)), some (.int x1), some (.int x2), some (.int x3), some (.int x4), some (.int x5), some (.int x6), some (.int x7), some (.int x8), some (.int y18), some (.int (x10 + 1)), none, none, none] [] h I13 L))))))))))))))) :
    J E mX12_chain (d + 3) Q 0 0 91 [some (.ref (eB E + 83)), some (.int x1), some (.int x2), some (.int x3), some (.int x4), some (.int x5), some (.int x6), some (.int x7), some (.int x8), some (.int x9), some (.int x10), none, none, none] [] h I L := by
  refine J.iload dX12_chain_91 rfl ?_
  refine J.iload dX12_chain_93 rfl ?_
  refine J.ic_ge 205 dX12_chain_95 (by decide) (fun hc1 => ?_) (fun hc1 => ?_)
  · have hW := hW.1 hc1
    refine J.aload_n dX12_chain_205 rfl rfl ?_
    refine J.iload_n dX12_chain_206 rfl rfl ?_
    refine J.aload_n dX12_chain_207 rfl rfl ?_
    refine J.getR (r := 126) fl_X12_138 rfl dX12_chain_208 (lt83 hs) (kk83 hs) (rr83_43 hs) ?_
    refine J.callV (M' := mX12_findUp) (index := 255) (bc := 0) (bs := 0) (bc' := 0) (bs' := 0) (st := []) [.int x2, .ref (eB E + 126)] ml_X12_255 cv_X12_findUp dX12_chain_211 (lt83 hs) (kk83 hs) (by decide) rfl rfl rfl rfl (Nat.le_of_ble_eq_true rfl) (kqv hW (fun I2 hW => ?_))
    exact hW
  · have hW := hW.2 hc1
    refine J.iload dX12_chain_98 rfl ?_
    refine J.iload dX12_chain_100 rfl ?_
    refine J.ic_ge 205 dX12_chain_102 (by decide) (fun hc3 => ?_) (fun hc3 => ?_)
    · have hW := hW.1 hc3
      refine J.aload_n dX12_chain_205 rfl rfl ?_
      refine J.iload_n dX12_chain_206 rfl rfl ?_
      refine J.aload_n dX12_chain_207 rfl rfl ?_
      refine J.getR (r := 126) fl_X12_138 rfl dX12_chain_208 (lt83 hs) (kk83 hs) (rr83_43 hs) ?_
      refine J.callV (M' := mX12_findUp) (index := 255) (bc := 0) (bs := 0) (bc' := 0) (bs' := 0) (st := []) [.int x2, .ref (eB E + 126)] ml_X12_255 cv_X12_findUp dX12_chain_211 (lt83 hs) (kk83 hs) (by decide) rfl rfl rfl rfl (Nat.le_of_ble_eq_true rfl) (kqv hW (fun I4 hW => ?_))
      exact hW
    · have hW := hW.2 hc3
      refine J.aload_n dX12_chain_105 rfl rfl ?_
      refine J.getR (r := 124) fl_X12_132 rfl dX12_chain_106 (lt83 hs) (kk83 hs) (rr83_41 hs) ?_
      refine J.iconst (v := 2) dX12_chain_109 (by decide) ?_
      refine J.iload dX12_chain_110 rfl ?_
      refine J.imul dX12_chain_112 ?_
      obtain ⟨hb5, hW⟩ := hW
      refine J.iald (x := I 124 ((2 * x9).toNatClampNeg)) dX12_chain_113 (lt124 hs) (kk124 hs) hb5 rfl ?_
      refine J.topi (fun y6 hyy6 => ?_)
      have hW := hW y6 hyy6
      refine J.istore (vs' := [some (.ref (eB E + 83)), some (.int x1), some (.int x2), some (.int x3), some (.int x4), some (.int x5), some (.int x6), some (.int x7), some (.int x8), some (.int x9), some (.int x10), some (.int y6), none, none]) dX12_chain_114 (by decide) rfl ?_
      refine J.aload_n dX12_chain_116 rfl rfl ?_
      refine J.getR (r := 124) fl_X12_132 rfl dX12_chain_117 (lt83 hs) (kk83 hs) (rr83_41 hs) ?_
      refine J.iconst (v := 2) dX12_chain_120 (by decide) ?_
      refine J.iload dX12_chain_121 rfl ?_
      refine J.imul dX12_chain_123 ?_
      refine J.iconst (v := 1) dX12_chain_124 (by decide) ?_
      refine J.iadd dX12_chain_125 ?_
      obtain ⟨hb7, hW⟩ := hW
      refine J.iald (x := I 124 (((2 * x9) + 1).toNatClampNeg)) dX12_chain_126 (lt124 hs) (kk124 hs) hb7 rfl ?_
      refine J.topi (fun y8 hyy8 => ?_)
      have hW := hW y8 hyy8
      refine J.istore (vs' := [some (.ref (eB E + 83)), some (.int x1), some (.int x2), some (.int x3), some (.int x4), some (.int x5), some (.int x6), some (.int x7), some (.int x8), some (.int x9), some (.int x10), some (.int y6), some (.int y8), none]) dX12_chain_127 (by decide) rfl ?_
      refine J.aload_n dX12_chain_129 rfl rfl ?_
      refine J.iload dX12_chain_130 rfl ?_
      refine J.iload dX12_chain_132 rfl ?_
      refine J.iload dX12_chain_134 rfl ?_
      refine J.iload dX12_chain_136 rfl ?_
      refine J.isub dX12_chain_138 ?_
      refine J.iconst (v := 1) dX12_chain_139 (by decide) ?_
      refine J.isub dX12_chain_140 ?_
      refine J.callV (M' := mX12_nearer) (index := 269) (bc := 0) (bs := 0) (bc' := 0) (bs' := 0) (st := []) [.int y6, .int x7, .int ((x8 - x10) - 1)] ml_X12_269 cv_X12_nearer dX12_chain_141 (lt83 hs) (kk83 hs) (by decide) rfl rfl rfl rfl (Nat.le_of_ble_eq_true rfl) (kqi hW (fun r10 I9 hW => ?_))
      have hj : J E mX12_chain (d + 3) Q 0 0 153 [some (.ref (eB E + 83)), some (.int x1), some (.int x2), some (.int x3), some (.int x4), some (.int x5), some (.int x6), some (.int x7), some (.int x8), some (.int x9), some (.int x10), some (.int y6), some (.int y8), none] [.int (if r10 = 0 then (-1) else y6 : Int32)] h I9 L := by
        refine J.topi (fun y12 hyy12 => ?_)
        have hW := hW y12 hyy12
        refine J.istore (vs' := [some (.ref (eB E + 83)), some (.int x1), some (.int x2), some (.int x3), some (.int x4), some (.int x5), some (.int x6), some (.int x7), some (.int x8), some (.int x9), some (.int x10), some (.int y6), some (.int y8), some (.int y12)]) dX12_chain_153 (by decide) rfl ?_
        refine J.aload_n dX12_chain_155 rfl rfl ?_
        refine J.iload dX12_chain_156 rfl ?_
        refine J.iload dX12_chain_158 rfl ?_
        refine J.iload dX12_chain_160 rfl ?_
        refine J.iload dX12_chain_162 rfl ?_
        refine J.isub dX12_chain_164 ?_
        refine J.iconst (v := 1) dX12_chain_165 (by decide) ?_
        refine J.isub dX12_chain_166 ?_
        refine J.callV (M' := mX12_nearer) (index := 269) (bc := 0) (bs := 0) (bc' := 0) (bs' := 0) (st := []) [.int y8, .int x7, .int ((x8 - x10) - 1)] ml_X12_269 cv_X12_nearer dX12_chain_167 (lt83 hs) (kk83 hs) (by decide) rfl rfl rfl rfl (Nat.le_of_ble_eq_true rfl) (kqi hW (fun r14 I13 hW => ?_))
        have hj : J E mX12_chain (d + 3) Q 0 0 193 [some (.ref (eB E + 83)), some (.int x1), some (.int x2), some (.int x3), some (.int x4), some (.int x5), some (.int x6), some (.int x7), some (.int x8), some (.int x9), some (.int x10), some (.int y6), some (.int y8), some (.int y12)] [.int (if r14 = 0 then y12 else if y12 = (-1) then y8 else if y12 ≤ y8 then y12 else y8 : Int32)] h I13 L := by
          refine J.topi (fun y18 hyy18 => ?_)
          have hW := hW y18 hyy18
          refine J.istore (vs' := [some (.ref (eB E + 83)), some (.int x1), some (.int x2), some (.int x3), some (.int x4), some (.int x5), some (.int x6), some (.int x7), some (.int x8), some (.int x9), some (.int x10), some (.int y6), some (.int y8), some (.int y18)]) dX12_chain_193 (by decide) rfl ?_
          refine J.iload dX12_chain_195 rfl ?_
          refine J.istore (vs' := [some (.ref (eB E + 83)), some (.int x1), some (.int x2), some (.int x3), some (.int x4), some (.int x5), some (.int x6), some (.int x7), some (.int x8), some (.int y18), some (.int x10), some (.int y6), some (.int y8), some (.int y18)]) dX12_chain_197 (by decide) rfl ?_
          refine J.iinc (v := x10 + 1) (vs' := [some (.ref (eB E + 83)), some (.int x1), some (.int x2), some (.int x3), some (.int x4), some (.int x5), some (.int x6), some (.int x7), some (.int x8), some (.int y18), some (.int (x10 + 1)), some (.int y6), some (.int y8), some (.int y18)]) dX12_chain_199 rfl (by rfl) (by decide) rfl ?_
          refine J.goto 91 dX12_chain_202 (by decide) ?_
          exact J.mask [true, true, true, true, true, true, true, true, true, true, true, false, false, false] rfl hW
        refine J.if_eq 191 dX12_chain_170 (by decide) (fun hc15 => ?_) (fun hc15 => ?_)
        · refine J.iload dX12_chain_191 rfl ?_
          rw [show ((if r14 = 0 then y12 else if y12 = (-1) then y8 else if y12 ≤ y8 then y12 else y8 : Int32) = y12) from by simp only [eq_true hc15, if_true, if_false, bI_true, bI_false, and_true, true_and, and_false, false_and, or_true, true_or, or_false, false_or, not_true_eq_false, not_false_eq_true]] at hj
          exact hj
        · refine J.iload dX12_chain_173 rfl ?_
          refine J.iconst (v := (-1)) dX12_chain_175 (by decide) ?_
          refine J.ic_eq 186 dX12_chain_176 (by decide) (fun hc16 => ?_) (fun hc16 => ?_)
          · refine J.iload dX12_chain_186 rfl ?_
            refine J.goto 193 dX12_chain_188 (by decide) ?_
            rw [show ((if r14 = 0 then y12 else if y12 = (-1) then y8 else if y12 ≤ y8 then y12 else y8 : Int32) = y8) from by simp only [eq_false hc15, eq_true hc16, if_true, if_false, bI_true, bI_false, and_true, true_and, and_false, false_and, or_true, true_or, or_false, false_or, not_true_eq_false, not_false_eq_true]] at hj
            exact hj
          · refine J.iload dX12_chain_179 rfl ?_
            refine J.iload dX12_chain_181 rfl ?_
            refine J.ic_ge 191 dX12_chain_183 (by decide) (fun hc17 => ?_) (fun hc17 => ?_)
            · refine J.iload dX12_chain_191 rfl ?_
              rw [show ((if r14 = 0 then y12 else if y12 = (-1) then y8 else if y12 ≤ y8 then y12 else y8 : Int32) = y12) from by simp only [eq_false hc15, eq_false hc16, eq_true hc17, if_true, if_false, bI_true, bI_false, and_true, true_and, and_false, false_and, or_true, true_or, or_false, false_or, not_true_eq_false, not_false_eq_true]] at hj
              exact hj
            · refine J.iload dX12_chain_186 rfl ?_
              refine J.goto 193 dX12_chain_188 (by decide) ?_
              rw [show ((if r14 = 0 then y12 else if y12 = (-1) then y8 else if y12 ≤ y8 then y12 else y8 : Int32) = y8) from by simp only [eq_false hc15, eq_false hc16, eq_false hc17, if_true, if_false, bI_true, bI_false, and_true, true_and, and_false, false_and, or_true, true_or, or_false, false_or, not_true_eq_false, not_false_eq_true]] at hj
              exact hj
      refine J.if_eq 152 dX12_chain_144 (by decide) (fun hc11 => ?_) (fun hc11 => ?_)
      · refine J.iconst (v := (-1)) dX12_chain_152 (by decide) ?_
        rw [show ((if r10 = 0 then (-1) else y6 : Int32) = (-1)) from by simp only [eq_true hc11, if_true, if_false, bI_true, bI_false, and_true, true_and, and_false, false_and, or_true, true_or, or_false, false_or, not_true_eq_false, not_false_eq_true]] at hj
        exact hj
      · refine J.iload dX12_chain_147 rfl ?_
        refine J.goto 153 dX12_chain_149 (by decide) ?_
        rw [show ((if r10 = 0 then (-1) else y6 : Int32) = y6) from by simp only [eq_false hc11, if_true, if_false, bI_true, bI_false, and_true, true_and, and_false, false_and, or_true, true_or, or_false, false_or, not_true_eq_false, not_false_eq_true]] at hj
        exact hj
set_option maxRecDepth 100000 in
set_option maxHeartbeats 4000000 in
theorem w_X12_chain_214 {E : Envt} {d : Nat} {Q : Pst} {h : mS} {I : mI} {L : mL} (hs : SL h)    (x1 : Int32) (x2 : Int32) (x3 : Int32) (x4 : Int32) (x5 : Int32) (x6 : Int32) (x7 : Int32) (x8 : Int32) (x9 : Int32) (x10 : Int32)
    (hW : (((x5 ≤ x10) → Q (some (.int x9)) h I L) ∧ (¬ (x5 ≤ x10) → J E mX12_chain (d + 3) Q 0 0 224 [some (.ref (eB E + 83)), some (.int x1), some (.int x2), some (.int x3), some (.int x4), some (.int x5), some (.int x6), some (.int x7), some (.int x8), some (.int x9), some (.int x10), some (.int 0), none, none] [] h I L))) :
    J E mX12_chain (d + 3) Q 0 0 214 [some (.ref (eB E + 83)), some (.int x1), some (.int x2), some (.int x3), some (.int x4), some (.int x5), some (.int x6), some (.int x7), some (.int x8), some (.int x9), some (.int x10), none, none, none] [] h I L := by
  refine J.iload dX12_chain_214 rfl ?_
  refine J.iload dX12_chain_216 rfl ?_
  refine J.ic_ge 287 dX12_chain_218 (by decide) (fun hc1 => ?_) (fun hc1 => ?_)
  · have hW := hW.1 hc1
    refine J.iload dX12_chain_287 rfl ?_
    exact J.reti dX12_chain_289 rfl rfl hW
  · have hW := hW.2 hc1
    refine J.iconst (v := 0) dX12_chain_221 (by decide) ?_
    refine J.istore (vs' := [some (.ref (eB E + 83)), some (.int x1), some (.int x2), some (.int x3), some (.int x4), some (.int x5), some (.int x6), some (.int x7), some (.int x8), some (.int x9), some (.int x10), some (.int 0), none, none]) dX12_chain_222 (by decide) rfl ?_
    exact hW
set_option maxRecDepth 100000 in
set_option maxHeartbeats 4000000 in
theorem w_X12_chain_224 {E : Envt} {d : Nat} {Q : Pst} {h : mS} {I : mI} {L : mL} (hs : SL h)    (x1 : Int32) (x2 : Int32) (x3 : Int32) (x4 : Int32) (x5 : Int32) (x6 : Int32) (x7 : Int32) (x8 : Int32) (x9 : Int32) (x10 : Int32) (x11 : Int32)
    (hW : (vp_in x11 20 ∧ ((((I 126 x11.toNatClampNeg) = ((x6 - x10) - 1)) → (vp_in (2 * x11) 40 ∧ ((((I 124 ((2 * x11).toNatClampNeg)) = x9) → J E mX12_chain (d + 3) Q 0 0 214 [some (.ref (eB E + 83)), some (.int x1), some (.int x2), some (.int x3), some (.int x4), some (.int x5), some (.int x6), some (.int x7), some (.int x8), some (.int x11), some (.int (x10 + 1)), none, none, none] [] h I L) ∧ (¬ ((I 124 ((2 * x11).toNatClampNeg)) = x9) → (vp_in ((2 * x11) + 1) 40 ∧ ((((I 124 (((2 * x11) + 1).toNatClampNeg)) = x9) → J E mX12_chain (d + 3) Q 0 0 214 [some (.ref (eB E + 83)), some (.int x1), some (.int x2), some (.int x3), some (.int x4), some (.int x5), some (.int x6), some (.int x7), some (.int x8), some (.int x11), some (.int (x10 + 1)), none, none, none] [] h I L) ∧ (¬ ((I 124 (((2 * x11) + 1).toNatClampNeg)) = x9) → J E mX12_chain (d + 3) Q 0 0 224 [some (.ref (eB E + 83)), some (.int x1), some (.int x2), some (.int x3), some (.int x4), some (.int x5), some (.int x6), some (.int x7), some (.int x8), some (.int x9), some (.int x10), some (.int (x11 + 1)), none, none] [] h I L))))))) ∧ (¬ ((I 126 x11.toNatClampNeg) = ((x6 - x10) - 1)) → J E mX12_chain (d + 3) Q 0 0 224 [some (.ref (eB E + 83)), some (.int x1), some (.int x2), some (.int x3), some (.int x4), some (.int x5), some (.int x6), some (.int x7), some (.int x8), some (.int x9), some (.int x10), some (.int (x11 + 1)), none, none] [] h I L)))) :
    J E mX12_chain (d + 3) Q 0 0 224 [some (.ref (eB E + 83)), some (.int x1), some (.int x2), some (.int x3), some (.int x4), some (.int x5), some (.int x6), some (.int x7), some (.int x8), some (.int x9), some (.int x10), some (.int x11), none, none] [] h I L := by
  refine J.aload_n dX12_chain_224 rfl rfl ?_
  refine J.getR (r := 126) fl_X12_138 rfl dX12_chain_225 (lt83 hs) (kk83 hs) (rr83_43 hs) ?_
  refine J.iload dX12_chain_228 rfl ?_
  obtain ⟨hb1, hW⟩ := hW
  refine J.iald (x := I 126 x11.toNatClampNeg) dX12_chain_230 (lt126 hs) (kk126 hs) hb1 rfl ?_
  refine J.iload dX12_chain_231 rfl ?_
  refine J.iload dX12_chain_233 rfl ?_
  refine J.isub dX12_chain_235 ?_
  refine J.iconst (v := 1) dX12_chain_236 (by decide) ?_
  refine J.isub dX12_chain_237 ?_
  refine J.ic_ne 271 dX12_chain_238 (by decide) (fun hc2 => ?_) (fun hc2 => ?_)
  · have hW := hW.2 hc2
    refine J.iinc (v := x11 + 1) (vs' := [some (.ref (eB E + 83)), some (.int x1), some (.int x2), some (.int x3), some (.int x4), some (.int x5), some (.int x6), some (.int x7), some (.int x8), some (.int x9), some (.int x10), some (.int (x11 + 1)), none, none]) dX12_chain_271 rfl (by rfl) (by decide) rfl ?_
    refine J.goto 224 dX12_chain_274 (by decide) ?_
    exact hW
  · have hW := hW.1 hc2
    refine J.aload_n dX12_chain_241 rfl rfl ?_
    refine J.getR (r := 124) fl_X12_132 rfl dX12_chain_242 (lt83 hs) (kk83 hs) (rr83_41 hs) ?_
    refine J.iconst (v := 2) dX12_chain_245 (by decide) ?_
    refine J.iload dX12_chain_246 rfl ?_
    refine J.imul dX12_chain_248 ?_
    obtain ⟨hb3, hW⟩ := hW
    refine J.iald (x := I 124 ((2 * x11).toNatClampNeg)) dX12_chain_249 (lt124 hs) (kk124 hs) hb3 rfl ?_
    refine J.iload dX12_chain_250 rfl ?_
    refine J.ic_eq 277 dX12_chain_252 (by decide) (fun hc4 => ?_) (fun hc4 => ?_)
    · have hW := hW.1 hc4
      refine J.iload dX12_chain_277 rfl ?_
      refine J.istore (vs' := [some (.ref (eB E + 83)), some (.int x1), some (.int x2), some (.int x3), some (.int x4), some (.int x5), some (.int x6), some (.int x7), some (.int x8), some (.int x11), some (.int x10), some (.int x11), none, none]) dX12_chain_279 (by decide) rfl ?_
      refine J.iinc (v := x10 + 1) (vs' := [some (.ref (eB E + 83)), some (.int x1), some (.int x2), some (.int x3), some (.int x4), some (.int x5), some (.int x6), some (.int x7), some (.int x8), some (.int x11), some (.int (x10 + 1)), some (.int x11), none, none]) dX12_chain_281 rfl (by rfl) (by decide) rfl ?_
      refine J.goto 214 dX12_chain_284 (by decide) ?_
      exact J.mask [true, true, true, true, true, true, true, true, true, true, true, false, false, false] rfl hW
    · have hW := hW.2 hc4
      refine J.aload_n dX12_chain_255 rfl rfl ?_
      refine J.getR (r := 124) fl_X12_132 rfl dX12_chain_256 (lt83 hs) (kk83 hs) (rr83_41 hs) ?_
      refine J.iconst (v := 2) dX12_chain_259 (by decide) ?_
      refine J.iload dX12_chain_260 rfl ?_
      refine J.imul dX12_chain_262 ?_
      refine J.iconst (v := 1) dX12_chain_263 (by decide) ?_
      refine J.iadd dX12_chain_264 ?_
      obtain ⟨hb5, hW⟩ := hW
      refine J.iald (x := I 124 (((2 * x11) + 1).toNatClampNeg)) dX12_chain_265 (lt124 hs) (kk124 hs) hb5 rfl ?_
      refine J.iload dX12_chain_266 rfl ?_
      refine J.ic_eq 277 dX12_chain_268 (by decide) (fun hc6 => ?_) (fun hc6 => ?_)
      · have hW := hW.1 hc6
        refine J.iload dX12_chain_277 rfl ?_
        refine J.istore (vs' := [some (.ref (eB E + 83)), some (.int x1), some (.int x2), some (.int x3), some (.int x4), some (.int x5), some (.int x6), some (.int x7), some (.int x8), some (.int x11), some (.int x10), some (.int x11), none, none]) dX12_chain_279 (by decide) rfl ?_
        refine J.iinc (v := x10 + 1) (vs' := [some (.ref (eB E + 83)), some (.int x1), some (.int x2), some (.int x3), some (.int x4), some (.int x5), some (.int x6), some (.int x7), some (.int x8), some (.int x11), some (.int (x10 + 1)), some (.int x11), none, none]) dX12_chain_281 rfl (by rfl) (by decide) rfl ?_
        refine J.goto 214 dX12_chain_284 (by decide) ?_
        exact J.mask [true, true, true, true, true, true, true, true, true, true, true, false, false, false] rfl hW
      · have hW := hW.2 hc6
        refine J.iinc (v := x11 + 1) (vs' := [some (.ref (eB E + 83)), some (.int x1), some (.int x2), some (.int x3), some (.int x4), some (.int x5), some (.int x6), some (.int x7), some (.int x8), some (.int x9), some (.int x10), some (.int (x11 + 1)), none, none]) dX12_chain_271 rfl (by rfl) (by decide) rfl ?_
        refine J.goto 224 dX12_chain_274 (by decide) ?_
        exact hW
