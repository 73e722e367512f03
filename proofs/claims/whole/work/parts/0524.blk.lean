set_option maxRecDepth 100000 in
set_option maxHeartbeats 4000000 in
theorem w_X12_breaks {E : Envt} {d : Nat} {Q : Pst} {h : mS} {I : mI} {L : mL} (hs : SL h) (x1 : Int32) (x2 : Int32) 
    (hW : (((¬ (x1 < 0) ∧ (¬ ((((uI I 83 0 0) 106 0) - 1) < x1))) → ((vp_in x1 120) ∧ ((((((uI I 83 0 0) 109 x1.toNatClampNeg) = 0) ∨ (((uI I 83 0 0) 109 x1.toNatClampNeg) = 1)) → (((x2 = 0) → (CT E mX12_comes (d + 1) 0 0 [.ref (eB E + 83), .int x1, .int 3] h (uI I 83 0 0) L (qv h L fun I9 => Q (some (.int 1)) h I9 L))) ∧ (¬ (x2 = 0) → (vp_in x1 120 ∧ ((((I 109 x1.toNatClampNeg) = 1) → (vp_in (I 107 x1.toNatClampNeg) 80 ∧ (∀ y14 : Int32, y14 = I 96 ((I 107 x1.toNatClampNeg).toNatClampNeg) → (∀ y15 : Int32, y15 = (I 112 x1.toNatClampNeg) + (((((I 112 x1.toNatClampNeg).toInt64) * ((I 111 x1.toNatClampNeg).toInt64)) / 100).toInt32) → (vp_in y14 32 ∧ (((y15 ≤ (I 93 y14.toNatClampNeg)) → (vp_in (I 108 x1.toNatClampNeg) 80 ∧ (vp_in (I 96 ((I 108 x1.toNatClampNeg).toNatClampNeg)) 32 ∧ (CT E mX12_comes (d + 1) 0 0 [.ref (eB E + 83), .int x1, .int 3] h (uI (uI (uI (uI I 83 0 0) 93 y14.toNatClampNeg ((I 93 y14.toNatClampNeg) - y15)) 93 ((I 96 ((I 108 x1.toNatClampNeg).toNatClampNeg)).toNatClampNeg) (((uI (uI I 83 0 0) 93 y14.toNatClampNeg ((I 93 y14.toNatClampNeg) - y15)) 93 ((I 96 ((I 108 x1.toNatClampNeg).toNatClampNeg)).toNatClampNeg)) + y15)) 112 x1.toNatClampNeg 0) L (qv h L fun I20 => Q (some (.int 1)) h I20 L))))) ∧ (¬ (y15 ≤ (I 93 y14.toNatClampNeg)) → Q (some (.int 0)) h (uI I 83 0 0) L))))))) ∧ (¬ ((I 109 x1.toNatClampNeg) = 1) → (CT E mX12_comes (d + 1) 0 0 [.ref (eB E + 83), .int x1, .int 3] h (uI I 83 0 0) L (qv h L fun I12 => Q (some (.int 1)) h I12 L)))))))) ∧ (¬ ((((uI I 83 0 0) 109 x1.toNatClampNeg) = 0) ∨ (((uI I 83 0 0) 109 x1.toNatClampNeg) = 1)) → Q (some (.int 0)) h (uI I 83 0 0) L)))) ∧ (¬ (¬ (x1 < 0) ∧ (¬ ((((uI I 83 0 0) 106 0) - 1) < x1))) → Q (some (.int 0)) h (uI I 83 0 0) L))) :
    CT E mX12_breaks (d + 2) 0 0 [.ref (eB E + 83), .int x1, .int x2] h I L Q := by
  refine CT.of (by decide) [some (.ref (eB E + 83)), some (.int x1), some (.int x2), none, none] rfl (Nat.le_of_ble_eq_true rfl) ?_
  refine J.aload_n dX12_breaks_0 rfl rfl ?_
  refine J.iconst (v := 0) dX12_breaks_1 (by decide) ?_
  refine J.putI fw_X12_202 rfl dX12_breaks_2 (lt83 hs) (kk83 hs) ?_
  refine J.aload_n dX12_breaks_5 rfl rfl ?_
  refine J.iload_n dX12_breaks_6 rfl rfl ?_
  refine J.callV (M' := mX12_isMatch) (index := 433) (bc := 0) (bs := 0) (bc' := 0) (bs' := 0) (st := []) [.int x1] ml_X12_433 cv_X12_isMatch dX12_breaks_7 (lt83 hs) (kk83 hs) (by decide) rfl rfl rfl rfl (Nat.le_of_ble_eq_true rfl) (kqi (w_X12_isMatch (d := d) (Q := qi h L (fun v I' => I' = (uI I 83 0 0) ∧ v = bI (¬ (x1 < 0) ∧ (¬ ((((uI I 83 0 0) 106 0) - 1) < x1))))) hs x1 ⟨rfl, rfl, _, rfl, rfl, rfl⟩) (fun v1 I2 hv => ?_))
  rw [hv.1, hv.2]
  refine J.if_eq 21 dX12_breaks_10 (by decide) (fun hc3 => ?_) (fun hc3 => ?_)
  · have hc3 := bI_0.mp hc3
    have hW := hW.2 hc3
    refine J.iconst (v := 0) dX12_breaks_21 (by decide) ?_
    exact J.reti dX12_breaks_22 rfl (bz_nar (Or.inl rfl)) hW
  · have hc3 := bI_n0.mp hc3
    have hW := hW.1 hc3
    refine J.aload_n dX12_breaks_13 rfl rfl ?_
    refine J.iload_n dX12_breaks_14 rfl rfl ?_
    obtain ⟨hb4, hW⟩ := hW
    refine J.callV (M' := mX12_isOpen) (index := 272) (bc := 0) (bs := 0) (bc' := 0) (bs' := 0) (st := []) [.int x1] ml_X12_272 cv_X12_isOpen dX12_breaks_15 (lt83 hs) (kk83 hs) (by decide) rfl rfl rfl rfl (Nat.le_of_ble_eq_true rfl) (kqi (w_X12_isOpen (d := d + 1) (Q := qi h L (fun v I' => I' = (uI I 83 0 0) ∧ v = bI ((((uI I 83 0 0) 109 x1.toNatClampNeg) = 0) ∨ (((uI I 83 0 0) 109 x1.toNatClampNeg) = 1)))) hs x1 ⟨hb4, rfl, rfl, _, rfl, rfl, rfl⟩) (fun v5 I6 hv => ?_))
    rw [hv.1, hv.2]
    refine J.if_ne 23 dX12_breaks_18 (by decide) (fun hc7 => ?_) (fun hc7 => ?_)
    · have hc7 := bI_n0.mp hc7
      have hW := hW.1 hc7
      refine J.iload_n dX12_breaks_23 rfl rfl ?_
      refine J.if_eq 130 dX12_breaks_24 (by decide) (fun hc8 => ?_) (fun hc8 => ?_)
      · have hW := hW.1 hc8
        refine J.aload_n dX12_breaks_130 rfl rfl ?_
        refine J.iload_n dX12_breaks_131 rfl rfl ?_
        refine J.iconst (v := 3) dX12_breaks_132 (by decide) ?_
        refine J.callV (M' := mX12_comes) (index := 249) (bc := 0) (bs := 0) (bc' := 0) (bs' := 0) (st := []) [.int x1, .int 3] ml_X12_249 cv_X12_comes dX12_breaks_133 (lt83 hs) (kk83 hs) (by decide) rfl rfl rfl rfl (Nat.le_of_ble_eq_true rfl) (kqv hW (fun I9 hW => ?_))
        refine J.iconst (v := 1) dX12_breaks_136 (by decide) ?_
        exact J.reti dX12_breaks_137 rfl (bz_nar (Or.inr rfl)) hW
      · have hW := hW.2 hc8
        refine J.aload_n dX12_breaks_27 rfl rfl ?_
        refine J.getR (r := 109) fl_X12_87 rfl dX12_breaks_28 (lt83 hs) (kk83 hs) (rr83_26 hs) ?_
        refine J.iload_n dX12_breaks_31 rfl rfl ?_
        obtain ⟨hb10, hW⟩ := hW
        refine J.iald (x := I 109 x1.toNatClampNeg) dX12_breaks_32 (lt109 hs) (kk109 hs) hb10 rfl ?_
        refine J.iconst (v := 1) dX12_breaks_33 (by decide) ?_
        refine J.ic_ne 130 dX12_breaks_34 (by decide) (fun hc11 => ?_) (fun hc11 => ?_)
        · have hW := hW.2 hc11
          refine J.aload_n dX12_breaks_130 rfl rfl ?_
          refine J.iload_n dX12_breaks_131 rfl rfl ?_
          refine J.iconst (v := 3) dX12_breaks_132 (by decide) ?_
          refine J.callV (M' := mX12_comes) (index := 249) (bc := 0) (bs := 0) (bc' := 0) (bs' := 0) (st := []) [.int x1, .int 3] ml_X12_249 cv_X12_comes dX12_breaks_133 (lt83 hs) (kk83 hs) (by decide) rfl rfl rfl rfl (Nat.le_of_ble_eq_true rfl) (kqv hW (fun I12 hW => ?_))
          refine J.iconst (v := 1) dX12_breaks_136 (by decide) ?_
          exact J.reti dX12_breaks_137 rfl (bz_nar (Or.inr rfl)) hW
        · have hW := hW.1 hc11
          refine J.aload_n dX12_breaks_37 rfl rfl ?_
          refine J.getR (r := 96) fl_X12_47 rfl dX12_breaks_38 (lt83 hs) (kk83 hs) (rr83_13 hs) ?_
          refine J.aload_n dX12_breaks_41 rfl rfl ?_
          refine J.getR (r := 107) fl_X12_81 rfl dX12_breaks_42 (lt83 hs) (kk83 hs) (rr83_24 hs) ?_
          refine J.iload_n dX12_breaks_45 rfl rfl ?_
          refine J.iald (x := I 107 x1.toNatClampNeg) dX12_breaks_46 (lt107 hs) (kk107 hs) hb10 rfl ?_
          obtain ⟨hb13, hW⟩ := hW
          refine J.iald (x := I 96 ((I 107 x1.toNatClampNeg).toNatClampNeg)) dX12_breaks_47 (lt96 hs) (kk96 hs) hb13 rfl ?_
          refine J.topi (fun y14 hyy14 => ?_)
          have hW := hW y14 hyy14
          refine J.istore_n (vs' := [some (.ref (eB E + 83)), some (.int x1), some (.int x2), some (.int y14), none]) dX12_breaks_48 rfl (by decide) rfl ?_
          refine J.aload_n dX12_breaks_49 rfl rfl ?_
          refine J.getR (r := 112) fl_X12_96 rfl dX12_breaks_50 (lt83 hs) (kk83 hs) (rr83_29 hs) ?_
          refine J.iload_n dX12_breaks_53 rfl rfl ?_
          refine J.iald (x := I 112 x1.toNatClampNeg) dX12_breaks_54 (lt112 hs) (kk112 hs) hb10 rfl ?_
          refine J.aload_n dX12_breaks_55 rfl rfl ?_
          refine J.getR (r := 112) fl_X12_96 rfl dX12_breaks_56 (lt83 hs) (kk83 hs) (rr83_29 hs) ?_
          refine J.iload_n dX12_breaks_59 rfl rfl ?_
          refine J.iald (x := I 112 x1.toNatClampNeg) dX12_breaks_60 (lt112 hs) (kk112 hs) hb10 rfl ?_
          refine J.i2l dX12_breaks_61 ?_
          refine J.aload_n dX12_breaks_62 rfl rfl ?_
          refine J.getR (r := 111) fl_X12_93 rfl dX12_breaks_63 (lt83 hs) (kk83 hs) (rr83_28 hs) ?_
          refine J.iload_n dX12_breaks_66 rfl rfl ?_
          refine J.iald (x := I 111 x1.toNatClampNeg) dX12_breaks_67 (lt111 hs) (kk111 hs) hb10 rfl ?_
          refine J.i2l dX12_breaks_68 ?_
          refine J.lmul dX12_breaks_69 ?_
          refine J.ldc2 (v := 100) dX12_breaks_70 ck_X12_442 ?_
          refine J.ldiv dX12_breaks_73 (by decide) ?_
          refine J.l2i dX12_breaks_74 ?_
          refine J.iadd dX12_breaks_75 ?_
          refine J.topi (fun y15 hyy15 => ?_)
          have hW := hW y15 hyy15
          refine J.istore (vs' := [some (.ref (eB E + 83)), some (.int x1), some (.int x2), some (.int y14), some (.int y15)]) dX12_breaks_76 (by decide) rfl ?_
          refine J.aload_n dX12_breaks_78 rfl rfl ?_
          refine J.getR (r := 93) fl_X12_38 rfl dX12_breaks_79 (lt83 hs) (kk83 hs) (rr83_10 hs) ?_
          refine J.iload_n dX12_breaks_82 rfl rfl ?_
          obtain ⟨hb16, hW⟩ := hW
          refine J.iald (x := I 93 y14.toNatClampNeg) dX12_breaks_83 (lt93 hs) (kk93 hs) hb16 rfl ?_
          refine J.iload dX12_breaks_84 rfl ?_
          refine J.ic_ge 91 dX12_breaks_86 (by decide) (fun hc17 => ?_) (fun hc17 => ?_)
          · have hW := hW.1 hc17
            refine J.aload_n dX12_breaks_91 rfl rfl ?_
            refine J.getR (r := 93) fl_X12_38 rfl dX12_breaks_92 (lt83 hs) (kk83 hs) (rr83_10 hs) ?_
            refine J.iload_n dX12_breaks_95 rfl rfl ?_
            refine J.dup2 dX12_breaks_96 rfl rfl ?_
            refine J.iald (x := I 93 y14.toNatClampNeg) dX12_breaks_97 (lt93 hs) (kk93 hs) hb16 rfl ?_
            refine J.iload dX12_breaks_98 rfl ?_
            refine J.isub dX12_breaks_100 ?_
            refine J.iast dX12_breaks_101 (lt93 hs) (kk93 hs) hb16 ?_
            refine J.aload_n dX12_breaks_102 rfl rfl ?_
            refine J.getR (r := 93) fl_X12_38 rfl dX12_breaks_103 (lt83 hs) (kk83 hs) (rr83_10 hs) ?_
            refine J.aload_n dX12_breaks_106 rfl rfl ?_
            refine J.getR (r := 96) fl_X12_47 rfl dX12_breaks_107 (lt83 hs) (kk83 hs) (rr83_13 hs) ?_
            refine J.aload_n dX12_breaks_110 rfl rfl ?_
            refine J.getR (r := 108) fl_X12_84 rfl dX12_breaks_111 (lt83 hs) (kk83 hs) (rr83_25 hs) ?_
            refine J.iload_n dX12_breaks_114 rfl rfl ?_
            refine J.iald (x := I 108 x1.toNatClampNeg) dX12_breaks_115 (lt108 hs) (kk108 hs) hb10 rfl ?_
            obtain ⟨hb18, hW⟩ := hW
            refine J.iald (x := I 96 ((I 108 x1.toNatClampNeg).toNatClampNeg)) dX12_breaks_116 (lt96 hs) (kk96 hs) hb18 rfl ?_
            refine J.dup2 dX12_breaks_117 rfl rfl ?_
            obtain ⟨hb19, hW⟩ := hW
            refine J.iald (x := (uI (uI I 83 0 0) 93 y14.toNatClampNeg ((I 93 y14.toNatClampNeg) - y15)) 93 ((I 96 ((I 108 x1.toNatClampNeg).toNatClampNeg)).toNatClampNeg)) dX12_breaks_118 (lt93 hs) (kk93 hs) hb19 rfl ?_
            refine J.iload dX12_breaks_119 rfl ?_
            refine J.iadd dX12_breaks_121 ?_
            refine J.iast dX12_breaks_122 (lt93 hs) (kk93 hs) hb19 ?_
            refine J.aload_n dX12_breaks_123 rfl rfl ?_
            refine J.getR (r := 112) fl_X12_96 rfl dX12_breaks_124 (lt83 hs) (kk83 hs) (rr83_29 hs) ?_
            refine J.iload_n dX12_breaks_127 rfl rfl ?_
            refine J.iconst (v := 0) dX12_breaks_128 (by decide) ?_
            refine J.iast dX12_breaks_129 (lt112 hs) (kk112 hs) hb10 ?_
            refine J.aload_n dX12_breaks_130 rfl rfl ?_
            refine J.iload_n dX12_breaks_131 rfl rfl ?_
            refine J.iconst (v := 3) dX12_breaks_132 (by decide) ?_
            refine J.callV (M' := mX12_comes) (index := 249) (bc := 0) (bs := 0) (bc' := 0) (bs' := 0) (st := []) [.int x1, .int 3] ml_X12_249 cv_X12_comes dX12_breaks_133 (lt83 hs) (kk83 hs) (by decide) rfl rfl rfl rfl (Nat.le_of_ble_eq_true rfl) (kqv hW (fun I20 hW => ?_))
            refine J.iconst (v := 1) dX12_breaks_136 (by decide) ?_
            exact J.reti dX12_breaks_137 rfl (bz_nar (Or.inr rfl)) hW
          · have hW := hW.2 hc17
            refine J.iconst (v := 0) dX12_breaks_89 (by decide) ?_
            exact J.reti dX12_breaks_90 rfl (bz_nar (Or.inl rfl)) hW
    · have hc7 := bI_0.mp hc7
      have hW := hW.2 hc7
      refine J.iconst (v := 0) dX12_breaks_21 (by decide) ?_
      exact J.reti dX12_breaks_22 rfl (bz_nar (Or.inl rfl)) hW
set_option maxRecDepth 100000 in
set_option maxHeartbeats 4000000 in
theorem w_X12_isLate {E : Envt} {d : Nat} {Q : Pst} {h : mS} {I : mI} {L : mL} (hs : SL h) (x1 : Int32) 
    (hW : (vp_in x1 120 ∧ ((((I 109 x1.toNatClampNeg) = 2) → J E mX12_isLate (d + 3) Q 0 0 16 [some (.ref (eB E + 83)), some (.int x1), some (.int 0), some (.int 0), none, none, none] [] h I L) ∧ (¬ ((I 109 x1.toNatClampNeg) = 2) → Q (some (.int 0)) h I L)))) :
    CT E mX12_isLate (d + 3) 0 0 [.ref (eB E + 83), .int x1] h I L Q := by
  refine CT.of (by decide) [some (.ref (eB E + 83)), some (.int x1), none, none, none, none, none] rfl (Nat.le_of_ble_eq_true rfl) ?_
  refine J.aload_n dX12_isLate_0 rfl rfl ?_
  refine J.getR (r := 109) fl_X12_87 rfl dX12_isLate_1 (lt83 hs) (kk83 hs) (rr83_26 hs) ?_
  refine J.iload_n dX12_isLate_4 rfl rfl ?_
  obtain ⟨hb1, hW⟩ := hW
  refine J.iald (x := I 109 x1.toNatClampNeg) dX12_isLate_5 (lt109 hs) (kk109 hs) hb1 rfl ?_
  refine J.iconst (v := 2) dX12_isLate_6 (by decide) ?_
  refine J.ic_eq 12 dX12_isLate_7 (by decide) (fun hc2 => ?_) (fun hc2 => ?_)
  · have hW := hW.1 hc2
    refine J.iconst (v := 0) dX12_isLate_12 (by decide) ?_
    refine J.istore_n (vs' := [some (.ref (eB E + 83)), some (.int x1), some (.int 0), none, none, none, none]) dX12_isLate_13 rfl (by decide) rfl ?_
    refine J.iconst (v := 0) dX12_isLate_14 (by decide) ?_
    refine J.istore_n (vs' := [some (.ref (eB E + 83)), some (.int x1), some (.int 0), some (.int 0), none, none, none]) dX12_isLate_15 rfl (by decide) rfl ?_
    exact hW
  · have hW := hW.2 hc2
    refine J.iconst (v := 0) dX12_isLate_10 (by decide) ?_
    exact J.reti dX12_isLate_11 rfl (bz_nar (Or.inl rfl)) hW
set_option maxRecDepth 100000 in
set_option maxHeartbeats 4000000 in
theorem w_X12_isLate_16 {E : Envt} {d : Nat} {Q : Pst} {h : mS} {I : mI} {L : mL} (hs : SL h)    (x1 : Int32) (x2 : Int32) (x3 : Int32)
    (hW : (((2 ≤ x3) → (bz x2 ∧ Q (some (.int x2)) h I L)) ∧ (¬ (2 ≤ x3) → ((¬ (x3 = 0) → vp_in x1 120) ∧ (((x3 = 0) → vp_in x1 120) ∧ (∀ y7 : Int32, y7 = (if x3 = 0 then I 107 x1.toNatClampNeg else I 108 x1.toNatClampNeg : Int32) → (vp_in x1 120 ∧ (vp_in y7 80 ∧ (vp_in (I 96 y7.toNatClampNeg) 32 ∧ (CT E mX12_kinOf (d + 2) 0 0 [.ref (eB E + 83), .int (I 107 x1.toNatClampNeg), .int (I 108 x1.toNatClampNeg), .int (I 92 ((I 96 y7.toNatClampNeg).toNatClampNeg)), .int (I 88 0)] h I L (qi h L fun r12 I11 => J E mX12_isLate (d + 3) Q 0 0 81 [some (.ref (eB E + 83)), some (.int x1), some (.int x2), some (.int x3), some (.int y7), some (.int r12), some (.int 0)] [] h I11 L))))))))))) :
    J E mX12_isLate (d + 3) Q 0 0 16 [some (.ref (eB E + 83)), some (.int x1), some (.int x2), some (.int x3), none, none, none] [] h I L := by
  refine J.iload_n dX12_isLate_16 rfl rfl ?_
  refine J.iconst (v := 2) dX12_isLate_17 (by decide) ?_
  refine J.ic_ge 158 dX12_isLate_18 (by decide) (fun hc1 => ?_) (fun hc1 => ?_)
  · have hW := hW.1 hc1
    refine J.iload_n dX12_isLate_158 rfl rfl ?_
    obtain ⟨hz, hW⟩ := hW
    exact J.reti dX12_isLate_159 rfl (bz_nar hz) hW
  · have hW := hW.2 hc1
    refine J.iload_n dX12_isLate_21 rfl rfl ?_
    obtain ⟨hq4, hW⟩ := hW
    obtain ⟨hq6, hW⟩ := hW
    have hj : J E mX12_isLate (d + 3) Q 0 0 40 [some (.ref (eB E + 83)), some (.int x1), some (.int x2), some (.int x3), none, none, none] [.int (if x3 = 0 then I 107 x1.toNatClampNeg else I 108 x1.toNatClampNeg : Int32)] h I L := by
      refine J.topi (fun y7 hyy7 => ?_)
      have hW := hW y7 hyy7
      refine J.istore (vs' := [some (.ref (eB E + 83)), some (.int x1), some (.int x2), some (.int x3), some (.int y7), none, none]) dX12_isLate_40 (by decide) rfl ?_
      refine J.aload_n dX12_isLate_42 rfl rfl ?_
      refine J.aload_n dX12_isLate_43 rfl rfl ?_
      refine J.getR (r := 107) fl_X12_81 rfl dX12_isLate_44 (lt83 hs) (kk83 hs) (rr83_24 hs) ?_
      refine J.iload_n dX12_isLate_47 rfl rfl ?_
      obtain ⟨hb8, hW⟩ := hW
      refine J.iald (x := I 107 x1.toNatClampNeg) dX12_isLate_48 (lt107 hs) (kk107 hs) hb8 rfl ?_
      refine J.aload_n dX12_isLate_49 rfl rfl ?_
      refine J.getR (r := 108) fl_X12_84 rfl dX12_isLate_50 (lt83 hs) (kk83 hs) (rr83_25 hs) ?_
      refine J.iload_n dX12_isLate_53 rfl rfl ?_
      refine J.iald (x := I 108 x1.toNatClampNeg) dX12_isLate_54 (lt108 hs) (kk108 hs) hb8 rfl ?_
      refine J.aload_n dX12_isLate_55 rfl rfl ?_
      refine J.getR (r := 92) fl_X12_35 rfl dX12_isLate_56 (lt83 hs) (kk83 hs) (rr83_9 hs) ?_
      refine J.aload_n dX12_isLate_59 rfl rfl ?_
      refine J.getR (r := 96) fl_X12_47 rfl dX12_isLate_60 (lt83 hs) (kk83 hs) (rr83_13 hs) ?_
      refine J.iload dX12_isLate_63 rfl ?_
      obtain ⟨hb9, hW⟩ := hW
      refine J.iald (x := I 96 y7.toNatClampNeg) dX12_isLate_65 (lt96 hs) (kk96 hs) hb9 rfl ?_
      obtain ⟨hb10, hW⟩ := hW
      refine J.iald (x := I 92 ((I 96 y7.toNatClampNeg).toNatClampNeg)) dX12_isLate_66 (lt92 hs) (kk92 hs) hb10 rfl ?_
      refine J.aload_n dX12_isLate_67 rfl rfl ?_
      refine J.getR (r := 88) fl_X12_23 rfl dX12_isLate_68 (lt83 hs) (kk83 hs) (rr83_5 hs) ?_
      refine J.iconst (v := 0) dX12_isLate_71 (by decide) ?_
      refine J.iald (x := I 88 0) dX12_isLate_72 (lt88 hs) (kk88 hs) (by unfold vp_in; decide) rfl ?_
      refine J.callV (M' := mX12_kinOf) (index := 265) (bc := 0) (bs := 0) (bc' := 0) (bs' := 0) (st := []) [.int (I 107 x1.toNatClampNeg), .int (I 108 x1.toNatClampNeg), .int (I 92 ((I 96 y7.toNatClampNeg).toNatClampNeg)), .int (I 88 0)] ml_X12_265 cv_X12_kinOf dX12_isLate_73 (lt83 hs) (kk83 hs) (by decide) rfl rfl rfl rfl (Nat.le_of_ble_eq_true rfl) (kqi hW (fun r12 I11 hW => ?_))
      refine J.istore (vs' := [some (.ref (eB E + 83)), some (.int x1), some (.int x2), some (.int x3), some (.int y7), some (.int r12), none]) dX12_isLate_76 (by decide) rfl ?_
      refine J.iconst (v := 0) dX12_isLate_78 (by decide) ?_
      refine J.istore (vs' := [some (.ref (eB E + 83)), some (.int x1), some (.int x2), some (.int x3), some (.int y7), some (.int r12), some (.int 0)]) dX12_isLate_79 (by decide) rfl ?_
      exact hW
    refine J.if_ne 34 dX12_isLate_22 (by decide) (fun hc2 => ?_) (fun hc2 => ?_)
    · refine J.aload_n dX12_isLate_34 rfl rfl ?_
      refine J.getR (r := 108) fl_X12_84 rfl dX12_isLate_35 (lt83 hs) (kk83 hs) (rr83_25 hs) ?_
      refine J.iload_n dX12_isLate_38 rfl rfl ?_
      have hb3 := hq4 hc2
      refine J.iald (x := I 108 x1.toNatClampNeg) dX12_isLate_39 (lt108 hs) (kk108 hs) hb3 rfl ?_
      rw [show ((if x3 = 0 then I 107 x1.toNatClampNeg else I 108 x1.toNatClampNeg : Int32) = I 108 x1.toNatClampNeg) from by simp only [eq_false hc2, if_true, if_false, bI_true, bI_false, and_true, true_and, and_false, false_and, or_true, true_or, or_false, false_or, not_true_eq_false, not_false_eq_true]] at hj
      exact hj
    · refine J.aload_n dX12_isLate_25 rfl rfl ?_
      refine J.getR (r := 107) fl_X12_81 rfl dX12_isLate_26 (lt83 hs) (kk83 hs) (rr83_24 hs) ?_
      refine J.iload_n dX12_isLate_29 rfl rfl ?_
      have hb5 := hq6 hc2
      refine J.iald (x := I 107 x1.toNatClampNeg) dX12_isLate_30 (lt107 hs) (kk107 hs) hb5 rfl ?_
      refine J.goto 40 dX12_isLate_31 (by decide) ?_
      rw [show ((if x3 = 0 then I 107 x1.toNatClampNeg else I 108 x1.toNatClampNeg : Int32) = I 107 x1.toNatClampNeg) from by simp only [eq_true hc2, if_true, if_false, bI_true, bI_false, and_true, true_and, and_false, false_and, or_true, true_or, or_false, false_or, not_true_eq_false, not_false_eq_true]] at hj
      exact hj
set_option maxRecDepth 100000 in
set_option maxHeartbeats 4000000 in
theorem w_X12_isLate_81 {E : Envt} {d : Nat} {Q : Pst} {h : mS} {I : mI} {L : mL} (hs : SL h)    (x1 : Int32) (x2 : Int32) (x3 : Int32) (x4 : Int32) (x5 : Int32) (x6 : Int32)
    (hW : (((11 ≤ x6) → (CT E mX12_readBy (d + 2) 0 0 [.ref (eB E + 83), .int ((7 + (2 * x1)) + x3)] h (uI I 133 6 x5) L (qv h L fun I2 => J E mX12_isLate (d + 3) Q 0 0 16 [some (.ref (eB E + 83)), some (.int x1), some (.int (bI (¬ (x2 = 0) ∨ (¬ ((I2 83 62) = (-1)))))), some (.int (x3 + 1)), none, none, none] [] h I2 L))) ∧ (¬ (11 ≤ x6) → (vp_in ((11 * x1) + x6) 1320 ∧ (vp_in x6 11 ∧ J E mX12_isLate (d + 3) Q 0 0 81 [some (.ref (eB E + 83)), some (.int x1), some (.int x2), some (.int x3), some (.int x4), some (.int x5), some (.int (x6 + 1))] [] h (uI I 133 x6.toNatClampNeg (I 115 (((11 * x1) + x6).toNatClampNeg))) L))))) :
    J E mX12_isLate (d + 3) Q 0 0 81 [some (.ref (eB E + 83)), some (.int x1), some (.int x2), some (.int x3), some (.int x4), some (.int x5), some (.int x6)] [] h I L := by
  refine J.iload dX12_isLate_81 rfl ?_
  refine J.bipush (v := 11) dX12_isLate_83 (by decide) ?_
  refine J.ic_ge 113 dX12_isLate_85 (by decide) (fun hc1 => ?_) (fun hc1 => ?_)
  · have hW := hW.1 hc1
    refine J.aload_n dX12_isLate_113 rfl rfl ?_
    refine J.getR (r := 133) fl_X12_159 rfl dX12_isLate_114 (lt83 hs) (kk83 hs) (rr83_61 hs) ?_
    refine J.bipush (v := 6) dX12_isLate_117 (by decide) ?_
    refine J.iload dX12_isLate_119 rfl ?_
    refine J.iast dX12_isLate_121 (lt133 hs) (kk133 hs) (by unfold vp_in; decide) ?_
    refine J.aload_n dX12_isLate_122 rfl rfl ?_
    refine J.bipush (v := 7) dX12_isLate_123 (by decide) ?_
    refine J.iconst (v := 2) dX12_isLate_125 (by decide) ?_
    refine J.iload_n dX12_isLate_126 rfl rfl ?_
    refine J.imul dX12_isLate_127 ?_
    refine J.iadd dX12_isLate_128 ?_
    refine J.iload_n dX12_isLate_129 rfl rfl ?_
    refine J.iadd dX12_isLate_130 ?_
    refine J.callV (M' := mX12_readBy) (index := 417) (bc := 0) (bs := 0) (bc' := 0) (bs' := 0) (st := []) [.int ((7 + (2 * x1)) + x3)] ml_X12_417 cv_X12_readBy dX12_isLate_131 (lt83 hs) (kk83 hs) (by decide) rfl rfl rfl rfl (Nat.le_of_ble_eq_true rfl) (kqv hW (fun I2 hW => ?_))
    refine J.iload_n dX12_isLate_134 rfl rfl ?_
    have hj : J E mX12_isLate (d + 3) Q 0 0 151 [some (.ref (eB E + 83)), some (.int x1), some (.int x2), some (.int x3), some (.int x4), some (.int x5), some (.int x6)] [.int (bI (¬ (x2 = 0) ∨ (¬ ((I2 83 62) = (-1)))))] h I2 L := by
      refine J.istore_n (vs' := [some (.ref (eB E + 83)), some (.int x1), some (.int (bI (¬ (x2 = 0) ∨ (¬ ((I2 83 62) = (-1)))))), some (.int x3), some (.int x4), some (.int x5), some (.int x6)]) dX12_isLate_151 rfl (by decide) rfl ?_
      refine J.iinc (v := x3 + 1) (vs' := [some (.ref (eB E + 83)), some (.int x1), some (.int (bI (¬ (x2 = 0) ∨ (¬ ((I2 83 62) = (-1)))))), some (.int (x3 + 1)), some (.int x4), some (.int x5), some (.int x6)]) dX12_isLate_152 rfl (by rfl) (by decide) rfl ?_
      refine J.goto 16 dX12_isLate_155 (by decide) ?_
      exact J.mask [true, true, true, true, false, false, false] rfl hW
    refine J.if_ne 146 dX12_isLate_135 (by decide) (fun hc3 => ?_) (fun hc3 => ?_)
    · refine J.iconst (v := 1) dX12_isLate_146 (by decide) ?_
      refine J.goto 151 dX12_isLate_147 (by decide) ?_
      rw [show bI (¬ (x2 = 0) ∨ (¬ ((I2 83 62) = (-1)))) = 1 from bI_t (by simp only [eq_false hc3, and_true, true_and, and_false, false_and, or_true, true_or, or_false, false_or, not_true_eq_false, not_false_eq_true])] at hj
      exact hj
    · refine J.aload_n dX12_isLate_138 rfl rfl ?_
      refine J.getI (x := I2 83 62) fl_X12_395 rfl dX12_isLate_139 (lt83 hs) (kk83 hs) rfl ?_
      refine J.iconst (v := (-1)) dX12_isLate_142 (by decide) ?_
      refine J.ic_eq 150 dX12_isLate_143 (by decide) (fun hc4 => ?_) (fun hc4 => ?_)
      · refine J.iconst (v := 0) dX12_isLate_150 (by decide) ?_
        rw [show bI (¬ (x2 = 0) ∨ (¬ ((I2 83 62) = (-1)))) = 0 from bI_f (by simp only [eq_true hc3, eq_true hc4, and_true, true_and, and_false, false_and, or_true, true_or, or_false, false_or, not_true_eq_false, not_false_eq_true])] at hj
        exact hj
      · refine J.iconst (v := 1) dX12_isLate_146 (by decide) ?_
        refine J.goto 151 dX12_isLate_147 (by decide) ?_
        rw [show bI (¬ (x2 = 0) ∨ (¬ ((I2 83 62) = (-1)))) = 1 from bI_t (by simp only [eq_true hc3, eq_false hc4, and_true, true_and, and_false, false_and, or_true, true_or, or_false, false_or, not_true_eq_false, not_false_eq_true])] at hj
        exact hj
  · have hW := hW.2 hc1
    refine J.aload_n dX12_isLate_88 rfl rfl ?_
    refine J.getR (r := 133) fl_X12_159 rfl dX12_isLate_89 (lt83 hs) (kk83 hs) (rr83_61 hs) ?_
    refine J.iload dX12_isLate_92 rfl ?_
    refine J.aload_n dX12_isLate_94 rfl rfl ?_
    refine J.getR (r := 115) fl_X12_105 rfl dX12_isLate_95 (lt83 hs) (kk83 hs) (rr83_32 hs) ?_
    refine J.bipush (v := 11) dX12_isLate_98 (by decide) ?_
    refine J.iload_n dX12_isLate_100 rfl rfl ?_
    refine J.imul dX12_isLate_101 ?_
    refine J.iload dX12_isLate_102 rfl ?_
    refine J.iadd dX12_isLate_104 ?_
    obtain ⟨hb5, hW⟩ := hW
    refine J.iald (x := I 115 (((11 * x1) + x6).toNatClampNeg)) dX12_isLate_105 (lt115 hs) (kk115 hs) hb5 rfl ?_
    obtain ⟨hb6, hW⟩ := hW
    refine J.iast dX12_isLate_106 (lt133 hs) (kk133 hs) hb6 ?_
    refine J.iinc (v := x6 + 1) (vs' := [some (.ref (eB E + 83)), some (.int x1), some (.int x2), some (.int x3), some (.int x4), some (.int x5), some (.int (x6 + 1))]) dX12_isLate_107 rfl (by rfl) (by decide) rfl ?_
    refine J.goto 81 dX12_isLate_110 (by decide) ?_
    exact hW
set_option maxRecDepth 100000 in
set_option maxHeartbeats 4000000 in
theorem w_X12_match {E : Envt} {d : Nat} {Q : Pst} {h : mS} {I : mI} {L : mL} (hs : SL h) (x1 : Int32) (x2 : Int32) 
    (hW : (((¬ (x1 < 0) ∧ (¬ ((((uI I 83 0 0) 106 0) - 1) < x1))) → ((x2 = 0 → (vp_in x1 120 ∧ Q (some (.int (I 107 x1.toNatClampNeg))) h (uI I 83 0 0) L)) ∧ (x2 = 1 → (vp_in x1 120 ∧ Q (some (.int (I 108 x1.toNatClampNeg))) h (uI I 83 0 0) L)) ∧ (x2 = 2 → (vp_in x1 120 ∧ Q (some (.int (I 109 x1.toNatClampNeg))) h (uI I 83 0 0) L)) ∧ (x2 = 3 → (vp_in x1 120 ∧ Q (some (.int (I 110 x1.toNatClampNeg))) h (uI I 83 0 0) L)) ∧ (x2 = 4 → (vp_in x1 120 ∧ Q (some (.int (I 111 x1.toNatClampNeg))) h (uI I 83 0 0) L)) ∧ (x2 = 5 → (vp_in x1 120 ∧ Q (some (.int (I 112 x1.toNatClampNeg))) h (uI I 83 0 0) L)) ∧ (x2 = 6 → (vp_in x1 120 ∧ Q (some (.int (I 113 x1.toNatClampNeg))) h (uI I 83 0 0) L)) ∧ (x2 = 7 → (vp_in x1 120 ∧ Q (some (.int (I 114 x1.toNatClampNeg))) h (uI I 83 0 0) L)) ∧ (x2 = 8 → (CT E mX12_isLate (d + 3) 0 0 [.ref (eB E + 83), .int x1] h (uI I 83 0 0) L (qi h L fun r13 I12 => Q (some (.int (bI (¬ (r13 = 0))))) h I12 L))) ∧ (¬ x2 = 0 → ¬ x2 = 1 → ¬ x2 = 2 → ¬ x2 = 3 → ¬ x2 = 4 → ¬ x2 = 5 → ¬ x2 = 6 → ¬ x2 = 7 → ¬ x2 = 8 → Q (some (.int (-1))) h (uI I 83 0 0) L))) ∧ (¬ (¬ (x1 < 0) ∧ (¬ ((((uI I 83 0 0) 106 0) - 1) < x1))) → Q (some (.int (-1))) h (uI I 83 0 0) L))) :
    CT E mX12_match (d + 4) 0 0 [.ref (eB E + 83), .int x1, .int x2] h I L Q := by
  refine CT.of (by decide) [some (.ref (eB E + 83)), some (.int x1), some (.int x2)] rfl (Nat.le_of_ble_eq_true rfl) ?_
  refine J.aload_n dX12_match_0 rfl rfl ?_
  refine J.iconst (v := 0) dX12_match_1 (by decide) ?_
  refine J.putI fw_X12_202 rfl dX12_match_2 (lt83 hs) (kk83 hs) ?_
  refine J.aload_n dX12_match_5 rfl rfl ?_
  refine J.iload_n dX12_match_6 rfl rfl ?_
  refine J.callV (M' := mX12_isMatch) (index := 433) (bc := 0) (bs := 0) (bc' := 0) (bs' := 0) (st := []) [.int x1] ml_X12_433 cv_X12_isMatch dX12_match_7 (lt83 hs) (kk83 hs) (by decide) rfl rfl rfl rfl (Nat.le_of_ble_eq_true rfl) (kqi (w_X12_isMatch (d := d + 2) (Q := qi h L (fun v I' => I' = (uI I 83 0 0) ∧ v = bI (¬ (x1 < 0) ∧ (¬ ((((uI I 83 0 0) 106 0) - 1) < x1))))) hs x1 ⟨rfl, rfl, _, rfl, rfl, rfl⟩) (fun v1 I2 hv => ?_))
  rw [hv.1, hv.2]
  refine J.if_ne 15 dX12_match_10 (by decide) (fun hc3 => ?_) (fun hc3 => ?_)
  · have hc3 := bI_n0.mp hc3
    have hW := hW.1 hc3
    refine J.iload_n dX12_match_15 rfl rfl ?_
    by_cases hk15 : x2 = 0
    · have hW := hW.1 hk15
      refine J.tableIn (off := 52) 68 dX12_match_16 (by rw [hk15] <;> decide) (by rw [hk15] <;> decide) (by rw [hk15] <;> rfl) (by decide) ?_
      refine J.aload_n dX12_match_68 rfl rfl ?_
      refine J.getR (r := 107) fl_X12_81 rfl dX12_match_69 (lt83 hs) (kk83 hs) (rr83_24 hs) ?_
      refine J.iload_n dX12_match_72 rfl rfl ?_
      obtain ⟨hb4, hW⟩ := hW
      refine J.iald (x := I 107 x1.toNatClampNeg) dX12_match_73 (lt107 hs) (kk107 hs) hb4 rfl ?_
      exact J.reti dX12_match_74 rfl rfl hW
    by_cases hk16 : x2 = 1
    · have hW := hW.2.1 hk16
      refine J.tableIn (off := 59) 75 dX12_match_16 (by rw [hk16] <;> decide) (by rw [hk16] <;> decide) (by rw [hk16] <;> rfl) (by decide) ?_
      refine J.aload_n dX12_match_75 rfl rfl ?_
      refine J.getR (r := 108) fl_X12_84 rfl dX12_match_76 (lt83 hs) (kk83 hs) (rr83_25 hs) ?_
      refine J.iload_n dX12_match_79 rfl rfl ?_
      obtain ⟨hb5, hW⟩ := hW
      refine J.iald (x := I 108 x1.toNatClampNeg) dX12_match_80 (lt108 hs) (kk108 hs) hb5 rfl ?_
      exact J.reti dX12_match_81 rfl rfl hW
    by_cases hk17 : x2 = 2
    · have hW := hW.2.2.1 hk17
      refine J.tableIn (off := 66) 82 dX12_match_16 (by rw [hk17] <;> decide) (by rw [hk17] <;> decide) (by rw [hk17] <;> rfl) (by decide) ?_
      refine J.aload_n dX12_match_82 rfl rfl ?_
      refine J.getR (r := 109) fl_X12_87 rfl dX12_match_83 (lt83 hs) (kk83 hs) (rr83_26 hs) ?_
      refine J.iload_n dX12_match_86 rfl rfl ?_
      obtain ⟨hb6, hW⟩ := hW
      refine J.iald (x := I 109 x1.toNatClampNeg) dX12_match_87 (lt109 hs) (kk109 hs) hb6 rfl ?_
      exact J.reti dX12_match_88 rfl rfl hW
    by_cases hk18 : x2 = 3
    · have hW := hW.2.2.2.1 hk18
      refine J.tableIn (off := 73) 89 dX12_match_16 (by rw [hk18] <;> decide) (by rw [hk18] <;> decide) (by rw [hk18] <;> rfl) (by decide) ?_
      refine J.aload_n dX12_match_89 rfl rfl ?_
      refine J.getR (r := 110) fl_X12_90 rfl dX12_match_90 (lt83 hs) (kk83 hs) (rr83_27 hs) ?_
      refine J.iload_n dX12_match_93 rfl rfl ?_
      obtain ⟨hb7, hW⟩ := hW
      refine J.iald (x := I 110 x1.toNatClampNeg) dX12_match_94 (lt110 hs) (kk110 hs) hb7 rfl ?_
      exact J.reti dX12_match_95 rfl rfl hW
    by_cases hk19 : x2 = 4
    · have hW := hW.2.2.2.2.1 hk19
      refine J.tableIn (off := 80) 96 dX12_match_16 (by rw [hk19] <;> decide) (by rw [hk19] <;> decide) (by rw [hk19] <;> rfl) (by decide) ?_
      refine J.aload_n dX12_match_96 rfl rfl ?_
      refine J.getR (r := 111) fl_X12_93 rfl dX12_match_97 (lt83 hs) (kk83 hs) (rr83_28 hs) ?_
      refine J.iload_n dX12_match_100 rfl rfl ?_
      obtain ⟨hb8, hW⟩ := hW
      refine J.iald (x := I 111 x1.toNatClampNeg) dX12_match_101 (lt111 hs) (kk111 hs) hb8 rfl ?_
      exact J.reti dX12_match_102 rfl rfl hW
    by_cases hk20 : x2 = 5
    · have hW := hW.2.2.2.2.2.1 hk20
      refine J.tableIn (off := 87) 103 dX12_match_16 (by rw [hk20] <;> decide) (by rw [hk20] <;> decide) (by rw [hk20] <;> rfl) (by decide) ?_
      refine J.aload_n dX12_match_103 rfl rfl ?_
      refine J.getR (r := 112) fl_X12_96 rfl dX12_match_104 (lt83 hs) (kk83 hs) (rr83_29 hs) ?_
      refine J.iload_n dX12_match_107 rfl rfl ?_
      obtain ⟨hb9, hW⟩ := hW
      refine J.iald (x := I 112 x1.toNatClampNeg) dX12_match_108 (lt112 hs) (kk112 hs) hb9 rfl ?_
      exact J.reti dX12_match_109 rfl rfl hW
    by_cases hk21 : x2 = 6
    · have hW := hW.2.2.2.2.2.2.1 hk21
      refine J.tableIn (off := 94) 110 dX12_match_16 (by rw [hk21] <;> decide) (by rw [hk21] <;> decide) (by rw [hk21] <;> rfl) (by decide) ?_
      refine J.aload_n dX12_match_110 rfl rfl ?_
      refine J.getR (r := 113) fl_X12_99 rfl dX12_match_111 (lt83 hs) (kk83 hs) (rr83_30 hs) ?_
      refine J.iload_n dX12_match_114 rfl rfl ?_
      obtain ⟨hb10, hW⟩ := hW
      refine J.iald (x := I 113 x1.toNatClampNeg) dX12_match_115 (lt113 hs) (kk113 hs) hb10 rfl ?_
      exact J.reti dX12_match_116 rfl rfl hW
    by_cases hk22 : x2 = 7
    · have hW := hW.2.2.2.2.2.2.2.1 hk22
      refine J.tableIn (off := 101) 117 dX12_match_16 (by rw [hk22] <;> decide) (by rw [hk22] <;> decide) (by rw [hk22] <;> rfl) (by decide) ?_
      refine J.aload_n dX12_match_117 rfl rfl ?_
      refine J.getR (r := 114) fl_X12_102 rfl dX12_match_118 (lt83 hs) (kk83 hs) (rr83_31 hs) ?_
      refine J.iload_n dX12_match_121 rfl rfl ?_
      obtain ⟨hb11, hW⟩ := hW
      refine J.iald (x := I 114 x1.toNatClampNeg) dX12_match_122 (lt114 hs) (kk114 hs) hb11 rfl ?_
      exact J.reti dX12_match_123 rfl rfl hW
    by_cases hk23 : x2 = 8
    · have hW := hW.2.2.2.2.2.2.2.2.1 hk23
      refine J.tableIn (off := 108) 124 dX12_match_16 (by rw [hk23] <;> decide) (by rw [hk23] <;> decide) (by rw [hk23] <;> rfl) (by decide) ?_
      refine J.aload_n dX12_match_124 rfl rfl ?_
      refine J.iload_n dX12_match_125 rfl rfl ?_
      refine J.callV (M' := mX12_isLate) (index := 444) (bc := 0) (bs := 0) (bc' := 0) (bs' := 0) (st := []) [.int x1] ml_X12_444 cv_X12_isLate dX12_match_126 (lt83 hs) (kk83 hs) (by decide) rfl rfl rfl rfl (Nat.le_of_ble_eq_true rfl) (kqi hW (fun r13 I12 hW => ?_))
      have hj : J E mX12_match (d + 4) Q 0 0 137 [some (.ref (eB E + 83)), some (.int x1), some (.int x2)] [.int (bI (¬ (r13 = 0)))] h I12 L := by
        exact J.reti dX12_match_137 rfl rfl hW
      refine J.if_eq 136 dX12_match_129 (by decide) (fun hc14 => ?_) (fun hc14 => ?_)
      · refine J.iconst (v := 0) dX12_match_136 (by decide) ?_
        rw [show bI (¬ (r13 = 0)) = 0 from bI_f (by simp only [eq_true hc14, and_true, true_and, and_false, false_and, or_true, true_or, or_false, false_or, not_true_eq_false, not_false_eq_true])] at hj
        exact hj
      · refine J.iconst (v := 1) dX12_match_132 (by decide) ?_
        refine J.goto 137 dX12_match_133 (by decide) ?_
        rw [show bI (¬ (r13 = 0)) = 1 from bI_t (by simp only [eq_false hc14, and_true, true_and, and_false, false_and, or_true, true_or, or_false, false_or, not_true_eq_false, not_false_eq_true])] at hj
        exact hj
    have hW := hW.2.2.2.2.2.2.2.2.2 hk15 hk16 hk17 hk18 hk19 hk20 hk21 hk22 hk23
    refine J.tableOut 138 dX12_match_16 (by have := toInt_ne (k := 0) (by decide) hk15; have := toInt_ne (k := 1) (by decide) hk16; have := toInt_ne (k := 2) (by decide) hk17; have := toInt_ne (k := 3) (by decide) hk18; have := toInt_ne (k := 4) (by decide) hk19; have := toInt_ne (k := 5) (by decide) hk20; have := toInt_ne (k := 6) (by decide) hk21; have := toInt_ne (k := 7) (by decide) hk22; have := toInt_ne (k := 8) (by decide) hk23; omega) (by decide) ?_
    refine J.iconst (v := (-1)) dX12_match_138 (by decide) ?_
    exact J.reti dX12_match_139 rfl rfl hW
  · have hc3 := bI_0.mp hc3
    have hW := hW.2 hc3
    refine J.iconst (v := (-1)) dX12_match_13 (by decide) ?_
    exact J.reti dX12_match_14 rfl rfl hW
set_option maxRecDepth 100000 in
set_option maxHeartbeats 4000000 in
theorem w_X12_late {E : Envt} {d : Nat} {Q : Pst} {h : mS} {I : mI} {L : mL} (hs : SL h) (x1 : Int32) 
    (hW : J E mX12_late (d + 4) Q 0 0 9 [some (.ref (eB E + 83)), some (.int x1), some (.int 0), some (.int 0)] [] h (uI I 83 0 0) L) :
    CT E mX12_late (d + 4) 0 0 [.ref (eB E + 83), .int x1] h I L Q := by
  refine CT.of (by decide) [some (.ref (eB E + 83)), some (.int x1), none, none] rfl (Nat.le_of_ble_eq_true rfl) ?_
  refine J.aload_n dX12_late_0 rfl rfl ?_
  refine J.iconst (v := 0) dX12_late_1 (by decide) ?_
  refine J.putI fw_X12_202 rfl dX12_late_2 (lt83 hs) (kk83 hs) ?_
  refine J.iconst (v := 0) dX12_late_5 (by decide) ?_
  refine J.istore_n (vs' := [some (.ref (eB E + 83)), some (.int x1), some (.int 0), none]) dX12_late_6 rfl (by decide) rfl ?_
  refine J.iconst (v := 0) dX12_late_7 (by decide) ?_
  refine J.istore_n (vs' := [some (.ref (eB E + 83)), some (.int x1), some (.int 0), some (.int 0)]) dX12_late_8 rfl (by decide) rfl ?_
  exact hW
set_option maxRecDepth 100000 in
set_option maxHeartbeats 4000000 in
theorem w_X12_late_9 {E : Envt} {d : Nat} {Q : Pst} {h : mS} {I : mI} {L : mL} (hs : SL h)    (x1 : Int32) (x2 : Int32) (x3 : Int32)
    (hW : ((((I 106 0) ≤ x3) → Q (some (.int (-1))) h I L) ∧ (¬ ((I 106 0) ≤ x3) → (CT E mX12_isLate (d + 3) 0 0 [.ref (eB E + 83), .int x3] h I L (qi h L fun r3 I2 => (((r3 = 0) → J E mX12_late (d + 4) Q 0 0 9 [some (.ref (eB E + 83)), some (.int x1), some (.int x2), some (.int (x3 + 1))] [] h I2 L) ∧ (¬ (r3 = 0) → (((x2 = x1) → Q (some (.int x3)) h I2 L) ∧ (¬ (x2 = x1) → J E mX12_late (d + 4) Q 0 0 9 [some (.ref (eB E + 83)), some (.int x1), some (.int (x2 + 1)), some (.int (x3 + 1))] [] h I2 L))))))))) :
    J E mX12_late (d + 4) Q 0 0 9 [some (.ref (eB E + 83)), some (.int x1), some (.int x2), some (.int x3)] [] h I L := by
  refine J.iload_n dX12_late_9 rfl rfl ?_
  refine J.aload_n dX12_late_10 rfl rfl ?_
  refine J.getR (r := 106) fl_X12_78 rfl dX12_late_11 (lt83 hs) (kk83 hs) (rr83_23 hs) ?_
  refine J.iconst (v := 0) dX12_late_14 (by decide) ?_
  refine J.iald (x := I 106 0) dX12_late_15 (lt106 hs) (kk106 hs) (by unfold vp_in; decide) rfl ?_
  refine J.ic_ge 43 dX12_late_16 (by decide) (fun hc1 => ?_) (fun hc1 => ?_)
  · have hW := hW.1 hc1
    refine J.iconst (v := (-1)) dX12_late_43 (by decide) ?_
    exact J.reti dX12_late_44 rfl rfl hW
  · have hW := hW.2 hc1
    refine J.aload_n dX12_late_19 rfl rfl ?_
    refine J.iload_n dX12_late_20 rfl rfl ?_
    refine J.callV (M' := mX12_isLate) (index := 444) (bc := 0) (bs := 0) (bc' := 0) (bs' := 0) (st := []) [.int x3] ml_X12_444 cv_X12_isLate dX12_late_21 (lt83 hs) (kk83 hs) (by decide) rfl rfl rfl rfl (Nat.le_of_ble_eq_true rfl) (kqi hW (fun r3 I2 hW => ?_))
    refine J.if_eq 37 dX12_late_24 (by decide) (fun hc4 => ?_) (fun hc4 => ?_)
    · have hW := hW.1 hc4
      refine J.iinc (v := x3 + 1) (vs' := [some (.ref (eB E + 83)), some (.int x1), some (.int x2), some (.int (x3 + 1))]) dX12_late_37 rfl (by rfl) (by decide) rfl ?_
      refine J.goto 9 dX12_late_40 (by decide) ?_
      exact hW
    · have hW := hW.2 hc4
      refine J.iload_n dX12_late_27 rfl rfl ?_
      refine J.iload_n dX12_late_28 rfl rfl ?_
      refine J.ic_ne 34 dX12_late_29 (by decide) (fun hc5 => ?_) (fun hc5 => ?_)
      · have hW := hW.2 hc5
        refine J.iinc (v := x2 + 1) (vs' := [some (.ref (eB E + 83)), some (.int x1), some (.int (x2 + 1)), some (.int x3)]) dX12_late_34 rfl (by rfl) (by decide) rfl ?_
        refine J.iinc (v := x3 + 1) (vs' := [some (.ref (eB E + 83)), some (.int x1), some (.int (x2 + 1)), some (.int (x3 + 1))]) dX12_late_37 rfl (by rfl) (by decide) rfl ?_
        refine J.goto 9 dX12_late_40 (by decide) ?_
        exact hW
      · have hW := hW.1 hc5
        refine J.iload_n dX12_late_32 rfl rfl ?_
        exact J.reti dX12_late_33 rfl rfl hW
set_option maxRecDepth 100000 in
set_option maxHeartbeats 4000000 in
theorem w_X12_wouldPart {E : Envt} {d : Nat} {Q : Pst} {h : mS} {I : mI} {L : mL} (hs : SL h) (x1 : Int32) (x2 : Int32) 
    (hW : (CT E mX12_openOf (d + 4) 0 0 [.ref (eB E + 83), .int x1] h I L (qi h L fun r2 I1 => (CT E mX12_openOf (d + 4) 0 0 [.ref (eB E + 83), .int x2] h I1 L (qi h L fun r4 I3 => (((r2 = (-1)) → Q (some (.int 0)) h I3 L) ∧ (¬ (r2 = (-1)) → (((r4 = (-1)) → Q (some (.int 0)) h I3 L) ∧ (¬ (r4 = (-1)) → (((r2 = r4) → Q (some (.int 0)) h I3 L) ∧ (¬ (r2 = r4) → (CT E mX12_mayWed (d + 4) 0 0 [.ref (eB E + 83), .int x1, .int x2] h I3 L (qi h L fun r9 I8 => (((r9 = 0) → Q (some (.int 0)) h I8 L) ∧ (¬ (r9 = 0) → (CT E mX12_likingOf (d + 4) 0 0 [.ref (eB E + 83), .int x1, .int x2] h I8 L (qi h L fun r12 I11 => (vp_in r2 120 ∧ (CT E mX12_likingOf (d + 4) 0 0 [.ref (eB E + 83), .int x1, .int (I11 108 r2.toNatClampNeg)] h I11 L (qi h L fun r15 I14 => (((r12 ≤ r15) → Q (some (.int 0)) h I14 L) ∧ (¬ (r12 ≤ r15) → (CT E mX12_likingOf (d + 4) 0 0 [.ref (eB E + 83), .int x2, .int x1] h I14 L (qi h L fun r18 I17 => (vp_in r4 120 ∧ (CT E mX12_likingOf (d + 4) 0 0 [.ref (eB E + 83), .int x2, .int (I17 107 r4.toNatClampNeg)] h I17 L (qi h L fun r21 I20 => Q (some (.int (bI (¬ (r18 ≤ r21))))) h I20 L))))))))))))))))))))))))))) :
    CT E mX12_wouldPart (d + 5) 0 0 [.ref (eB E + 83), .int x1, .int x2] h I L Q := by
  refine CT.of (by decide) [some (.ref (eB E + 83)), some (.int x1), some (.int x2), none, none] rfl (Nat.le_of_ble_eq_true rfl) ?_
  refine J.aload_n dX12_wouldPart_0 rfl rfl ?_
  refine J.iload_n dX12_wouldPart_1 rfl rfl ?_
  refine J.callV (M' := mX12_openOf) (index := 245) (bc := 0) (bs := 0) (bc' := 0) (bs' := 0) (st := []) [.int x1] ml_X12_245 cv_X12_openOf dX12_wouldPart_2 (lt83 hs) (kk83 hs) (by decide) rfl rfl rfl rfl (Nat.le_of_ble_eq_true rfl) (kqi hW (fun r2 I1 hW => ?_))
  refine J.istore_n (vs' := [some (.ref (eB E + 83)), some (.int x1), some (.int x2), some (.int r2), none]) dX12_wouldPart_5 rfl (by decide) rfl ?_
  refine J.aload_n dX12_wouldPart_6 rfl rfl ?_
  refine J.iload_n dX12_wouldPart_7 rfl rfl ?_
  refine J.callV (M' := mX12_openOf) (index := 245) (bc := 0) (bs := 0) (bc' := 0) (bs' := 0) (st := []) [.int x2] ml_X12_245 cv_X12_openOf dX12_wouldPart_8 (lt83 hs) (kk83 hs) (by decide) rfl rfl rfl rfl (Nat.le_of_ble_eq_true rfl) (kqi hW (fun r4 I3 hW => ?_))
  refine J.istore (vs' := [some (.ref (eB E + 83)), some (.int x1), some (.int x2), some (.int r2), some (.int r4)]) dX12_wouldPart_11 (by decide) rfl ?_
  refine J.iload_n dX12_wouldPart_13 rfl rfl ?_
  refine J.iconst (v := (-1)) dX12_wouldPart_14 (by decide) ?_
  refine J.ic_eq 39 dX12_wouldPart_15 (by decide) (fun hc5 => ?_) (fun hc5 => ?_)
  · have hW := hW.1 hc5
    refine J.iconst (v := 0) dX12_wouldPart_39 (by decide) ?_
    exact J.reti dX12_wouldPart_40 rfl (bz_nar (Or.inl rfl)) hW
  · have hW := hW.2 hc5
    refine J.iload dX12_wouldPart_18 rfl ?_
    refine J.iconst (v := (-1)) dX12_wouldPart_20 (by decide) ?_
    refine J.ic_eq 39 dX12_wouldPart_21 (by decide) (fun hc6 => ?_) (fun hc6 => ?_)
    · have hW := hW.1 hc6
      refine J.iconst (v := 0) dX12_wouldPart_39 (by decide) ?_
      exact J.reti dX12_wouldPart_40 rfl (bz_nar (Or.inl rfl)) hW
    · have hW := hW.2 hc6
      refine J.iload_n dX12_wouldPart_24 rfl rfl ?_
      refine J.iload dX12_wouldPart_25 rfl ?_
      refine J.ic_eq 39 dX12_wouldPart_27 (by decide) (fun hc7 => ?_) (fun hc7 => ?_)
      · have hW := hW.1 hc7
        refine J.iconst (v := 0) dX12_wouldPart_39 (by decide) ?_
        exact J.reti dX12_wouldPart_40 rfl (bz_nar (Or.inl rfl)) hW
      · have hW := hW.2 hc7
        refine J.aload_n dX12_wouldPart_30 rfl rfl ?_
        refine J.iload_n dX12_wouldPart_31 rfl rfl ?_
        refine J.iload_n dX12_wouldPart_32 rfl rfl ?_
        refine J.callV (M' := mX12_mayWed) (index := 426) (bc := 0) (bs := 0) (bc' := 0) (bs' := 0) (st := []) [.int x1, .int x2] ml_X12_426 cv_X12_mayWed dX12_wouldPart_33 (lt83 hs) (kk83 hs) (by decide) rfl rfl rfl rfl (Nat.le_of_ble_eq_true rfl) (kqi hW (fun r9 I8 hW => ?_))
        refine J.if_ne 41 dX12_wouldPart_36 (by decide) (fun hc10 => ?_) (fun hc10 => ?_)
        · have hW := hW.2 hc10
          refine J.aload_n dX12_wouldPart_41 rfl rfl ?_
          refine J.iload_n dX12_wouldPart_42 rfl rfl ?_
          refine J.iload_n dX12_wouldPart_43 rfl rfl ?_
          refine J.callV (M' := mX12_likingOf) (index := 429) (bc := 0) (bs := 0) (bc' := 0) (bs' := 0) (st := []) [.int x1, .int x2] ml_X12_429 cv_X12_likingOf dX12_wouldPart_44 (lt83 hs) (kk83 hs) (by decide) rfl rfl rfl rfl (Nat.le_of_ble_eq_true rfl) (kqi hW (fun r12 I11 hW => ?_))
          refine J.aload_n dX12_wouldPart_47 rfl rfl ?_
          refine J.iload_n dX12_wouldPart_48 rfl rfl ?_
          refine J.aload_n dX12_wouldPart_49 rfl rfl ?_
          refine J.getR (r := 108) fl_X12_84 rfl dX12_wouldPart_50 (lt83 hs) (kk83 hs) (rr83_25 hs) ?_
          refine J.iload_n dX12_wouldPart_53 rfl rfl ?_
          obtain ⟨hb13, hW⟩ := hW
          refine J.iald (x := I11 108 r2.toNatClampNeg) dX12_wouldPart_54 (lt108 hs) (kk108 hs) hb13 rfl ?_
          refine J.callV (M' := mX12_likingOf) (index := 429) (bc := 0) (bs := 0) (bc' := 0) (bs' := 0) (st := [.int r12]) [.int x1, .int (I11 108 r2.toNatClampNeg)] ml_X12_429 cv_X12_likingOf dX12_wouldPart_55 (lt83 hs) (kk83 hs) (by decide) rfl rfl rfl rfl (Nat.le_of_ble_eq_true rfl) (kqi hW (fun r15 I14 hW => ?_))
          refine J.ic_le 86 dX12_wouldPart_58 (by decide) (fun hc16 => ?_) (fun hc16 => ?_)
          · have hW := hW.1 hc16
            refine J.iconst (v := 0) dX12_wouldPart_86 (by decide) ?_
            exact J.reti dX12_wouldPart_87 rfl (bz_nar (Or.inl rfl)) hW
          · have hW := hW.2 hc16
            refine J.aload_n dX12_wouldPart_61 rfl rfl ?_
            refine J.iload_n dX12_wouldPart_62 rfl rfl ?_
            refine J.iload_n dX12_wouldPart_63 rfl rfl ?_
            refine J.callV (M' := mX12_likingOf) (index := 429) (bc := 0) (bs := 0) (bc' := 0) (bs' := 0) (st := []) [.int x2, .int x1] ml_X12_429 cv_X12_likingOf dX12_wouldPart_64 (lt83 hs) (kk83 hs) (by decide) rfl rfl rfl rfl (Nat.le_of_ble_eq_true rfl) (kqi hW (fun r18 I17 hW => ?_))
            refine J.aload_n dX12_wouldPart_67 rfl rfl ?_
            refine J.iload_n dX12_wouldPart_68 rfl rfl ?_
            refine J.aload_n dX12_wouldPart_69 rfl rfl ?_
            refine J.getR (r := 107) fl_X12_81 rfl dX12_wouldPart_70 (lt83 hs) (kk83 hs) (rr83_24 hs) ?_
            refine J.iload dX12_wouldPart_73 rfl ?_
            obtain ⟨hb19, hW⟩ := hW
            refine J.iald (x := I17 107 r4.toNatClampNeg) dX12_wouldPart_75 (lt107 hs) (kk107 hs) hb19 rfl ?_
            refine J.callV (M' := mX12_likingOf) (index := 429) (bc := 0) (bs := 0) (bc' := 0) (bs' := 0) (st := [.int r18]) [.int x2, .int (I17 107 r4.toNatClampNeg)] ml_X12_429 cv_X12_likingOf dX12_wouldPart_76 (lt83 hs) (kk83 hs) (by decide) rfl rfl rfl rfl (Nat.le_of_ble_eq_true rfl) (kqi hW (fun r21 I20 hW => ?_))
            have hj : J E mX12_wouldPart (d + 5) Q 0 0 87 [some (.ref (eB E + 83)), some (.int x1), some (.int x2), some (.int r2), some (.int r4)] [.int (bI (¬ (r18 ≤ r21)))] h I20 L := by
              exact J.reti dX12_wouldPart_87 rfl (bz_nar (bI_bz _)) hW
            refine J.ic_le 86 dX12_wouldPart_79 (by decide) (fun hc22 => ?_) (fun hc22 => ?_)
            · refine J.iconst (v := 0) dX12_wouldPart_86 (by decide) ?_
              rw [show bI (¬ (r18 ≤ r21)) = 0 from bI_f (by simp only [eq_true hc22, and_true, true_and, and_false, false_and, or_true, true_or, or_false, false_or, not_true_eq_false, not_false_eq_true])] at hj
              exact hj
            · refine J.iconst (v := 1) dX12_wouldPart_82 (by decide) ?_
              refine J.goto 87 dX12_wouldPart_83 (by decide) ?_
              rw [show bI (¬ (r18 ≤ r21)) = 1 from bI_t (by simp only [eq_false hc22, and_true, true_and, and_false, false_and, or_true, true_or, or_false, false_or, not_true_eq_false, not_false_eq_true])] at hj
              exact hj
        · have hW := hW.1 hc10
          refine J.iconst (v := 0) dX12_wouldPart_39 (by decide) ?_
          exact J.reti dX12_wouldPart_40 rfl (bz_nar (Or.inl rfl)) hW
set_option maxRecDepth 100000 in
set_option maxHeartbeats 4000000 in
theorem w_X12_parts {E : Envt} {d : Nat} {Q : Pst} {h : mS} {I : mI} {L : mL} (hs : SL h) (x1 : Int32) 
    (hW : J E mX12_parts (d + 6) Q 0 0 9 [some (.ref (eB E + 83)), some (.int x1), some (.int 0), some (.int 0), none] [] h (uI I 83 0 0) L) :
    CT E mX12_parts (d + 6) 0 0 [.ref (eB E + 83), .int x1] h I L Q := by
  refine CT.of (by decide) [some (.ref (eB E + 83)), some (.int x1), none, none, none] rfl (Nat.le_of_ble_eq_true rfl) ?_
  refine J.aload_n dX12_parts_0 rfl rfl ?_
  refine J.iconst (v := 0) dX12_parts_1 (by decide) ?_
  refine J.putI fw_X12_202 rfl dX12_parts_2 (lt83 hs) (kk83 hs) ?_
  refine J.iconst (v := 0) dX12_parts_5 (by decide) ?_
  refine J.istore_n (vs' := [some (.ref (eB E + 83)), some (.int x1), some (.int 0), none, none]) dX12_parts_6 rfl (by decide) rfl ?_
  refine J.iconst (v := 0) dX12_parts_7 (by decide) ?_
  refine J.istore_n (vs' := [some (.ref (eB E + 83)), some (.int x1), some (.int 0), some (.int 0), none]) dX12_parts_8 rfl (by decide) rfl ?_
  exact hW
set_option maxRecDepth 100000 in
set_option maxHeartbeats 4000000 in
theorem w_X12_parts_9 {E : Envt} {d : Nat} {Q : Pst} {h : mS} {I : mI} {L : mL} (hs : SL h)    (x1 : Int32) (x2 : Int32) (x3 : Int32)
    (hW : ((((I 95 0) ≤ x3) → Q (some (.int (-1))) h I L) ∧ (¬ ((I 95 0) ≤ x3) → J E mX12_parts (d + 6) Q 0 0 22 [some (.ref (eB E + 83)), some (.int x1), some (.int x2), some (.int x3), some (.int 0)] [] h I L))) :
    J E mX12_parts (d + 6) Q 0 0 9 [some (.ref (eB E + 83)), some (.int x1), some (.int x2), some (.int x3), none] [] h I L := by
  refine J.iload_n dX12_parts_9 rfl rfl ?_
  refine J.aload_n dX12_parts_10 rfl rfl ?_
  refine J.getR (r := 95) fl_X12_44 rfl dX12_parts_11 (lt83 hs) (kk83 hs) (rr83_12 hs) ?_
  refine J.iconst (v := 0) dX12_parts_14 (by decide) ?_
  refine J.iald (x := I 95 0) dX12_parts_15 (lt95 hs) (kk95 hs) (by unfold vp_in; decide) rfl ?_
  refine J.ic_ge 91 dX12_parts_16 (by decide) (fun hc1 => ?_) (fun hc1 => ?_)
  · have hW := hW.1 hc1
    refine J.iconst (v := (-1)) dX12_parts_91 (by decide) ?_
    exact J.reti dX12_parts_92 rfl rfl hW
  · have hW := hW.2 hc1
    refine J.iconst (v := 0) dX12_parts_19 (by decide) ?_
    refine J.istore (vs' := [some (.ref (eB E + 83)), some (.int x1), some (.int x2), some (.int x3), some (.int 0)]) dX12_parts_20 (by decide) rfl ?_
    exact hW
set_option maxRecDepth 100000 in
set_option maxHeartbeats 4000000 in
theorem w_X12_parts_22 {E : Envt} {d : Nat} {Q : Pst} {h : mS} {I : mI} {L : mL} (hs : SL h)    (x1 : Int32) (x2 : Int32) (x3 : Int32) (x4 : Int32)
    (hW : ((((I 95 0) ≤ x4) → J E mX12_parts (d + 6) Q 0 0 9 [some (.ref (eB E + 83)), some (.int x1), some (.int x2), some (.int (x3 + 1)), none] [] h I L) ∧ (¬ ((I 95 0) ≤ x4) → (vp_in x3 80 ∧ ((((I 97 x3.toNatClampNeg) = 0) → (vp_in x4 80 ∧ ((((I 97 x4.toNatClampNeg) = 1) → (CT E mX12_wouldPart (d + 5) 0 0 [.ref (eB E + 83), .int x3, .int x4] h I L (qi h L fun r7 I6 => (((r7 = 0) → J E mX12_parts (d + 6) Q 0 0 22 [some (.ref (eB E + 83)), some (.int x1), some (.int x2), some (.int x3), some (.int (x4 + 1))] [] h I6 L) ∧ (¬ (r7 = 0) → (((x2 = x1) → Q (some (.int ((100 * x3) + x4))) h I6 L) ∧ (¬ (x2 = x1) → J E mX12_parts (d + 6) Q 0 0 22 [some (.ref (eB E + 83)), some (.int x1), some (.int (x2 + 1)), some (.int x3), some (.int (x4 + 1))] [] h I6 L))))))) ∧ (¬ ((I 97 x4.toNatClampNeg) = 1) → J E mX12_parts (d + 6) Q 0 0 22 [some (.ref (eB E + 83)), some (.int x1), some (.int x2), some (.int x3), some (.int (x4 + 1))] [] h I L)))) ∧ (¬ ((I 97 x3.toNatClampNeg) = 0) → J E mX12_parts (d + 6) Q 0 0 9 [some (.ref (eB E + 83)), some (.int x1), some (.int x2), some (.int (x3 + 1)), none] [] h I L)))))) :
    J E mX12_parts (d + 6) Q 0 0 22 [some (.ref (eB E + 83)), some (.int x1), some (.int x2), some (.int x3), some (.int x4)] [] h I L := by
  refine J.iload dX12_parts_22 rfl ?_
  refine J.aload_n dX12_parts_24 rfl rfl ?_
  refine J.getR (r := 95) fl_X12_44 rfl dX12_parts_25 (lt83 hs) (kk83 hs) (rr83_12 hs) ?_
  refine J.iconst (v := 0) dX12_parts_28 (by decide) ?_
  refine J.iald (x := I 95 0) dX12_parts_29 (lt95 hs) (kk95 hs) (by unfold vp_in; decide) rfl ?_
  refine J.ic_ge 85 dX12_parts_30 (by decide) (fun hc1 => ?_) (fun hc1 => ?_)
  · have hW := hW.1 hc1
    refine J.iinc (v := x3 + 1) (vs' := [some (.ref (eB E + 83)), some (.int x1), some (.int x2), some (.int (x3 + 1)), some (.int x4)]) dX12_parts_85 rfl (by rfl) (by decide) rfl ?_
    refine J.goto 9 dX12_parts_88 (by decide) ?_
    exact J.mask [true, true, true, true, false] rfl hW
  · have hW := hW.2 hc1
    refine J.aload_n dX12_parts_33 rfl rfl ?_
    refine J.getR (r := 97) fl_X12_50 rfl dX12_parts_34 (lt83 hs) (kk83 hs) (rr83_14 hs) ?_
    refine J.iload_n dX12_parts_37 rfl rfl ?_
    obtain ⟨hb2, hW⟩ := hW
    refine J.iald (x := I 97 x3.toNatClampNeg) dX12_parts_38 (lt97 hs) (kk97 hs) hb2 rfl ?_
    refine J.if_ne 85 dX12_parts_39 (by decide) (fun hc3 => ?_) (fun hc3 => ?_)
    · have hW := hW.2 hc3
      refine J.iinc (v := x3 + 1) (vs' := [some (.ref (eB E + 83)), some (.int x1), some (.int x2), some (.int (x3 + 1)), some (.int x4)]) dX12_parts_85 rfl (by rfl) (by decide) rfl ?_
      refine J.goto 9 dX12_parts_88 (by decide) ?_
      exact J.mask [true, true, true, true, false] rfl hW
    · have hW := hW.1 hc3
      refine J.aload_n dX12_parts_42 rfl rfl ?_
      refine J.getR (r := 97) fl_X12_50 rfl dX12_parts_43 (lt83 hs) (kk83 hs) (rr83_14 hs) ?_
      refine J.iload dX12_parts_46 rfl ?_
      obtain ⟨hb4, hW⟩ := hW
      refine J.iald (x := I 97 x4.toNatClampNeg) dX12_parts_48 (lt97 hs) (kk97 hs) hb4 rfl ?_
      refine J.iconst (v := 1) dX12_parts_49 (by decide) ?_
      refine J.ic_ne 79 dX12_parts_50 (by decide) (fun hc5 => ?_) (fun hc5 => ?_)
      · have hW := hW.2 hc5
        refine J.iinc (v := x4 + 1) (vs' := [some (.ref (eB E + 83)), some (.int x1), some (.int x2), some (.int x3), some (.int (x4 + 1))]) dX12_parts_79 rfl (by rfl) (by decide) rfl ?_
        refine J.goto 22 dX12_parts_82 (by decide) ?_
        exact hW
      · have hW := hW.1 hc5
        refine J.aload_n dX12_parts_53 rfl rfl ?_
        refine J.iload_n dX12_parts_54 rfl rfl ?_
        refine J.iload dX12_parts_55 rfl ?_
        refine J.callV (M' := mX12_wouldPart) (index := 447) (bc := 0) (bs := 0) (bc' := 0) (bs' := 0) (st := []) [.int x3, .int x4] ml_X12_447 cv_X12_wouldPart dX12_parts_57 (lt83 hs) (kk83 hs) (by decide) rfl rfl rfl rfl (Nat.le_of_ble_eq_true rfl) (kqi hW (fun r7 I6 hW => ?_))
        refine J.if_eq 79 dX12_parts_60 (by decide) (fun hc8 => ?_) (fun hc8 => ?_)
        · have hW := hW.1 hc8
          refine J.iinc (v := x4 + 1) (vs' := [some (.ref (eB E + 83)), some (.int x1), some (.int x2), some (.int x3), some (.int (x4 + 1))]) dX12_parts_79 rfl (by rfl) (by decide) rfl ?_
          refine J.goto 22 dX12_parts_82 (by decide) ?_
          exact hW
        · have hW := hW.2 hc8
          refine J.iload_n dX12_parts_63 rfl rfl ?_
          refine J.iload_n dX12_parts_64 rfl rfl ?_
          refine J.ic_ne 76 dX12_parts_65 (by decide) (fun hc9 => ?_) (fun hc9 => ?_)
          · have hW := hW.2 hc9
            refine J.iinc (v := x2 + 1) (vs' := [some (.ref (eB E + 83)), some (.int x1), some (.int (x2 + 1)), some (.int x3), some (.int x4)]) dX12_parts_76 rfl (by rfl) (by decide) rfl ?_
            refine J.iinc (v := x4 + 1) (vs' := [some (.ref (eB E + 83)), some (.int x1), some (.int (x2 + 1)), some (.int x3), some (.int (x4 + 1))]) dX12_parts_79 rfl (by rfl) (by decide) rfl ?_
            refine J.goto 22 dX12_parts_82 (by decide) ?_
            exact hW
          · have hW := hW.1 hc9
            refine J.bipush (v := 100) dX12_parts_68 (by decide) ?_
            refine J.iload_n dX12_parts_70 rfl rfl ?_
            refine J.imul dX12_parts_71 ?_
            refine J.iload dX12_parts_72 rfl ?_
            refine J.iadd dX12_parts_74 ?_
            exact J.reti dX12_parts_75 rfl rfl hW
