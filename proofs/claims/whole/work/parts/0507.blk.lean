set_option maxRecDepth 100000 in
set_option maxHeartbeats 4000000 in
theorem w_X7_has {E : Envt} {d : Nat} {Q : Pst} {h : mS} {I : mI} {L : mL} (hs : SL h) (x1 : Int32) 
    (hW : Q (some (.int (bI (¬ (x1 < 0) ∧ (¬ ((I 7 0) ≤ x1)))))) h I L) :
    CT E mX7_has d 0 0 [.ref (eB E + 7), .int x1] h I L Q := by
  refine CT.of (by decide) [some (.ref (eB E + 7)), some (.int x1)] rfl (Nat.le_of_ble_eq_true rfl) ?_
  refine J.iload_n dX7_has_0 rfl rfl ?_
  have hj : J E mX7_has d Q 0 0 17 [some (.ref (eB E + 7)), some (.int x1)] [.int (bI (¬ (x1 < 0) ∧ (¬ ((I 7 0) ≤ x1))))] h I L := by
    exact J.reti dX7_has_17 rfl (bz_nar (bI_bz _)) hW
  refine J.if_lt 16 dX7_has_1 (by decide) (fun hc1 => ?_) (fun hc1 => ?_)
  · refine J.iconst (v := 0) dX7_has_16 (by decide) ?_
    rw [show bI (¬ (x1 < 0) ∧ (¬ ((I 7 0) ≤ x1))) = 0 from bI_f (by simp only [eq_true hc1, and_true, true_and, and_false, false_and, or_true, true_or, or_false, false_or, not_true_eq_false, not_false_eq_true])] at hj
    exact hj
  · refine J.iload_n dX7_has_4 rfl rfl ?_
    refine J.aload_n dX7_has_5 rfl rfl ?_
    refine J.getI (x := I 7 0) fl_X7_40 rfl dX7_has_6 (lt7 hs) (kk7 hs) rfl ?_
    refine J.ic_ge 16 dX7_has_9 (by decide) (fun hc2 => ?_) (fun hc2 => ?_)
    · refine J.iconst (v := 0) dX7_has_16 (by decide) ?_
      rw [show bI (¬ (x1 < 0) ∧ (¬ ((I 7 0) ≤ x1))) = 0 from bI_f (by simp only [eq_false hc1, eq_true hc2, and_true, true_and, and_false, false_and, or_true, true_or, or_false, false_or, not_true_eq_false, not_false_eq_true])] at hj
      exact hj
    · refine J.iconst (v := 1) dX7_has_12 (by decide) ?_
      refine J.goto 17 dX7_has_13 (by decide) ?_
      rw [show bI (¬ (x1 < 0) ∧ (¬ ((I 7 0) ≤ x1))) = 1 from bI_t (by simp only [eq_false hc1, eq_false hc2, and_true, true_and, and_false, false_and, or_true, true_or, or_false, false_or, not_true_eq_false, not_false_eq_true])] at hj
      exact hj
set_option maxRecDepth 100000 in
set_option maxHeartbeats 4000000 in
theorem w_X7_isOf {E : Envt} {d : Nat} {Q : Pst} {h : mS} {I : mI} {L : mL} (hs : SL h) (x1 : Int32) (x2 : Int32) 
    (hW : (((¬ (x1 < 0) ∧ (¬ ((I 7 0) ≤ x1))) → vp_in x1 20) ∧ Q (some (.int (bI ((¬ (x1 < 0) ∧ (¬ ((I 7 0) ≤ x1))) ∧ ((I 9 x1.toNatClampNeg) = x2))))) h I L)) :
    CT E mX7_isOf (d + 1) 0 0 [.ref (eB E + 7), .int x1, .int x2] h I L Q := by
  refine CT.of (by decide) [some (.ref (eB E + 7)), some (.int x1), some (.int x2)] rfl (Nat.le_of_ble_eq_true rfl) ?_
  refine J.aload_n dX7_isOf_0 rfl rfl ?_
  refine J.iload_n dX7_isOf_1 rfl rfl ?_
  refine J.callV (M' := mX7_has) (index := 44) (bc := 0) (bs := 0) (bc' := 0) (bs' := 0) (st := []) [.int x1] ml_X7_44 cv_X7_has dX7_isOf_2 (lt7 hs) (kk7 hs) (by decide) rfl rfl rfl rfl (Nat.le_of_ble_eq_true rfl) (kqi (w_X7_has (d := d) (Q := qi h L (fun v I' => I' = I ∧ v = bI (¬ (x1 < 0) ∧ (¬ ((I 7 0) ≤ x1))))) hs x1 ⟨rfl, rfl, _, rfl, rfl, rfl⟩) (fun v1 I2 hv => ?_))
  rw [hv.1, hv.2]
  obtain ⟨hq5, hW⟩ := hW
  have hj : J E mX7_isOf (d + 1) Q 0 0 23 [some (.ref (eB E + 7)), some (.int x1), some (.int x2)] [.int (bI ((¬ (x1 < 0) ∧ (¬ ((I 7 0) ≤ x1))) ∧ ((I 9 x1.toNatClampNeg) = x2)))] h I L := by
    exact J.reti dX7_isOf_23 rfl (bz_nar (bI_bz _)) hW
  refine J.if_eq 22 dX7_isOf_5 (by decide) (fun hc3 => ?_) (fun hc3 => ?_)
  · have hc3 := bI_0.mp hc3
    refine J.iconst (v := 0) dX7_isOf_22 (by decide) ?_
    rw [show bI ((¬ (x1 < 0) ∧ (¬ ((I 7 0) ≤ x1))) ∧ ((I 9 x1.toNatClampNeg) = x2)) = 0 from bI_f (by simp only [eq_false hc3, and_true, true_and, and_false, false_and, or_true, true_or, or_false, false_or, not_true_eq_false, not_false_eq_true])] at hj
    exact hj
  · have hc3 := bI_n0.mp hc3
    refine J.aload_n dX7_isOf_8 rfl rfl ?_
    refine J.getR (r := 9) fl_X7_15 rfl dX7_isOf_9 (lt7 hs) (kk7 hs) (rr7_2 hs) ?_
    refine J.iload_n dX7_isOf_12 rfl rfl ?_
    have hb4 := hq5 hc3
    refine J.iald (x := I 9 x1.toNatClampNeg) dX7_isOf_13 (lt9 hs) (kk9 hs) hb4 rfl ?_
    refine J.iload_n dX7_isOf_14 rfl rfl ?_
    refine J.ic_ne 22 dX7_isOf_15 (by decide) (fun hc6 => ?_) (fun hc6 => ?_)
    · refine J.iconst (v := 0) dX7_isOf_22 (by decide) ?_
      rw [show bI ((¬ (x1 < 0) ∧ (¬ ((I 7 0) ≤ x1))) ∧ ((I 9 x1.toNatClampNeg) = x2)) = 0 from bI_f (by simp only [eq_true hc3, eq_false hc6, and_true, true_and, and_false, false_and, or_true, true_or, or_false, false_or, not_true_eq_false, not_false_eq_true])] at hj
      exact hj
    · refine J.iconst (v := 1) dX7_isOf_18 (by decide) ?_
      refine J.goto 23 dX7_isOf_19 (by decide) ?_
      rw [show bI ((¬ (x1 < 0) ∧ (¬ ((I 7 0) ≤ x1))) ∧ ((I 9 x1.toNatClampNeg) = x2)) = 1 from bI_t (by simp only [eq_true hc3, eq_true hc6, and_true, true_and, and_false, false_and, or_true, true_or, or_false, false_or, not_true_eq_false, not_false_eq_true])] at hj
      exact hj
set_option maxRecDepth 100000 in
set_option maxHeartbeats 4000000 in
theorem w_X7_add {E : Envt} {d : Nat} {Q : Pst} {h : mS} {I : mI} {L : mL} (hs : SL h) (x1 : Int32) (x2 : Int32) (x3 : Int32) (x4 : Int32) 
    (hW : ((((I 7 0) < 20) → (vp_in (I 7 0) 20 ∧ Q (some (.int (((I 7 0) + 1) - 1))) h (uI (uI (uI (uI (uI (uI (uI (uI (uI (uI I 8 ((I 7 0).toNatClampNeg) x1) 9 ((I 7 0).toNatClampNeg) x2) 10 ((I 7 0).toNatClampNeg) x3) 11 ((I 7 0).toNatClampNeg) x4) 12 ((I 7 0).toNatClampNeg) (-1)) 13 ((I 7 0).toNatClampNeg) (-1)) 14 ((I 7 0).toNatClampNeg) 1) 15 ((I 7 0).toNatClampNeg) 0) 16 ((I 7 0).toNatClampNeg) 0) 7 0 ((I 7 0) + 1)) L)) ∧ (¬ ((I 7 0) < 20) → Q (some (.int (-1))) h I L))) :
    CT E mX7_add d 0 0 [.ref (eB E + 7), .int x1, .int x2, .int x3, .int x4] h I L Q := by
  refine CT.of (by decide) [some (.ref (eB E + 7)), some (.int x1), some (.int x2), some (.int x3), some (.int x4)] rfl (Nat.le_of_ble_eq_true rfl) ?_
  refine J.aload_n dX7_add_0 rfl rfl ?_
  refine J.getI (x := I 7 0) fl_X7_40 rfl dX7_add_1 (lt7 hs) (kk7 hs) rfl ?_
  refine J.bipush (v := 20) dX7_add_4 (by decide) ?_
  refine J.ic_lt 11 dX7_add_6 (by decide) (fun hc1 => ?_) (fun hc1 => ?_)
  · have hW := hW.1 hc1
    refine J.aload_n dX7_add_11 rfl rfl ?_
    refine J.getR (r := 8) fl_X7_9 rfl dX7_add_12 (lt7 hs) (kk7 hs) (rr7_1 hs) ?_
    refine J.aload_n dX7_add_15 rfl rfl ?_
    refine J.getI (x := I 7 0) fl_X7_40 rfl dX7_add_16 (lt7 hs) (kk7 hs) rfl ?_
    refine J.iload_n dX7_add_19 rfl rfl ?_
    obtain ⟨hb2, hW⟩ := hW
    refine J.iast dX7_add_20 (lt8 hs) (kk8 hs) hb2 ?_
    refine J.aload_n dX7_add_21 rfl rfl ?_
    refine J.getR (r := 9) fl_X7_15 rfl dX7_add_22 (lt7 hs) (kk7 hs) (rr7_2 hs) ?_
    refine J.aload_n dX7_add_25 rfl rfl ?_
    refine J.getI (x := I 7 0) fl_X7_40 rfl dX7_add_26 (lt7 hs) (kk7 hs) rfl ?_
    refine J.iload_n dX7_add_29 rfl rfl ?_
    refine J.iast dX7_add_30 (lt9 hs) (kk9 hs) hb2 ?_
    refine J.aload_n dX7_add_31 rfl rfl ?_
    refine J.getR (r := 10) fl_X7_18 rfl dX7_add_32 (lt7 hs) (kk7 hs) (rr7_3 hs) ?_
    refine J.aload_n dX7_add_35 rfl rfl ?_
    refine J.getI (x := I 7 0) fl_X7_40 rfl dX7_add_36 (lt7 hs) (kk7 hs) rfl ?_
    refine J.iload_n dX7_add_39 rfl rfl ?_
    refine J.iast dX7_add_40 (lt10 hs) (kk10 hs) hb2 ?_
    refine J.aload_n dX7_add_41 rfl rfl ?_
    refine J.getR (r := 11) fl_X7_21 rfl dX7_add_42 (lt7 hs) (kk7 hs) (rr7_4 hs) ?_
    refine J.aload_n dX7_add_45 rfl rfl ?_
    refine J.getI (x := I 7 0) fl_X7_40 rfl dX7_add_46 (lt7 hs) (kk7 hs) rfl ?_
    refine J.iload dX7_add_49 rfl ?_
    refine J.iast dX7_add_51 (lt11 hs) (kk11 hs) hb2 ?_
    refine J.aload_n dX7_add_52 rfl rfl ?_
    refine J.getR (r := 12) fl_X7_24 rfl dX7_add_53 (lt7 hs) (kk7 hs) (rr7_5 hs) ?_
    refine J.aload_n dX7_add_56 rfl rfl ?_
    refine J.getI (x := I 7 0) fl_X7_40 rfl dX7_add_57 (lt7 hs) (kk7 hs) rfl ?_
    refine J.iconst (v := (-1)) dX7_add_60 (by decide) ?_
    refine J.iast dX7_add_61 (lt12 hs) (kk12 hs) hb2 ?_
    refine J.aload_n dX7_add_62 rfl rfl ?_
    refine J.getR (r := 13) fl_X7_27 rfl dX7_add_63 (lt7 hs) (kk7 hs) (rr7_6 hs) ?_
    refine J.aload_n dX7_add_66 rfl rfl ?_
    refine J.getI (x := I 7 0) fl_X7_40 rfl dX7_add_67 (lt7 hs) (kk7 hs) rfl ?_
    refine J.iconst (v := (-1)) dX7_add_70 (by decide) ?_
    refine J.iast dX7_add_71 (lt13 hs) (kk13 hs) hb2 ?_
    refine J.aload_n dX7_add_72 rfl rfl ?_
    refine J.getR (r := 14) fl_X7_30 rfl dX7_add_73 (lt7 hs) (kk7 hs) (rr7_7 hs) ?_
    refine J.aload_n dX7_add_76 rfl rfl ?_
    refine J.getI (x := I 7 0) fl_X7_40 rfl dX7_add_77 (lt7 hs) (kk7 hs) rfl ?_
    refine J.iconst (v := 1) dX7_add_80 (by decide) ?_
    refine J.zast dX7_add_81 (lt14 hs) (kk14 hs) hb2 (Or.inr rfl) ?_
    refine J.aload_n dX7_add_82 rfl rfl ?_
    refine J.getR (r := 15) fl_X7_34 rfl dX7_add_83 (lt7 hs) (kk7 hs) (rr7_8 hs) ?_
    refine J.aload_n dX7_add_86 rfl rfl ?_
    refine J.getI (x := I 7 0) fl_X7_40 rfl dX7_add_87 (lt7 hs) (kk7 hs) rfl ?_
    refine J.iconst (v := 0) dX7_add_90 (by decide) ?_
    refine J.zast dX7_add_91 (lt15 hs) (kk15 hs) hb2 (Or.inl rfl) ?_
    refine J.aload_n dX7_add_92 rfl rfl ?_
    refine J.getR (r := 16) fl_X7_37 rfl dX7_add_93 (lt7 hs) (kk7 hs) (rr7_9 hs) ?_
    refine J.aload_n dX7_add_96 rfl rfl ?_
    refine J.getI (x := I 7 0) fl_X7_40 rfl dX7_add_97 (lt7 hs) (kk7 hs) rfl ?_
    refine J.iconst (v := 0) dX7_add_100 (by decide) ?_
    refine J.zast dX7_add_101 (lt16 hs) (kk16 hs) hb2 (Or.inl rfl) ?_
    refine J.aload_n dX7_add_102 rfl rfl ?_
    refine J.dup dX7_add_103 rfl ?_
    refine J.getI (x := I 7 0) fl_X7_40 rfl dX7_add_104 (lt7 hs) (kk7 hs) rfl ?_
    refine J.iconst (v := 1) dX7_add_107 (by decide) ?_
    refine J.iadd dX7_add_108 ?_
    refine J.putI fw_X7_40 rfl dX7_add_109 (lt7 hs) (kk7 hs) ?_
    refine J.aload_n dX7_add_112 rfl rfl ?_
    refine J.getI (x := (I 7 0) + 1) fl_X7_40 rfl dX7_add_113 (lt7 hs) (kk7 hs) (by simp [uI]) ?_
    refine J.iconst (v := 1) dX7_add_116 (by decide) ?_
    refine J.isub dX7_add_117 ?_
    exact J.reti dX7_add_118 rfl rfl hW
  · have hW := hW.2 hc1
    refine J.iconst (v := (-1)) dX7_add_9 (by decide) ?_
    exact J.reti dX7_add_10 rfl rfl hW
set_option maxRecDepth 100000 in
set_option maxHeartbeats 4000000 in
theorem w_X7_marry {E : Envt} {d : Nat} {Q : Pst} {h : mS} {I : mI} {L : mL} (hs : SL h) (x1 : Int32) (x2 : Int32) 
    (hW : (vp_in x1 20 ∧ (vp_in x2 20 ∧ Q none h (uI (uI (uI (uI I 12 x1.toNatClampNeg x2) 12 x2.toNatClampNeg x1) 15 x1.toNatClampNeg 0) 16 x1.toNatClampNeg 1) L))) :
    CT E mX7_marry d 0 0 [.ref (eB E + 7), .int x1, .int x2] h I L Q := by
  refine CT.of (by decide) [some (.ref (eB E + 7)), some (.int x1), some (.int x2)] rfl (Nat.le_of_ble_eq_true rfl) ?_
  refine J.aload_n dX7_marry_0 rfl rfl ?_
  refine J.getR (r := 12) fl_X7_24 rfl dX7_marry_1 (lt7 hs) (kk7 hs) (rr7_5 hs) ?_
  refine J.iload_n dX7_marry_4 rfl rfl ?_
  refine J.iload_n dX7_marry_5 rfl rfl ?_
  obtain ⟨hb1, hW⟩ := hW
  refine J.iast dX7_marry_6 (lt12 hs) (kk12 hs) hb1 ?_
  refine J.aload_n dX7_marry_7 rfl rfl ?_
  refine J.getR (r := 12) fl_X7_24 rfl dX7_marry_8 (lt7 hs) (kk7 hs) (rr7_5 hs) ?_
  refine J.iload_n dX7_marry_11 rfl rfl ?_
  refine J.iload_n dX7_marry_12 rfl rfl ?_
  obtain ⟨hb2, hW⟩ := hW
  refine J.iast dX7_marry_13 (lt12 hs) (kk12 hs) hb2 ?_
  refine J.aload_n dX7_marry_14 rfl rfl ?_
  refine J.getR (r := 15) fl_X7_34 rfl dX7_marry_15 (lt7 hs) (kk7 hs) (rr7_8 hs) ?_
  refine J.iload_n dX7_marry_18 rfl rfl ?_
  refine J.iconst (v := 0) dX7_marry_19 (by decide) ?_
  refine J.zast dX7_marry_20 (lt15 hs) (kk15 hs) hb1 (Or.inl rfl) ?_
  refine J.aload_n dX7_marry_21 rfl rfl ?_
  refine J.getR (r := 16) fl_X7_37 rfl dX7_marry_22 (lt7 hs) (kk7 hs) (rr7_9 hs) ?_
  refine J.iload_n dX7_marry_25 rfl rfl ?_
  refine J.iconst (v := 1) dX7_marry_26 (by decide) ?_
  refine J.zast dX7_marry_27 (lt16 hs) (kk16 hs) hb1 (Or.inr rfl) ?_
  exact J.retv dX7_marry_28 rfl hW
set_option maxRecDepth 100000 in
set_option maxHeartbeats 4000000 in
theorem w_X7_bury {E : Envt} {d : Nat} {Q : Pst} {h : mS} {I : mI} {L : mL} (hs : SL h) (x1 : Int32) 
    (hW : (vp_in x1 20 ∧ (∀ y2 : Int32, y2 = I 12 x1.toNatClampNeg → (((¬ (y2 < 0) ∧ (¬ (((uI I 14 x1.toNatClampNeg 0) 7 0) ≤ y2))) → (vp_in y2 20 ∧ Q none h (uI (uI (uI (uI I 14 x1.toNatClampNeg 0) 12 y2.toNatClampNeg (-1)) 12 x1.toNatClampNeg (-1)) 15 y2.toNatClampNeg (bI ((I 9 y2.toNatClampNeg) = 0))) L)) ∧ (¬ (¬ (y2 < 0) ∧ (¬ (((uI I 14 x1.toNatClampNeg 0) 7 0) ≤ y2))) → Q none h (uI I 14 x1.toNatClampNeg 0) L))))) :
    CT E mX7_bury (d + 1) 0 0 [.ref (eB E + 7), .int x1] h I L Q := by
  refine CT.of (by decide) [some (.ref (eB E + 7)), some (.int x1), none] rfl (Nat.le_of_ble_eq_true rfl) ?_
  refine J.aload_n dX7_bury_0 rfl rfl ?_
  refine J.getR (r := 14) fl_X7_30 rfl dX7_bury_1 (lt7 hs) (kk7 hs) (rr7_7 hs) ?_
  refine J.iload_n dX7_bury_4 rfl rfl ?_
  refine J.iconst (v := 0) dX7_bury_5 (by decide) ?_
  obtain ⟨hb1, hW⟩ := hW
  refine J.zast dX7_bury_6 (lt14 hs) (kk14 hs) hb1 (Or.inl rfl) ?_
  refine J.aload_n dX7_bury_7 rfl rfl ?_
  refine J.getR (r := 12) fl_X7_24 rfl dX7_bury_8 (lt7 hs) (kk7 hs) (rr7_5 hs) ?_
  refine J.iload_n dX7_bury_11 rfl rfl ?_
  refine J.iald (x := I 12 x1.toNatClampNeg) dX7_bury_12 (lt12 hs) (kk12 hs) hb1 rfl ?_
  refine J.topi (fun y2 hyy2 => ?_)
  have hW := hW y2 hyy2
  refine J.istore_n (vs' := [some (.ref (eB E + 7)), some (.int x1), some (.int y2)]) dX7_bury_13 rfl (by decide) rfl ?_
  refine J.aload_n dX7_bury_14 rfl rfl ?_
  refine J.iload_n dX7_bury_15 rfl rfl ?_
  refine J.callV (M' := mX7_has) (index := 44) (bc := 0) (bs := 0) (bc' := 0) (bs' := 0) (st := []) [.int y2] ml_X7_44 cv_X7_has dX7_bury_16 (lt7 hs) (kk7 hs) (by decide) rfl rfl rfl rfl (Nat.le_of_ble_eq_true rfl) (kqi (w_X7_has (d := d) (Q := qi h L (fun v I' => I' = (uI I 14 x1.toNatClampNeg 0) ∧ v = bI (¬ (y2 < 0) ∧ (¬ (((uI I 14 x1.toNatClampNeg 0) 7 0) ≤ y2))))) hs y2 ⟨rfl, rfl, _, rfl, rfl, rfl⟩) (fun v3 I4 hv => ?_))
  rw [hv.1, hv.2]
  refine J.if_eq 56 dX7_bury_19 (by decide) (fun hc5 => ?_) (fun hc5 => ?_)
  · have hc5 := bI_0.mp hc5
    have hW := hW.2 hc5
    exact J.retv dX7_bury_56 rfl hW
  · have hc5 := bI_n0.mp hc5
    have hW := hW.1 hc5
    refine J.aload_n dX7_bury_22 rfl rfl ?_
    refine J.getR (r := 12) fl_X7_24 rfl dX7_bury_23 (lt7 hs) (kk7 hs) (rr7_5 hs) ?_
    refine J.iload_n dX7_bury_26 rfl rfl ?_
    refine J.iconst (v := (-1)) dX7_bury_27 (by decide) ?_
    obtain ⟨hb6, hW⟩ := hW
    refine J.iast dX7_bury_28 (lt12 hs) (kk12 hs) hb6 ?_
    refine J.aload_n dX7_bury_29 rfl rfl ?_
    refine J.getR (r := 12) fl_X7_24 rfl dX7_bury_30 (lt7 hs) (kk7 hs) (rr7_5 hs) ?_
    refine J.iload_n dX7_bury_33 rfl rfl ?_
    refine J.iconst (v := (-1)) dX7_bury_34 (by decide) ?_
    refine J.iast dX7_bury_35 (lt12 hs) (kk12 hs) hb1 ?_
    refine J.aload_n dX7_bury_36 rfl rfl ?_
    refine J.getR (r := 15) fl_X7_34 rfl dX7_bury_37 (lt7 hs) (kk7 hs) (rr7_8 hs) ?_
    refine J.iload_n dX7_bury_40 rfl rfl ?_
    refine J.aload_n dX7_bury_41 rfl rfl ?_
    refine J.getR (r := 9) fl_X7_15 rfl dX7_bury_42 (lt7 hs) (kk7 hs) (rr7_2 hs) ?_
    refine J.iload_n dX7_bury_45 rfl rfl ?_
    refine J.iald (x := I 9 y2.toNatClampNeg) dX7_bury_46 (lt9 hs) (kk9 hs) hb6 rfl ?_
    have hj : J E mX7_bury (d + 1) Q 0 0 55 [some (.ref (eB E + 7)), some (.int x1), some (.int y2)] [.int (bI ((I 9 y2.toNatClampNeg) = 0)), .int y2, .ref (eB E + 15)] h (uI (uI (uI I 14 x1.toNatClampNeg 0) 12 y2.toNatClampNeg (-1)) 12 x1.toNatClampNeg (-1)) L := by
      refine J.zast dX7_bury_55 (lt15 hs) (kk15 hs) hb6 (bI_bz _) ?_
      exact J.retv dX7_bury_56 rfl hW
    refine J.if_ne 54 dX7_bury_47 (by decide) (fun hc7 => ?_) (fun hc7 => ?_)
    · refine J.iconst (v := 0) dX7_bury_54 (by decide) ?_
      rw [show bI ((I 9 y2.toNatClampNeg) = 0) = 0 from bI_f (by simp only [eq_false hc7, and_true, true_and, and_false, false_and, or_true, true_or, or_false, false_or, not_true_eq_false, not_false_eq_true])] at hj
      exact hj
    · refine J.iconst (v := 1) dX7_bury_50 (by decide) ?_
      refine J.goto 55 dX7_bury_51 (by decide) ?_
      rw [show bI ((I 9 y2.toNatClampNeg) = 0) = 1 from bI_t (by simp only [eq_true hc7, and_true, true_and, and_false, false_and, or_true, true_or, or_false, false_or, not_true_eq_false, not_false_eq_true])] at hj
      exact hj
set_option maxRecDepth 100000 in
set_option maxHeartbeats 4000000 in
theorem w_X7_livingIn {E : Envt} {d : Nat} {Q : Pst} {h : mS} {I : mI} {L : mL} (hs : SL h) (x1 : Int32) 
    (hW : J E mX7_livingIn d Q 0 0 4 [some (.ref (eB E + 7)), some (.int x1), some (.int 0), some (.int 0)] [] h I L) :
    CT E mX7_livingIn d 0 0 [.ref (eB E + 7), .int x1] h I L Q := by
  refine CT.of (by decide) [some (.ref (eB E + 7)), some (.int x1), none, none] rfl (Nat.le_of_ble_eq_true rfl) ?_
  refine J.iconst (v := 0) dX7_livingIn_0 (by decide) ?_
  refine J.istore_n (vs' := [some (.ref (eB E + 7)), some (.int x1), some (.int 0), none]) dX7_livingIn_1 rfl (by decide) rfl ?_
  refine J.iconst (v := 0) dX7_livingIn_2 (by decide) ?_
  refine J.istore_n (vs' := [some (.ref (eB E + 7)), some (.int x1), some (.int 0), some (.int 0)]) dX7_livingIn_3 rfl (by decide) rfl ?_
  exact hW
set_option maxRecDepth 100000 in
set_option maxHeartbeats 4000000 in
theorem w_X7_livingIn_4 {E : Envt} {d : Nat} {Q : Pst} {h : mS} {I : mI} {L : mL} (hs : SL h)    (x1 : Int32) (x2 : Int32) (x3 : Int32)
    (hW : ((((I 7 0) ≤ x3) → Q (some (.int x2)) h I L) ∧ (¬ ((I 7 0) ≤ x3) → (vp_in x3 20 ∧ (∀ y5 : Int32, y5 = (if (I 8 x3.toNatClampNeg) = x1 then if (I 14 x3.toNatClampNeg) = 0 then x2 else x2 + 1 else x2) → J E mX7_livingIn d Q 0 0 4 [some (.ref (eB E + 7)), some (.int x1), some (.int y5), some (.int (x3 + 1))] [] h I L))))) :
    J E mX7_livingIn d Q 0 0 4 [some (.ref (eB E + 7)), some (.int x1), some (.int x2), some (.int x3)] [] h I L := by
  refine J.iload_n dX7_livingIn_4 rfl rfl ?_
  refine J.aload_n dX7_livingIn_5 rfl rfl ?_
  refine J.getI (x := I 7 0) fl_X7_40 rfl dX7_livingIn_6 (lt7 hs) (kk7 hs) rfl ?_
  refine J.ic_ge 40 dX7_livingIn_9 (by decide) (fun hc1 => ?_) (fun hc1 => ?_)
  · have hW := hW.1 hc1
    refine J.iload_n dX7_livingIn_40 rfl rfl ?_
    exact J.reti dX7_livingIn_41 rfl rfl hW
  · have hW := hW.2 hc1
    refine J.aload_n dX7_livingIn_12 rfl rfl ?_
    refine J.getR (r := 8) fl_X7_9 rfl dX7_livingIn_13 (lt7 hs) (kk7 hs) (rr7_1 hs) ?_
    refine J.iload_n dX7_livingIn_16 rfl rfl ?_
    obtain ⟨hb2, hW⟩ := hW
    refine J.iald (x := I 8 x3.toNatClampNeg) dX7_livingIn_17 (lt8 hs) (kk8 hs) hb2 rfl ?_
    refine J.iload_n dX7_livingIn_18 rfl rfl ?_
    obtain ⟨y5, hyy5⟩ : ∃ y5 : Int32, y5 = (if (I 8 x3.toNatClampNeg) = x1 then if (I 14 x3.toNatClampNeg) = 0 then x2 else x2 + 1 else x2) := ⟨_, rfl⟩
    have hW := hW y5 hyy5
    have hj : J E mX7_livingIn d Q 0 0 34 [some (.ref (eB E + 7)), some (.int x1), some (.int y5), some (.int x3)] [] h I L := by
      refine J.iinc (v := x3 + 1) (vs' := [some (.ref (eB E + 7)), some (.int x1), some (.int y5), some (.int (x3 + 1))]) dX7_livingIn_34 rfl (by rfl) (by decide) rfl ?_
      refine J.goto 4 dX7_livingIn_37 (by decide) ?_
      exact hW
    refine J.ic_ne 34 dX7_livingIn_19 (by decide) (fun hc3 => ?_) (fun hc3 => ?_)
    · rw [show y5 = x2 from by simp only [hyy5, eq_false hc3, if_true, if_false, bI_true, bI_false, and_true, true_and, and_false, false_and, or_true, true_or, or_false, false_or, not_true_eq_false, not_false_eq_true]] at hj
      exact hj
    · refine J.aload_n dX7_livingIn_22 rfl rfl ?_
      refine J.getR (r := 14) fl_X7_30 rfl dX7_livingIn_23 (lt7 hs) (kk7 hs) (rr7_7 hs) ?_
      refine J.iload_n dX7_livingIn_26 rfl rfl ?_
      refine J.zald (x := I 14 x3.toNatClampNeg) dX7_livingIn_27 (lt14 hs) (kk14 hs) hb2 rfl ?_
      refine J.if_eq 34 dX7_livingIn_28 (by decide) (fun hc4 => ?_) (fun hc4 => ?_)
      · rw [show y5 = x2 from by simp only [hyy5, eq_true hc3, eq_true hc4, if_true, if_false, bI_true, bI_false, and_true, true_and, and_false, false_and, or_true, true_or, or_false, false_or, not_true_eq_false, not_false_eq_true]] at hj
        exact hj
      · refine J.iinc (v := x2 + 1) (vs' := [some (.ref (eB E + 7)), some (.int x1), some (.int (x2 + 1)), some (.int x3)]) dX7_livingIn_31 rfl (by rfl) (by decide) rfl ?_
        rw [show y5 = x2 + 1 from by simp only [hyy5, eq_true hc3, eq_false hc4, if_true, if_false, bI_true, bI_false, and_true, true_and, and_false, false_and, or_true, true_or, or_false, false_or, not_true_eq_false, not_false_eq_true]] at hj
        exact hj
set_option maxRecDepth 100000 in
set_option maxHeartbeats 4000000 in
theorem w_X7_allFree {E : Envt} {d : Nat} {Q : Pst} {h : mS} {I : mI} {L : mL} (hs : SL h) (x1 : Int32) 
    (hW : J E mX7_allFree (d + 1) Q 0 0 4 [some (.ref (eB E + 7)), some (.int x1), some (.int 0), some (.int 0)] [] h I L) :
    CT E mX7_allFree (d + 1) 0 0 [.ref (eB E + 7), .int x1] h I L Q := by
  refine CT.of (by decide) [some (.ref (eB E + 7)), some (.int x1), none, none] rfl (Nat.le_of_ble_eq_true rfl) ?_
  refine J.iconst (v := 0) dX7_allFree_0 (by decide) ?_
  refine J.istore_n (vs' := [some (.ref (eB E + 7)), some (.int x1), some (.int 0), none]) dX7_allFree_1 rfl (by decide) rfl ?_
  refine J.iconst (v := 0) dX7_allFree_2 (by decide) ?_
  refine J.istore_n (vs' := [some (.ref (eB E + 7)), some (.int x1), some (.int 0), some (.int 0)]) dX7_allFree_3 rfl (by decide) rfl ?_
  exact hW
set_option maxRecDepth 100000 in
set_option maxHeartbeats 4000000 in
theorem w_X7_allFree_4 {E : Envt} {d : Nat} {Q : Pst} {h : mS} {I : mI} {L : mL} (hs : SL h)    (x1 : Int32) (x2 : Int32) (x3 : Int32)
    (hW : ((((I 7 0) ≤ x3) → Q (some (.int x2)) h I L) ∧ (¬ ((I 7 0) ≤ x3) → (vp_in x3 20 ∧ ((((I 9 x3.toNatClampNeg) = x1) → (vp_in x3 20)) ∧ (∀ y9 : Int32, y9 = (if (I 9 x3.toNatClampNeg) = x1 then if ¬ ((I 14 x3.toNatClampNeg) = 0) ∧ (((I 12 x3.toNatClampNeg) = (-1)) ∧ ((I 13 x3.toNatClampNeg) = (-1))) then x2 + 1 else x2 else x2) → J E mX7_allFree (d + 1) Q 0 0 4 [some (.ref (eB E + 7)), some (.int x1), some (.int y9), some (.int (x3 + 1))] [] h I L)))))) :
    J E mX7_allFree (d + 1) Q 0 0 4 [some (.ref (eB E + 7)), some (.int x1), some (.int x2), some (.int x3)] [] h I L := by
  refine J.iload_n dX7_allFree_4 rfl rfl ?_
  refine J.aload_n dX7_allFree_5 rfl rfl ?_
  refine J.getI (x := I 7 0) fl_X7_40 rfl dX7_allFree_6 (lt7 hs) (kk7 hs) rfl ?_
  refine J.ic_ge 39 dX7_allFree_9 (by decide) (fun hc1 => ?_) (fun hc1 => ?_)
  · have hW := hW.1 hc1
    refine J.iload_n dX7_allFree_39 rfl rfl ?_
    exact J.reti dX7_allFree_40 rfl rfl hW
  · have hW := hW.2 hc1
    refine J.aload_n dX7_allFree_12 rfl rfl ?_
    refine J.getR (r := 9) fl_X7_15 rfl dX7_allFree_13 (lt7 hs) (kk7 hs) (rr7_2 hs) ?_
    refine J.iload_n dX7_allFree_16 rfl rfl ?_
    obtain ⟨hb2, hW⟩ := hW
    refine J.iald (x := I 9 x3.toNatClampNeg) dX7_allFree_17 (lt9 hs) (kk9 hs) hb2 rfl ?_
    refine J.iload_n dX7_allFree_18 rfl rfl ?_
    obtain ⟨hq7, hW⟩ := hW
    obtain ⟨y9, hyy9⟩ : ∃ y9 : Int32, y9 = (if (I 9 x3.toNatClampNeg) = x1 then if ¬ ((I 14 x3.toNatClampNeg) = 0) ∧ (((I 12 x3.toNatClampNeg) = (-1)) ∧ ((I 13 x3.toNatClampNeg) = (-1))) then x2 + 1 else x2 else x2) := ⟨_, rfl⟩
    have hW := hW y9 hyy9
    have hj : J E mX7_allFree (d + 1) Q 0 0 33 [some (.ref (eB E + 7)), some (.int x1), some (.int y9), some (.int x3)] [] h I L := by
      refine J.iinc (v := x3 + 1) (vs' := [some (.ref (eB E + 7)), some (.int x1), some (.int y9), some (.int (x3 + 1))]) dX7_allFree_33 rfl (by rfl) (by decide) rfl ?_
      refine J.goto 4 dX7_allFree_36 (by decide) ?_
      exact hW
    refine J.ic_ne 33 dX7_allFree_19 (by decide) (fun hc3 => ?_) (fun hc3 => ?_)
    · rw [show y9 = x2 from by simp only [hyy9, eq_false hc3, if_true, if_false, bI_true, bI_false, and_true, true_and, and_false, false_and, or_true, true_or, or_false, false_or, not_true_eq_false, not_false_eq_true]] at hj
      exact hj
    · refine J.aload_n dX7_allFree_22 rfl rfl ?_
      refine J.iload_n dX7_allFree_23 rfl rfl ?_
      have hb4 := hq7 hc3
      refine J.callV (M' := mX7_isFree) (index := 52) (bc := 0) (bs := 0) (bc' := 0) (bs' := 0) (st := []) [.int x3] ml_X7_52 cv_X7_isFree dX7_allFree_24 (lt7 hs) (kk7 hs) (by decide) rfl rfl rfl rfl (Nat.le_of_ble_eq_true rfl) (kqi (w_X7_isFree (d := d) (Q := qi h L (fun v I' => I' = I ∧ v = bI (¬ ((I 14 x3.toNatClampNeg) = 0) ∧ (((I 12 x3.toNatClampNeg) = (-1)) ∧ ((I 13 x3.toNatClampNeg) = (-1)))))) hs x3 ⟨hb4, rfl, rfl, _, rfl, rfl, rfl⟩) (fun v5 I6 hv => ?_))
      rw [hv.1, hv.2]
      refine J.if_eq 33 dX7_allFree_27 (by decide) (fun hc8 => ?_) (fun hc8 => ?_)
      · have hc8 := bI_0.mp hc8
        rw [show y9 = x2 from by simp only [hyy9, eq_true hc3, eq_false hc8, if_true, if_false, bI_true, bI_false, and_true, true_and, and_false, false_and, or_true, true_or, or_false, false_or, not_true_eq_false, not_false_eq_true]] at hj
        exact hj
      · have hc8 := bI_n0.mp hc8
        refine J.iinc (v := x2 + 1) (vs' := [some (.ref (eB E + 7)), some (.int x1), some (.int (x2 + 1)), some (.int x3)]) dX7_allFree_30 rfl (by rfl) (by decide) rfl ?_
        rw [show y9 = x2 + 1 from by simp only [hyy9, eq_true hc3, eq_true hc8, if_true, if_false, bI_true, bI_false, and_true, true_and, and_false, false_and, or_true, true_or, or_false, false_or, not_true_eq_false, not_false_eq_true]] at hj
        exact hj
set_option maxRecDepth 100000 in
set_option maxHeartbeats 4000000 in
theorem w_X8_kindOf {E : Envt} {d : Nat} {Q : Pst} {h : mS} {I : mI} {L : mL} (hs : SL h) (x0 : Int32) 
    (hW : (((x0 < 97) → J E mX8_kindOf d Q 0 0 14 [some (.int x0)] [] h I L) ∧ (¬ (x0 < 97) → (((122 < x0) → J E mX8_kindOf d Q 0 0 14 [some (.int x0)] [] h I L) ∧ (¬ (122 < x0) → Q (some (.int 1)) h I L))))) :
    CT E mX8_kindOf d 0 0 [.int x0] h I L Q := by
  refine CT.of (by decide) [some (.int x0)] rfl (Nat.le_of_ble_eq_true rfl) ?_
  refine J.iload_n dX8_kindOf_0 rfl rfl ?_
  refine J.bipush (v := 97) dX8_kindOf_1 (by decide) ?_
  refine J.ic_lt 14 dX8_kindOf_3 (by decide) (fun hc1 => ?_) (fun hc1 => ?_)
  · have hW := hW.1 hc1
    exact hW
  · have hW := hW.2 hc1
    refine J.iload_n dX8_kindOf_6 rfl rfl ?_
    refine J.bipush (v := 122) dX8_kindOf_7 (by decide) ?_
    refine J.ic_gt 14 dX8_kindOf_9 (by decide) (fun hc2 => ?_) (fun hc2 => ?_)
    · have hW := hW.1 hc2
      exact hW
    · have hW := hW.2 hc2
      refine J.iconst (v := 1) dX8_kindOf_12 (by decide) ?_
      exact J.reti dX8_kindOf_13 rfl rfl hW
set_option maxRecDepth 100000 in
set_option maxHeartbeats 4000000 in
theorem w_X8_kindOf_14 {E : Envt} {d : Nat} {Q : Pst} {h : mS} {I : mI} {L : mL} (hs : SL h)    (x0 : Int32)
    (hW : (((x0 < 48) → J E mX8_kindOf d Q 0 0 28 [some (.int x0)] [] h I L) ∧ (¬ (x0 < 48) → (((57 < x0) → J E mX8_kindOf d Q 0 0 28 [some (.int x0)] [] h I L) ∧ (¬ (57 < x0) → Q (some (.int 2)) h I L))))) :
    J E mX8_kindOf d Q 0 0 14 [some (.int x0)] [] h I L := by
  refine J.iload_n dX8_kindOf_14 rfl rfl ?_
  refine J.bipush (v := 48) dX8_kindOf_15 (by decide) ?_
  refine J.ic_lt 28 dX8_kindOf_17 (by decide) (fun hc1 => ?_) (fun hc1 => ?_)
  · have hW := hW.1 hc1
    exact hW
  · have hW := hW.2 hc1
    refine J.iload_n dX8_kindOf_20 rfl rfl ?_
    refine J.bipush (v := 57) dX8_kindOf_21 (by decide) ?_
    refine J.ic_gt 28 dX8_kindOf_23 (by decide) (fun hc2 => ?_) (fun hc2 => ?_)
    · have hW := hW.1 hc2
      exact hW
    · have hW := hW.2 hc2
      refine J.iconst (v := 2) dX8_kindOf_26 (by decide) ?_
      exact J.reti dX8_kindOf_27 rfl rfl hW
set_option maxRecDepth 100000 in
set_option maxHeartbeats 4000000 in
theorem w_X8_kindOf_28 {E : Envt} {d : Nat} {Q : Pst} {h : mS} {I : mI} {L : mL} (hs : SL h)    (x0 : Int32)
    (hW : (((x0 = 58) → Q (some (.int 3)) h I L) ∧ (¬ (x0 = 58) → (((x0 = 59) → Q (some (.int 3)) h I L) ∧ (¬ (x0 = 59) → (((x0 = 60) → Q (some (.int 3)) h I L) ∧ (¬ (x0 = 60) → (((x0 = 62) → Q (some (.int 3)) h I L) ∧ (¬ (x0 = 62) → (((x0 = 61) → Q (some (.int 3)) h I L) ∧ (¬ (x0 = 61) → Q (some (.int (if x0 = 32 then 4 else if x0 = 10 then 4 else 5 : Int32))) h I L))))))))))) :
    J E mX8_kindOf d Q 0 0 28 [some (.int x0)] [] h I L := by
  refine J.iload_n dX8_kindOf_28 rfl rfl ?_
  refine J.bipush (v := 58) dX8_kindOf_29 (by decide) ?_
  refine J.ic_eq 58 dX8_kindOf_31 (by decide) (fun hc1 => ?_) (fun hc1 => ?_)
  · have hW := hW.1 hc1
    refine J.iconst (v := 3) dX8_kindOf_58 (by decide) ?_
    exact J.reti dX8_kindOf_59 rfl rfl hW
  · have hW := hW.2 hc1
    refine J.iload_n dX8_kindOf_34 rfl rfl ?_
    refine J.bipush (v := 59) dX8_kindOf_35 (by decide) ?_
    refine J.ic_eq 58 dX8_kindOf_37 (by decide) (fun hc2 => ?_) (fun hc2 => ?_)
    · have hW := hW.1 hc2
      refine J.iconst (v := 3) dX8_kindOf_58 (by decide) ?_
      exact J.reti dX8_kindOf_59 rfl rfl hW
    · have hW := hW.2 hc2
      refine J.iload_n dX8_kindOf_40 rfl rfl ?_
      refine J.bipush (v := 60) dX8_kindOf_41 (by decide) ?_
      refine J.ic_eq 58 dX8_kindOf_43 (by decide) (fun hc3 => ?_) (fun hc3 => ?_)
      · have hW := hW.1 hc3
        refine J.iconst (v := 3) dX8_kindOf_58 (by decide) ?_
        exact J.reti dX8_kindOf_59 rfl rfl hW
      · have hW := hW.2 hc3
        refine J.iload_n dX8_kindOf_46 rfl rfl ?_
        refine J.bipush (v := 62) dX8_kindOf_47 (by decide) ?_
        refine J.ic_eq 58 dX8_kindOf_49 (by decide) (fun hc4 => ?_) (fun hc4 => ?_)
        · have hW := hW.1 hc4
          refine J.iconst (v := 3) dX8_kindOf_58 (by decide) ?_
          exact J.reti dX8_kindOf_59 rfl rfl hW
        · have hW := hW.2 hc4
          refine J.iload_n dX8_kindOf_52 rfl rfl ?_
          refine J.bipush (v := 61) dX8_kindOf_53 (by decide) ?_
          refine J.ic_ne 60 dX8_kindOf_55 (by decide) (fun hc5 => ?_) (fun hc5 => ?_)
          · have hW := hW.2 hc5
            refine J.iload_n dX8_kindOf_60 rfl rfl ?_
            refine J.bipush (v := 32) dX8_kindOf_61 (by decide) ?_
            have hj : J E mX8_kindOf d Q 0 0 77 [some (.int x0)] [.int (if x0 = 32 then 4 else if x0 = 10 then 4 else 5 : Int32)] h I L := by
              exact J.reti dX8_kindOf_77 rfl rfl hW
            refine J.ic_eq 72 dX8_kindOf_63 (by decide) (fun hc6 => ?_) (fun hc6 => ?_)
            · refine J.iconst (v := 4) dX8_kindOf_72 (by decide) ?_
              refine J.goto 77 dX8_kindOf_73 (by decide) ?_
              rw [show ((if x0 = 32 then 4 else if x0 = 10 then 4 else 5 : Int32) = 4) from by simp only [eq_true hc6, if_true, if_false, bI_true, bI_false, and_true, true_and, and_false, false_and, or_true, true_or, or_false, false_or, not_true_eq_false, not_false_eq_true]] at hj
              exact hj
            · refine J.iload_n dX8_kindOf_66 rfl rfl ?_
              refine J.bipush (v := 10) dX8_kindOf_67 (by decide) ?_
              refine J.ic_ne 76 dX8_kindOf_69 (by decide) (fun hc7 => ?_) (fun hc7 => ?_)
              · refine J.iconst (v := 5) dX8_kindOf_76 (by decide) ?_
                rw [show ((if x0 = 32 then 4 else if x0 = 10 then 4 else 5 : Int32) = 5) from by simp only [eq_false hc6, eq_false hc7, if_true, if_false, bI_true, bI_false, and_true, true_and, and_false, false_and, or_true, true_or, or_false, false_or, not_true_eq_false, not_false_eq_true]] at hj
                exact hj
              · refine J.iconst (v := 4) dX8_kindOf_72 (by decide) ?_
                refine J.goto 77 dX8_kindOf_73 (by decide) ?_
                rw [show ((if x0 = 32 then 4 else if x0 = 10 then 4 else 5 : Int32) = 4) from by simp only [eq_false hc6, eq_true hc7, if_true, if_false, bI_true, bI_false, and_true, true_and, and_false, false_and, or_true, true_or, or_false, false_or, not_true_eq_false, not_false_eq_true]] at hj
                exact hj
          · have hW := hW.1 hc5
            refine J.iconst (v := 3) dX8_kindOf_58 (by decide) ?_
            exact J.reti dX8_kindOf_59 rfl rfl hW
set_option maxRecDepth 100000 in
set_option maxHeartbeats 4000000 in
theorem w_X8_measure {E : Envt} {d : Nat} {Q : Pst} {h : mS} {I : mI} {L : mL} (hs : SL h)  
    (hW : J E mX8_measure d Q 0 0 10 [some (.ref (eB E + 47)), some (.int (I 47 2))] [] h (uI I 47 4 0) L) :
    CT E mX8_measure d 0 0 [.ref (eB E + 47)] h I L Q := by
  refine CT.of (by decide) [some (.ref (eB E + 47)), none] rfl (Nat.le_of_ble_eq_true rfl) ?_
  refine J.aload_n dX8_measure_0 rfl rfl ?_
  refine J.iconst (v := 0) dX8_measure_1 (by decide) ?_
  refine J.putI fw_X8_141 rfl dX8_measure_2 (lt47 hs) (kk47 hs) ?_
  refine J.aload_n dX8_measure_5 rfl rfl ?_
  refine J.getI (x := I 47 2) fl_X8_138 rfl dX8_measure_6 (lt47 hs) (kk47 hs) rfl ?_
  refine J.istore_n (vs' := [some (.ref (eB E + 47)), some (.int (I 47 2))]) dX8_measure_9 rfl (by decide) rfl ?_
  exact hW
set_option maxRecDepth 100000 in
set_option maxHeartbeats 4000000 in
theorem w_X8_measure_10 {E : Envt} {d : Nat} {Q : Pst} {h : mS} {I : mI} {L : mL} (hs : SL h)    (x1 : Int32)
    (hW : ((((I 47 3) ≤ x1) → (((((I 47 3) - (I 47 2)) ≤ 4) → Q none h I L) ∧ (¬ (((I 47 3) - (I 47 2)) ≤ 4) → Q none h (uI I 47 1 5) L))) ∧ (¬ ((I 47 3) ≤ x1) → (vp_in x1 500 ∧ J E mX8_measure d Q 0 0 10 [some (.ref (eB E + 47)), some (.int (x1 + 1))] [] h (uI I 47 4 (((I 47 4) * 10) + ((I 37 x1.toNatClampNeg) - 48))) L)))) :
    J E mX8_measure d Q 0 0 10 [some (.ref (eB E + 47)), some (.int x1)] [] h I L := by
  refine J.iload_n dX8_measure_10 rfl rfl ?_
  refine J.aload_n dX8_measure_11 rfl rfl ?_
  refine J.getI (x := I 47 3) fl_X8_28 rfl dX8_measure_12 (lt47 hs) (kk47 hs) rfl ?_
  refine J.ic_ge 48 dX8_measure_15 (by decide) (fun hc1 => ?_) (fun hc1 => ?_)
  · have hW := hW.1 hc1
    refine J.aload_n dX8_measure_48 rfl rfl ?_
    refine J.getI (x := I 47 3) fl_X8_28 rfl dX8_measure_49 (lt47 hs) (kk47 hs) rfl ?_
    refine J.aload_n dX8_measure_52 rfl rfl ?_
    refine J.getI (x := I 47 2) fl_X8_138 rfl dX8_measure_53 (lt47 hs) (kk47 hs) rfl ?_
    refine J.isub dX8_measure_56 ?_
    refine J.iconst (v := 4) dX8_measure_57 (by decide) ?_
    refine J.ic_le 66 dX8_measure_58 (by decide) (fun hc2 => ?_) (fun hc2 => ?_)
    · have hW := hW.1 hc2
      exact J.retv dX8_measure_66 rfl hW
    · have hW := hW.2 hc2
      refine J.aload_n dX8_measure_61 rfl rfl ?_
      refine J.iconst (v := 5) dX8_measure_62 (by decide) ?_
      refine J.putI fw_X8_47 rfl dX8_measure_63 (lt47 hs) (kk47 hs) ?_
      exact J.retv dX8_measure_66 rfl hW
  · have hW := hW.2 hc1
    refine J.aload_n dX8_measure_18 rfl rfl ?_
    refine J.aload_n dX8_measure_19 rfl rfl ?_
    refine J.getI (x := I 47 4) fl_X8_141 rfl dX8_measure_20 (lt47 hs) (kk47 hs) rfl ?_
    refine J.bipush (v := 10) dX8_measure_23 (by decide) ?_
    refine J.imul dX8_measure_25 ?_
    refine J.aload_n dX8_measure_26 rfl rfl ?_
    refine J.getR (r := 1) fl_X8_20 rfl dX8_measure_27 (lt47 hs) (kk47 hs) (rr47_0 hs) ?_
    refine J.getR (r := 37) fl_X8_132 rfl dX8_measure_30 (lt1 hs) (kk1 hs) (rr1_6 hs) ?_
    refine J.iload_n dX8_measure_33 rfl rfl ?_
    obtain ⟨hb3, hW⟩ := hW
    refine J.bald (x := I 37 x1.toNatClampNeg) dX8_measure_34 (lt37 hs) (kk37 hs) hb3 rfl ?_
    refine J.bipush (v := 48) dX8_measure_35 (by decide) ?_
    refine J.isub dX8_measure_37 ?_
    refine J.iadd dX8_measure_38 ?_
    refine J.putI fw_X8_141 rfl dX8_measure_39 (lt47 hs) (kk47 hs) ?_
    refine J.iinc (v := x1 + 1) (vs' := [some (.ref (eB E + 47)), some (.int (x1 + 1))]) dX8_measure_42 rfl (by rfl) (by decide) rfl ?_
    refine J.goto 10 dX8_measure_45 (by decide) ?_
    exact hW
set_option maxRecDepth 100000 in
set_option maxHeartbeats 4000000 in
theorem w_X8_advance {E : Envt} {d : Nat} {Q : Pst} {h : mS} {I : mI} {L : mL} (hs : SL h)  
    (hW : ((((I 1 7) ≤ (I 47 3)) → J E mX8_advance (d + 1) Q 0 0 46 [some (.ref (eB E + 47))] [] h I L) ∧ (¬ ((I 1 7) ≤ (I 47 3)) → (vp_in (I 47 3) 500 ∧ (CT E mX8_kindOf d 0 0 [.int (I 37 ((I 47 3).toNatClampNeg))] h I L (qi h L fun r4 I3 => (((r4 = 4) → J E mX8_advance (d + 1) Q 0 0 0 [some (.ref (eB E + 47))] [] h (uI I3 47 3 ((I3 47 3) + 1)) L) ∧ (¬ (r4 = 4) → J E mX8_advance (d + 1) Q 0 0 46 [some (.ref (eB E + 47))] [] h I3 L)))))))) :
    CT E mX8_advance (d + 1) 0 0 [.ref (eB E + 47)] h I L Q := by
  refine CT.of (by decide) [some (.ref (eB E + 47))] rfl (Nat.le_of_ble_eq_true rfl) ?_
  refine J.aload_n dX8_advance_0 rfl rfl ?_
  refine J.getI (x := I 47 3) fl_X8_28 rfl dX8_advance_1 (lt47 hs) (kk47 hs) rfl ?_
  refine J.aload_n dX8_advance_4 rfl rfl ?_
  refine J.getR (r := 1) fl_X8_20 rfl dX8_advance_5 (lt47 hs) (kk47 hs) (rr47_0 hs) ?_
  refine J.getI (x := I 1 7) fl_X8_191 rfl dX8_advance_8 (lt1 hs) (kk1 hs) rfl ?_
  refine J.ic_ge 46 dX8_advance_11 (by decide) (fun hc1 => ?_) (fun hc1 => ?_)
  · have hW := hW.1 hc1
    exact hW
  · have hW := hW.2 hc1
    refine J.aload_n dX8_advance_14 rfl rfl ?_
    refine J.getR (r := 1) fl_X8_20 rfl dX8_advance_15 (lt47 hs) (kk47 hs) (rr47_0 hs) ?_
    refine J.getR (r := 37) fl_X8_132 rfl dX8_advance_18 (lt1 hs) (kk1 hs) (rr1_6 hs) ?_
    refine J.aload_n dX8_advance_21 rfl rfl ?_
    refine J.getI (x := I 47 3) fl_X8_28 rfl dX8_advance_22 (lt47 hs) (kk47 hs) rfl ?_
    obtain ⟨hb2, hW⟩ := hW
    refine J.bald (x := I 37 ((I 47 3).toNatClampNeg)) dX8_advance_25 (lt37 hs) (kk37 hs) hb2 rfl ?_
    refine J.callS (M' := mX8_kindOf) (index := 194) (bc := 0) (bs := 0) (bc' := 0) (bs' := 0) (st := []) [.int (I 37 ((I 47 3).toNatClampNeg))] ml_X8_194 cv_X8_kindOf dX8_advance_26 rfl rfl (Nat.le_of_ble_eq_true rfl) (kqi hW (fun r4 I3 hW => ?_))
    refine J.iconst (v := 4) dX8_advance_29 (by decide) ?_
    refine J.ic_ne 46 dX8_advance_30 (by decide) (fun hc5 => ?_) (fun hc5 => ?_)
    · have hW := hW.2 hc5
      exact hW
    · have hW := hW.1 hc5
      refine J.aload_n dX8_advance_33 rfl rfl ?_
      refine J.dup dX8_advance_34 rfl ?_
      refine J.getI (x := I3 47 3) fl_X8_28 rfl dX8_advance_35 (lt47 hs) (kk47 hs) rfl ?_
      refine J.iconst (v := 1) dX8_advance_38 (by decide) ?_
      refine J.iadd dX8_advance_39 ?_
      refine J.putI fw_X8_28 rfl dX8_advance_40 (lt47 hs) (kk47 hs) ?_
      refine J.goto 0 dX8_advance_43 (by decide) ?_
      exact hW
set_option maxRecDepth 100000 in
set_option maxHeartbeats 4000000 in
theorem w_X8_advance_0 {E : Envt} {d : Nat} {Q : Pst} {h : mS} {I : mI} {L : mL} (hs : SL h)    
    (hW : ((((I 1 7) ≤ (I 47 3)) → J E mX8_advance (d + 1) Q 0 0 46 [some (.ref (eB E + 47))] [] h I L) ∧ (¬ ((I 1 7) ≤ (I 47 3)) → (vp_in (I 47 3) 500 ∧ (CT E mX8_kindOf d 0 0 [.int (I 37 ((I 47 3).toNatClampNeg))] h I L (qi h L fun r4 I3 => (((r4 = 4) → J E mX8_advance (d + 1) Q 0 0 0 [some (.ref (eB E + 47))] [] h (uI I3 47 3 ((I3 47 3) + 1)) L) ∧ (¬ (r4 = 4) → J E mX8_advance (d + 1) Q 0 0 46 [some (.ref (eB E + 47))] [] h I3 L)))))))) :
    J E mX8_advance (d + 1) Q 0 0 0 [some (.ref (eB E + 47))] [] h I L := by
  refine J.aload_n dX8_advance_0 rfl rfl ?_
  refine J.getI (x := I 47 3) fl_X8_28 rfl dX8_advance_1 (lt47 hs) (kk47 hs) rfl ?_
  refine J.aload_n dX8_advance_4 rfl rfl ?_
  refine J.getR (r := 1) fl_X8_20 rfl dX8_advance_5 (lt47 hs) (kk47 hs) (rr47_0 hs) ?_
  refine J.getI (x := I 1 7) fl_X8_191 rfl dX8_advance_8 (lt1 hs) (kk1 hs) rfl ?_
  refine J.ic_ge 46 dX8_advance_11 (by decide) (fun hc1 => ?_) (fun hc1 => ?_)
  · have hW := hW.1 hc1
    exact hW
  · have hW := hW.2 hc1
    refine J.aload_n dX8_advance_14 rfl rfl ?_
    refine J.getR (r := 1) fl_X8_20 rfl dX8_advance_15 (lt47 hs) (kk47 hs) (rr47_0 hs) ?_
    refine J.getR (r := 37) fl_X8_132 rfl dX8_advance_18 (lt1 hs) (kk1 hs) (rr1_6 hs) ?_
    refine J.aload_n dX8_advance_21 rfl rfl ?_
    refine J.getI (x := I 47 3) fl_X8_28 rfl dX8_advance_22 (lt47 hs) (kk47 hs) rfl ?_
    obtain ⟨hb2, hW⟩ := hW
    refine J.bald (x := I 37 ((I 47 3).toNatClampNeg)) dX8_advance_25 (lt37 hs) (kk37 hs) hb2 rfl ?_
    refine J.callS (M' := mX8_kindOf) (index := 194) (bc := 0) (bs := 0) (bc' := 0) (bs' := 0) (st := []) [.int (I 37 ((I 47 3).toNatClampNeg))] ml_X8_194 cv_X8_kindOf dX8_advance_26 rfl rfl (Nat.le_of_ble_eq_true rfl) (kqi hW (fun r4 I3 hW => ?_))
    refine J.iconst (v := 4) dX8_advance_29 (by decide) ?_
    refine J.ic_ne 46 dX8_advance_30 (by decide) (fun hc5 => ?_) (fun hc5 => ?_)
    · have hW := hW.2 hc5
      exact hW
    · have hW := hW.1 hc5
      refine J.aload_n dX8_advance_33 rfl rfl ?_
      refine J.dup dX8_advance_34 rfl ?_
      refine J.getI (x := I3 47 3) fl_X8_28 rfl dX8_advance_35 (lt47 hs) (kk47 hs) rfl ?_
      refine J.iconst (v := 1) dX8_advance_38 (by decide) ?_
      refine J.iadd dX8_advance_39 ?_
      refine J.putI fw_X8_28 rfl dX8_advance_40 (lt47 hs) (kk47 hs) ?_
      refine J.goto 0 dX8_advance_43 (by decide) ?_
      exact hW
set_option maxRecDepth 100000 in
set_option maxHeartbeats 4000000 in
theorem w_X8_advance_46 {E : Envt} {d : Nat} {Q : Pst} {h : mS} {I : mI} {L : mL} (hs : SL h)    
    (hW : ((((I 1 7) ≤ (I 47 3)) → J E mX8_advance (d + 1) Q 0 0 102 [some (.ref (eB E + 47))] [] h (uI (uI I 47 2 (I 47 3)) 47 1 0) L) ∧ (¬ ((I 1 7) ≤ (I 47 3)) → (vp_in (I 47 3) 500 ∧ (CT E mX8_kindOf d 0 0 [.int (I 37 ((I 47 3).toNatClampNeg))] h (uI (uI I 47 2 (I 47 3)) 47 1 0) L (qi h L fun r4 I3 => J E mX8_advance (d + 1) Q 0 0 102 [some (.ref (eB E + 47))] [] h (uI (uI I3 47 1 r4) 47 3 ((I3 47 3) + 1)) L)))))) :
    J E mX8_advance (d + 1) Q 0 0 46 [some (.ref (eB E + 47))] [] h I L := by
  refine J.aload_n dX8_advance_46 rfl rfl ?_
  refine J.aload_n dX8_advance_47 rfl rfl ?_
  refine J.getI (x := I 47 3) fl_X8_28 rfl dX8_advance_48 (lt47 hs) (kk47 hs) rfl ?_
  refine J.putI fw_X8_138 rfl dX8_advance_51 (lt47 hs) (kk47 hs) ?_
  refine J.aload_n dX8_advance_54 rfl rfl ?_
  refine J.iconst (v := 0) dX8_advance_55 (by decide) ?_
  refine J.putI fw_X8_47 rfl dX8_advance_56 (lt47 hs) (kk47 hs) ?_
  refine J.aload_n dX8_advance_59 rfl rfl ?_
  refine J.getI (x := I 47 3) fl_X8_28 rfl dX8_advance_60 (lt47 hs) (kk47 hs) rfl ?_
  refine J.aload_n dX8_advance_63 rfl rfl ?_
  refine J.getR (r := 1) fl_X8_20 rfl dX8_advance_64 (lt47 hs) (kk47 hs) (rr47_0 hs) ?_
  refine J.getI (x := I 1 7) fl_X8_191 rfl dX8_advance_67 (lt1 hs) (kk1 hs) rfl ?_
  refine J.ic_ge 102 dX8_advance_70 (by decide) (fun hc1 => ?_) (fun hc1 => ?_)
  · have hW := hW.1 hc1
    exact hW
  · have hW := hW.2 hc1
    refine J.aload_n dX8_advance_73 rfl rfl ?_
    refine J.aload_n dX8_advance_74 rfl rfl ?_
    refine J.getR (r := 1) fl_X8_20 rfl dX8_advance_75 (lt47 hs) (kk47 hs) (rr47_0 hs) ?_
    refine J.getR (r := 37) fl_X8_132 rfl dX8_advance_78 (lt1 hs) (kk1 hs) (rr1_6 hs) ?_
    refine J.aload_n dX8_advance_81 rfl rfl ?_
    refine J.getI (x := I 47 3) fl_X8_28 rfl dX8_advance_82 (lt47 hs) (kk47 hs) rfl ?_
    obtain ⟨hb2, hW⟩ := hW
    refine J.bald (x := I 37 ((I 47 3).toNatClampNeg)) dX8_advance_85 (lt37 hs) (kk37 hs) hb2 rfl ?_
    refine J.callS (M' := mX8_kindOf) (index := 194) (bc := 0) (bs := 0) (bc' := 0) (bs' := 0) (st := [.ref (eB E + 47)]) [.int (I 37 ((I 47 3).toNatClampNeg))] ml_X8_194 cv_X8_kindOf dX8_advance_86 rfl rfl (Nat.le_of_ble_eq_true rfl) (kqi hW (fun r4 I3 hW => ?_))
    refine J.putI fw_X8_47 rfl dX8_advance_89 (lt47 hs) (kk47 hs) ?_
    refine J.aload_n dX8_advance_92 rfl rfl ?_
    refine J.dup dX8_advance_93 rfl ?_
    refine J.getI (x := I3 47 3) fl_X8_28 rfl dX8_advance_94 (lt47 hs) (kk47 hs) rfl ?_
    refine J.iconst (v := 1) dX8_advance_97 (by decide) ?_
    refine J.iadd dX8_advance_98 ?_
    refine J.putI fw_X8_28 rfl dX8_advance_99 (lt47 hs) (kk47 hs) ?_
    exact hW
set_option maxRecDepth 100000 in
set_option maxHeartbeats 4000000 in
theorem w_X8_advance_102 {E : Envt} {d : Nat} {Q : Pst} {h : mS} {I : mI} {L : mL} (hs : SL h)    
    (hW : ((((I 47 1) = 1) → J E mX8_advance (d + 1) Q 0 0 118 [some (.ref (eB E + 47))] [] h I L) ∧ (¬ ((I 47 1) = 1) → ((((I 47 1) = 2) → J E mX8_advance (d + 1) Q 0 0 118 [some (.ref (eB E + 47))] [] h I L) ∧ (¬ ((I 47 1) = 2) → ((((I 47 1) = 2) → (CT E mX8_measure d 0 0 [.ref (eB E + 47)] h I L (qv h L fun I4 => Q none h I4 L))) ∧ (¬ ((I 47 1) = 2) → Q none h I L))))))) :
    J E mX8_advance (d + 1) Q 0 0 102 [some (.ref (eB E + 47))] [] h I L := by
  refine J.aload_n dX8_advance_102 rfl rfl ?_
  refine J.getI (x := I 47 1) fl_X8_47 rfl dX8_advance_103 (lt47 hs) (kk47 hs) rfl ?_
  refine J.iconst (v := 1) dX8_advance_106 (by decide) ?_
  refine J.ic_eq 118 dX8_advance_107 (by decide) (fun hc1 => ?_) (fun hc1 => ?_)
  · have hW := hW.1 hc1
    exact hW
  · have hW := hW.2 hc1
    refine J.aload_n dX8_advance_110 rfl rfl ?_
    refine J.getI (x := I 47 1) fl_X8_47 rfl dX8_advance_111 (lt47 hs) (kk47 hs) rfl ?_
    refine J.iconst (v := 2) dX8_advance_114 (by decide) ?_
    refine J.ic_ne 167 dX8_advance_115 (by decide) (fun hc2 => ?_) (fun hc2 => ?_)
    · have hW := hW.2 hc2
      refine J.aload_n dX8_advance_167 rfl rfl ?_
      refine J.getI (x := I 47 1) fl_X8_47 rfl dX8_advance_168 (lt47 hs) (kk47 hs) rfl ?_
      refine J.iconst (v := 2) dX8_advance_171 (by decide) ?_
      refine J.ic_ne 179 dX8_advance_172 (by decide) (fun hc3 => ?_) (fun hc3 => ?_)
      · have hW := hW.2 hc3
        exact J.retv dX8_advance_179 rfl hW
      · have hW := hW.1 hc3
        refine J.aload_n dX8_advance_175 rfl rfl ?_
        refine J.callV (M' := mX8_measure) (index := 198) (bc := 0) (bs := 0) (bc' := 0) (bs' := 0) (st := []) [] ml_X8_198 cv_X8_measure dX8_advance_176 (lt47 hs) (kk47 hs) (by decide) rfl rfl rfl rfl (Nat.le_of_ble_eq_true rfl) (kqv hW (fun I4 hW => ?_))
        exact J.retv dX8_advance_179 rfl hW
    · have hW := hW.1 hc2
      exact hW
set_option maxRecDepth 100000 in
set_option maxHeartbeats 4000000 in
theorem w_X8_advance_118 {E : Envt} {d : Nat} {Q : Pst} {h : mS} {I : mI} {L : mL} (hs : SL h)    
    (hW : ((((I 1 7) ≤ (I 47 3)) → ((((I 47 1) = 2) → (CT E mX8_measure d 0 0 [.ref (eB E + 47)] h I L (qv h L fun I3 => Q none h I3 L))) ∧ (¬ ((I 47 1) = 2) → Q none h I L))) ∧ (¬ ((I 1 7) ≤ (I 47 3)) → (vp_in (I 47 3) 500 ∧ (CT E mX8_kindOf d 0 0 [.int (I 37 ((I 47 3).toNatClampNeg))] h I L (qi h L fun r6 I5 => (((r6 = (I5 47 1)) → J E mX8_advance (d + 1) Q 0 0 118 [some (.ref (eB E + 47))] [] h (uI I5 47 3 ((I5 47 3) + 1)) L) ∧ (¬ (r6 = (I5 47 1)) → ((((I5 47 1) = 2) → (CT E mX8_measure d 0 0 [.ref (eB E + 47)] h I5 L (qv h L fun I9 => Q none h I9 L))) ∧ (¬ ((I5 47 1) = 2) → Q none h I5 L)))))))))) :
    J E mX8_advance (d + 1) Q 0 0 118 [some (.ref (eB E + 47))] [] h I L := by
  refine J.aload_n dX8_advance_118 rfl rfl ?_
  refine J.getI (x := I 47 3) fl_X8_28 rfl dX8_advance_119 (lt47 hs) (kk47 hs) rfl ?_
  refine J.aload_n dX8_advance_122 rfl rfl ?_
  refine J.getR (r := 1) fl_X8_20 rfl dX8_advance_123 (lt47 hs) (kk47 hs) (rr47_0 hs) ?_
  refine J.getI (x := I 1 7) fl_X8_191 rfl dX8_advance_126 (lt1 hs) (kk1 hs) rfl ?_
  refine J.ic_ge 167 dX8_advance_129 (by decide) (fun hc1 => ?_) (fun hc1 => ?_)
  · have hW := hW.1 hc1
    refine J.aload_n dX8_advance_167 rfl rfl ?_
    refine J.getI (x := I 47 1) fl_X8_47 rfl dX8_advance_168 (lt47 hs) (kk47 hs) rfl ?_
    refine J.iconst (v := 2) dX8_advance_171 (by decide) ?_
    refine J.ic_ne 179 dX8_advance_172 (by decide) (fun hc2 => ?_) (fun hc2 => ?_)
    · have hW := hW.2 hc2
      exact J.retv dX8_advance_179 rfl hW
    · have hW := hW.1 hc2
      refine J.aload_n dX8_advance_175 rfl rfl ?_
      refine J.callV (M' := mX8_measure) (index := 198) (bc := 0) (bs := 0) (bc' := 0) (bs' := 0) (st := []) [] ml_X8_198 cv_X8_measure dX8_advance_176 (lt47 hs) (kk47 hs) (by decide) rfl rfl rfl rfl (Nat.le_of_ble_eq_true rfl) (kqv hW (fun I3 hW => ?_))
      exact J.retv dX8_advance_179 rfl hW
  · have hW := hW.2 hc1
    refine J.aload_n dX8_advance_132 rfl rfl ?_
    refine J.getR (r := 1) fl_X8_20 rfl dX8_advance_133 (lt47 hs) (kk47 hs) (rr47_0 hs) ?_
    refine J.getR (r := 37) fl_X8_132 rfl dX8_advance_136 (lt1 hs) (kk1 hs) (rr1_6 hs) ?_
    refine J.aload_n dX8_advance_139 rfl rfl ?_
    refine J.getI (x := I 47 3) fl_X8_28 rfl dX8_advance_140 (lt47 hs) (kk47 hs) rfl ?_
    obtain ⟨hb4, hW⟩ := hW
    refine J.bald (x := I 37 ((I 47 3).toNatClampNeg)) dX8_advance_143 (lt37 hs) (kk37 hs) hb4 rfl ?_
    refine J.callS (M' := mX8_kindOf) (index := 194) (bc := 0) (bs := 0) (bc' := 0) (bs' := 0) (st := []) [.int (I 37 ((I 47 3).toNatClampNeg))] ml_X8_194 cv_X8_kindOf dX8_advance_144 rfl rfl (Nat.le_of_ble_eq_true rfl) (kqi hW (fun r6 I5 hW => ?_))
    refine J.aload_n dX8_advance_147 rfl rfl ?_
    refine J.getI (x := I5 47 1) fl_X8_47 rfl dX8_advance_148 (lt47 hs) (kk47 hs) rfl ?_
    refine J.ic_ne 167 dX8_advance_151 (by decide) (fun hc7 => ?_) (fun hc7 => ?_)
    · have hW := hW.2 hc7
      refine J.aload_n dX8_advance_167 rfl rfl ?_
      refine J.getI (x := I5 47 1) fl_X8_47 rfl dX8_advance_168 (lt47 hs) (kk47 hs) rfl ?_
      refine J.iconst (v := 2) dX8_advance_171 (by decide) ?_
      refine J.ic_ne 179 dX8_advance_172 (by decide) (fun hc8 => ?_) (fun hc8 => ?_)
      · have hW := hW.2 hc8
        exact J.retv dX8_advance_179 rfl hW
      · have hW := hW.1 hc8
        refine J.aload_n dX8_advance_175 rfl rfl ?_
        refine J.callV (M' := mX8_measure) (index := 198) (bc := 0) (bs := 0) (bc' := 0) (bs' := 0) (st := []) [] ml_X8_198 cv_X8_measure dX8_advance_176 (lt47 hs) (kk47 hs) (by decide) rfl rfl rfl rfl (Nat.le_of_ble_eq_true rfl) (kqv hW (fun I9 hW => ?_))
        exact J.retv dX8_advance_179 rfl hW
    · have hW := hW.1 hc7
      refine J.aload_n dX8_advance_154 rfl rfl ?_
      refine J.dup dX8_advance_155 rfl ?_
      refine J.getI (x := I5 47 3) fl_X8_28 rfl dX8_advance_156 (lt47 hs) (kk47 hs) rfl ?_
      refine J.iconst (v := 1) dX8_advance_159 (by decide) ?_
      refine J.iadd dX8_advance_160 ?_
      refine J.putI fw_X8_28 rfl dX8_advance_161 (lt47 hs) (kk47 hs) ?_
      refine J.goto 118 dX8_advance_164 (by decide) ?_
      exact hW
set_option maxRecDepth 100000 in
set_option maxHeartbeats 4000000 in
theorem w_X8_note {E : Envt} {d : Nat} {Q : Pst} {h : mS} {I : mI} {L : mL} (hs : SL h) (x1 : Int32) 
    (hW : ((((I 47 9) = 0) → Q none h (uI (uI I 47 9 x1) 47 10 (I 47 2)) L) ∧ (¬ ((I 47 9) = 0) → Q none h I L))) :
    CT E mX8_note d 0 0 [.ref (eB E + 47), .int x1] h I L Q := by
  refine CT.of (by decide) [some (.ref (eB E + 47)), some (.int x1)] rfl (Nat.le_of_ble_eq_true rfl) ?_
  refine J.aload_n dX8_note_0 rfl rfl ?_
  refine J.getI (x := I 47 9) fl_X8_38 rfl dX8_note_1 (lt47 hs) (kk47 hs) rfl ?_
  refine J.if_ne 20 dX8_note_4 (by decide) (fun hc1 => ?_) (fun hc1 => ?_)
  · have hW := hW.2 hc1
    exact J.retv dX8_note_20 rfl hW
  · have hW := hW.1 hc1
    refine J.aload_n dX8_note_7 rfl rfl ?_
    refine J.iload_n dX8_note_8 rfl rfl ?_
    refine J.putI fw_X8_38 rfl dX8_note_9 (lt47 hs) (kk47 hs) ?_
    refine J.aload_n dX8_note_12 rfl rfl ?_
    refine J.aload_n dX8_note_13 rfl rfl ?_
    refine J.getI (x := I 47 2) fl_X8_138 rfl dX8_note_14 (lt47 hs) (kk47 hs) rfl ?_
    refine J.putI fw_X8_41 rfl dX8_note_17 (lt47 hs) (kk47 hs) ?_
    exact J.retv dX8_note_20 rfl hW
