set_option maxRecDepth 100000 in
set_option maxHeartbeats 4000000 in
theorem w_X12_heard {E : Envt} {d : Nat} {Q : Pst} {h : mS} {I : mI} {L : mL} (hs : SL h) (x1 : Int32) (x2 : Int32) 
    (hW : (((¬ (x1 < 0) ∧ (¬ (((I 104 0) - 1) < x1))) → (((¬ (x2 < 0) ∧ (¬ (4 < x2))) → (CT E mX12_findTakes (d + 1) 0 0 [.ref (eB E + 83), .int x2] h (uI I 83 0 0) L (qv h L fun I7 => (vp_in ((4 * x1) + 2) 960 ∧ (vp_in (I7 105 (((4 * x1) + 2).toNatClampNeg)) 5 ∧ (∀ y10 : Int32, y10 = I7 123 ((I7 105 (((4 * x1) + 2).toNatClampNeg)).toNatClampNeg) → (((y10 < 1000) → vp_in ((4 * x1) + 3) 960) ∧ Q (some (.int (if y10 < 1000 then (I7 105 (((4 * x1) + 3).toNatClampNeg)) + y10 else (-1) : Int32))) h I7 L))))))) ∧ (¬ (¬ (x2 < 0) ∧ (¬ (4 < x2))) → Q (some (.int (-1))) h (uI I 83 0 0) L))) ∧ (¬ (¬ (x1 < 0) ∧ (¬ (((I 104 0) - 1) < x1))) → Q (some (.int (-1))) h (uI I 83 0 0) L))) :
    CT E mX12_heard (d + 2) 0 0 [.ref (eB E + 83), .int x1, .int x2] h I L Q := by
  refine CT.of (by decide) [some (.ref (eB E + 83)), some (.int x1), some (.int x2), none] rfl (Nat.le_of_ble_eq_true rfl) ?_
  refine J.aload_n dX12_heard_0 rfl rfl ?_
  refine J.iconst (v := 0) dX12_heard_1 (by decide) ?_
  refine J.putI fw_X12_202 rfl dX12_heard_2 (lt83 hs) (kk83 hs) ?_
  refine J.iload_n dX12_heard_5 rfl rfl ?_
  refine J.iconst (v := 0) dX12_heard_6 (by decide) ?_
  refine J.aload_n dX12_heard_7 rfl rfl ?_
  refine J.getR (r := 104) fl_X12_72 rfl dX12_heard_8 (lt83 hs) (kk83 hs) (rr83_21 hs) ?_
  refine J.iconst (v := 0) dX12_heard_11 (by decide) ?_
  refine J.iald (x := I 104 0) dX12_heard_12 (lt104 hs) (kk104 hs) (by unfold vp_in; decide) rfl ?_
  refine J.iconst (v := 1) dX12_heard_13 (by decide) ?_
  refine J.isub dX12_heard_14 ?_
  refine J.callS (M' := mX12_in) (index := 218) (bc := 0) (bs := 0) (bc' := 0) (bs' := 0) (st := []) [.int x1, .int 0, .int ((I 104 0) - 1)] ml_X12_218 cv_X12_in dX12_heard_15 rfl rfl (Nat.le_of_ble_eq_true rfl) (kqi (w_X12_in (d := d + 1) (Q := qi h L (fun v I' => I' = (uI I 83 0 0) ∧ v = bI (¬ (x1 < 0) ∧ (¬ (((I 104 0) - 1) < x1))))) hs x1 0 ((I 104 0) - 1) ⟨rfl, rfl, _, rfl, rfl, rfl⟩) (fun v1 I2 hv => ?_))
  rw [hv.1, hv.2]
  refine J.if_eq 28 dX12_heard_18 (by decide) (fun hc3 => ?_) (fun hc3 => ?_)
  · have hc3 := bI_0.mp hc3
    have hW := hW.2 hc3
    refine J.iconst (v := (-1)) dX12_heard_28 (by decide) ?_
    exact J.reti dX12_heard_29 rfl rfl hW
  · have hc3 := bI_n0.mp hc3
    have hW := hW.1 hc3
    refine J.iload_n dX12_heard_21 rfl rfl ?_
    refine J.callS (M' := mX12_isVillage) (index := 226) (bc := 0) (bs := 0) (bc' := 0) (bs' := 0) (st := []) [.int x2] ml_X12_226 cv_X12_isVillage dX12_heard_22 rfl rfl (Nat.le_of_ble_eq_true rfl) (kqi (w_X12_isVillage (d := d) (Q := qi h L (fun v I' => I' = (uI I 83 0 0) ∧ v = bI (¬ (x2 < 0) ∧ (¬ (4 < x2))))) hs x2 ⟨rfl, rfl, _, rfl, rfl, rfl⟩) (fun v4 I5 hv => ?_))
    rw [hv.1, hv.2]
    refine J.if_ne 30 dX12_heard_25 (by decide) (fun hc6 => ?_) (fun hc6 => ?_)
    · have hc6 := bI_n0.mp hc6
      have hW := hW.1 hc6
      refine J.aload_n dX12_heard_30 rfl rfl ?_
      refine J.iload_n dX12_heard_31 rfl rfl ?_
      refine J.callV (M' := mX12_findTakes) (index := 241) (bc := 0) (bs := 0) (bc' := 0) (bs' := 0) (st := []) [.int x2] ml_X12_241 cv_X12_findTakes dX12_heard_32 (lt83 hs) (kk83 hs) (by decide) rfl rfl rfl rfl (Nat.le_of_ble_eq_true rfl) (kqv hW (fun I7 hW => ?_))
      refine J.aload_n dX12_heard_35 rfl rfl ?_
      refine J.getR (r := 123) fl_X12_129 rfl dX12_heard_36 (lt83 hs) (kk83 hs) (rr83_40 hs) ?_
      refine J.aload_n dX12_heard_39 rfl rfl ?_
      refine J.getR (r := 105) fl_X12_75 rfl dX12_heard_40 (lt83 hs) (kk83 hs) (rr83_22 hs) ?_
      refine J.iconst (v := 4) dX12_heard_43 (by decide) ?_
      refine J.iload_n dX12_heard_44 rfl rfl ?_
      refine J.imul dX12_heard_45 ?_
      refine J.iconst (v := 2) dX12_heard_46 (by decide) ?_
      refine J.iadd dX12_heard_47 ?_
      obtain ⟨hb8, hW⟩ := hW
      refine J.iald (x := I7 105 (((4 * x1) + 2).toNatClampNeg)) dX12_heard_48 (lt105 hs) (kk105 hs) hb8 rfl ?_
      obtain ⟨hb9, hW⟩ := hW
      refine J.iald (x := I7 123 ((I7 105 (((4 * x1) + 2).toNatClampNeg)).toNatClampNeg)) dX12_heard_49 (lt123 hs) (kk123 hs) hb9 rfl ?_
      refine J.topi (fun y10 hyy10 => ?_)
      have hW := hW y10 hyy10
      refine J.istore_n (vs' := [some (.ref (eB E + 83)), some (.int x1), some (.int x2), some (.int y10)]) dX12_heard_50 rfl (by decide) rfl ?_
      refine J.iload_n dX12_heard_51 rfl rfl ?_
      refine J.sipush (v := 1000) dX12_heard_52 (by decide) ?_
      obtain ⟨hq13, hW⟩ := hW
      have hj : J E mX12_heard (d + 2) Q 0 0 74 [some (.ref (eB E + 83)), some (.int x1), some (.int x2), some (.int y10)] [.int (if y10 < 1000 then (I7 105 (((4 * x1) + 3).toNatClampNeg)) + y10 else (-1) : Int32)] h I7 L := by
        exact J.reti dX12_heard_74 rfl rfl hW
      refine J.ic_lt 62 dX12_heard_55 (by decide) (fun hc11 => ?_) (fun hc11 => ?_)
      · refine J.aload_n dX12_heard_62 rfl rfl ?_
        refine J.getR (r := 105) fl_X12_75 rfl dX12_heard_63 (lt83 hs) (kk83 hs) (rr83_22 hs) ?_
        refine J.iconst (v := 4) dX12_heard_66 (by decide) ?_
        refine J.iload_n dX12_heard_67 rfl rfl ?_
        refine J.imul dX12_heard_68 ?_
        refine J.iconst (v := 3) dX12_heard_69 (by decide) ?_
        refine J.iadd dX12_heard_70 ?_
        have hb12 := hq13 hc11
        refine J.iald (x := I7 105 (((4 * x1) + 3).toNatClampNeg)) dX12_heard_71 (lt105 hs) (kk105 hs) hb12 rfl ?_
        refine J.iload_n dX12_heard_72 rfl rfl ?_
        refine J.iadd dX12_heard_73 ?_
        rw [show ((if y10 < 1000 then (I7 105 (((4 * x1) + 3).toNatClampNeg)) + y10 else (-1) : Int32) = (I7 105 (((4 * x1) + 3).toNatClampNeg)) + y10) from by simp only [eq_true hc11, if_true, if_false, bI_true, bI_false, and_true, true_and, and_false, false_and, or_true, true_or, or_false, false_or, not_true_eq_false, not_false_eq_true]] at hj
        exact hj
      · refine J.iconst (v := (-1)) dX12_heard_58 (by decide) ?_
        refine J.goto 74 dX12_heard_59 (by decide) ?_
        rw [show ((if y10 < 1000 then (I7 105 (((4 * x1) + 3).toNatClampNeg)) + y10 else (-1) : Int32) = (-1)) from by simp only [eq_false hc11, if_true, if_false, bI_true, bI_false, and_true, true_and, and_false, false_and, or_true, true_or, or_false, false_or, not_true_eq_false, not_false_eq_true]] at hj
        exact hj
    · have hc6 := bI_0.mp hc6
      have hW := hW.2 hc6
      refine J.iconst (v := (-1)) dX12_heard_28 (by decide) ?_
      exact J.reti dX12_heard_29 rfl rfl hW
set_option maxRecDepth 100000 in
set_option maxHeartbeats 4000000 in
theorem w_X12_isOpen {E : Envt} {d : Nat} {Q : Pst} {h : mS} {I : mI} {L : mL} (hs : SL h) (x1 : Int32) 
    (hW : (vp_in x1 120 ∧ Q (some (.int (bI (((I 109 x1.toNatClampNeg) = 0) ∨ ((I 109 x1.toNatClampNeg) = 1))))) h I L)) :
    CT E mX12_isOpen d 0 0 [.ref (eB E + 83), .int x1] h I L Q := by
  refine CT.of (by decide) [some (.ref (eB E + 83)), some (.int x1)] rfl (Nat.le_of_ble_eq_true rfl) ?_
  refine J.aload_n dX12_isOpen_0 rfl rfl ?_
  refine J.getR (r := 109) fl_X12_87 rfl dX12_isOpen_1 (lt83 hs) (kk83 hs) (rr83_26 hs) ?_
  refine J.iload_n dX12_isOpen_4 rfl rfl ?_
  obtain ⟨hb1, hW⟩ := hW
  refine J.iald (x := I 109 x1.toNatClampNeg) dX12_isOpen_5 (lt109 hs) (kk109 hs) hb1 rfl ?_
  have hj : J E mX12_isOpen d Q 0 0 24 [some (.ref (eB E + 83)), some (.int x1)] [.int (bI (((I 109 x1.toNatClampNeg) = 0) ∨ ((I 109 x1.toNatClampNeg) = 1)))] h I L := by
    exact J.reti dX12_isOpen_24 rfl (bz_nar (bI_bz _)) hW
  refine J.if_eq 19 dX12_isOpen_6 (by decide) (fun hc2 => ?_) (fun hc2 => ?_)
  · refine J.iconst (v := 1) dX12_isOpen_19 (by decide) ?_
    refine J.goto 24 dX12_isOpen_20 (by decide) ?_
    rw [show bI (((I 109 x1.toNatClampNeg) = 0) ∨ ((I 109 x1.toNatClampNeg) = 1)) = 1 from bI_t (by simp only [eq_true hc2, and_true, true_and, and_false, false_and, or_true, true_or, or_false, false_or, not_true_eq_false, not_false_eq_true])] at hj
    exact hj
  · refine J.aload_n dX12_isOpen_9 rfl rfl ?_
    refine J.getR (r := 109) fl_X12_87 rfl dX12_isOpen_10 (lt83 hs) (kk83 hs) (rr83_26 hs) ?_
    refine J.iload_n dX12_isOpen_13 rfl rfl ?_
    refine J.iald (x := I 109 x1.toNatClampNeg) dX12_isOpen_14 (lt109 hs) (kk109 hs) hb1 rfl ?_
    refine J.iconst (v := 1) dX12_isOpen_15 (by decide) ?_
    refine J.ic_ne 23 dX12_isOpen_16 (by decide) (fun hc3 => ?_) (fun hc3 => ?_)
    · refine J.iconst (v := 0) dX12_isOpen_23 (by decide) ?_
      rw [show bI (((I 109 x1.toNatClampNeg) = 0) ∨ ((I 109 x1.toNatClampNeg) = 1)) = 0 from bI_f (by simp only [eq_false hc2, eq_false hc3, and_true, true_and, and_false, false_and, or_true, true_or, or_false, false_or, not_true_eq_false, not_false_eq_true])] at hj
      exact hj
    · refine J.iconst (v := 1) dX12_isOpen_19 (by decide) ?_
      refine J.goto 24 dX12_isOpen_20 (by decide) ?_
      rw [show bI (((I 109 x1.toNatClampNeg) = 0) ∨ ((I 109 x1.toNatClampNeg) = 1)) = 1 from bI_t (by simp only [eq_false hc2, eq_true hc3, and_true, true_and, and_false, false_and, or_true, true_or, or_false, false_or, not_true_eq_false, not_false_eq_true])] at hj
      exact hj
set_option maxRecDepth 100000 in
set_option maxHeartbeats 4000000 in
theorem w_X12_openOf {E : Envt} {d : Nat} {Q : Pst} {h : mS} {I : mI} {L : mL} (hs : SL h) (x1 : Int32) 
    (hW : J E mX12_openOf (d + 1) Q 0 0 2 [some (.ref (eB E + 83)), some (.int x1), some (.int 0)] [] h I L) :
    CT E mX12_openOf (d + 1) 0 0 [.ref (eB E + 83), .int x1] h I L Q := by
  refine CT.of (by decide) [some (.ref (eB E + 83)), some (.int x1), none] rfl (Nat.le_of_ble_eq_true rfl) ?_
  refine J.iconst (v := 0) dX12_openOf_0 (by decide) ?_
  refine J.istore_n (vs' := [some (.ref (eB E + 83)), some (.int x1), some (.int 0)]) dX12_openOf_1 rfl (by decide) rfl ?_
  exact hW
set_option maxRecDepth 100000 in
set_option maxHeartbeats 4000000 in
theorem w_X12_openOf_2 {E : Envt} {d : Nat} {Q : Pst} {h : mS} {I : mI} {L : mL} (hs : SL h)    (x1 : Int32) (x2 : Int32)
    (hW : ((((I 106 0) ≤ x2) → Q (some (.int (-1))) h I L) ∧ (¬ ((I 106 0) ≤ x2) → ((vp_in x2 120) ∧ (((((I 109 x2.toNatClampNeg) = 0) ∨ ((I 109 x2.toNatClampNeg) = 1)) → (vp_in x2 120 ∧ ((((I 107 x2.toNatClampNeg) = x1) → Q (some (.int x2)) h I L) ∧ (¬ ((I 107 x2.toNatClampNeg) = x1) → ((((I 108 x2.toNatClampNeg) = x1) → Q (some (.int x2)) h I L) ∧ (¬ ((I 108 x2.toNatClampNeg) = x1) → J E mX12_openOf (d + 1) Q 0 0 2 [some (.ref (eB E + 83)), some (.int x1), some (.int (x2 + 1))] [] h I L)))))) ∧ (¬ (((I 109 x2.toNatClampNeg) = 0) ∨ ((I 109 x2.toNatClampNeg) = 1)) → J E mX12_openOf (d + 1) Q 0 0 2 [some (.ref (eB E + 83)), some (.int x1), some (.int (x2 + 1))] [] h I L)))))) :
    J E mX12_openOf (d + 1) Q 0 0 2 [some (.ref (eB E + 83)), some (.int x1), some (.int x2)] [] h I L := by
  refine J.iload_n dX12_openOf_2 rfl rfl ?_
  refine J.aload_n dX12_openOf_3 rfl rfl ?_
  refine J.getR (r := 106) fl_X12_78 rfl dX12_openOf_4 (lt83 hs) (kk83 hs) (rr83_23 hs) ?_
  refine J.iconst (v := 0) dX12_openOf_7 (by decide) ?_
  refine J.iald (x := I 106 0) dX12_openOf_8 (lt106 hs) (kk106 hs) (by unfold vp_in; decide) rfl ?_
  refine J.ic_ge 48 dX12_openOf_9 (by decide) (fun hc1 => ?_) (fun hc1 => ?_)
  · have hW := hW.1 hc1
    refine J.iconst (v := (-1)) dX12_openOf_48 (by decide) ?_
    exact J.reti dX12_openOf_49 rfl rfl hW
  · have hW := hW.2 hc1
    refine J.aload_n dX12_openOf_12 rfl rfl ?_
    refine J.iload_n dX12_openOf_13 rfl rfl ?_
    obtain ⟨hb2, hW⟩ := hW
    refine J.callV (M' := mX12_isOpen) (index := 272) (bc := 0) (bs := 0) (bc' := 0) (bs' := 0) (st := []) [.int x2] ml_X12_272 cv_X12_isOpen dX12_openOf_14 (lt83 hs) (kk83 hs) (by decide) rfl rfl rfl rfl (Nat.le_of_ble_eq_true rfl) (kqi (w_X12_isOpen (d := d) (Q := qi h L (fun v I' => I' = I ∧ v = bI (((I 109 x2.toNatClampNeg) = 0) ∨ ((I 109 x2.toNatClampNeg) = 1)))) hs x2 ⟨hb2, rfl, rfl, _, rfl, rfl, rfl⟩) (fun v3 I4 hv => ?_))
    rw [hv.1, hv.2]
    refine J.if_eq 42 dX12_openOf_17 (by decide) (fun hc5 => ?_) (fun hc5 => ?_)
    · have hc5 := bI_0.mp hc5
      have hW := hW.2 hc5
      refine J.iinc (v := x2 + 1) (vs' := [some (.ref (eB E + 83)), some (.int x1), some (.int (x2 + 1))]) dX12_openOf_42 rfl (by rfl) (by decide) rfl ?_
      refine J.goto 2 dX12_openOf_45 (by decide) ?_
      exact hW
    · have hc5 := bI_n0.mp hc5
      have hW := hW.1 hc5
      refine J.aload_n dX12_openOf_20 rfl rfl ?_
      refine J.getR (r := 107) fl_X12_81 rfl dX12_openOf_21 (lt83 hs) (kk83 hs) (rr83_24 hs) ?_
      refine J.iload_n dX12_openOf_24 rfl rfl ?_
      obtain ⟨hb6, hW⟩ := hW
      refine J.iald (x := I 107 x2.toNatClampNeg) dX12_openOf_25 (lt107 hs) (kk107 hs) hb6 rfl ?_
      refine J.iload_n dX12_openOf_26 rfl rfl ?_
      refine J.ic_eq 40 dX12_openOf_27 (by decide) (fun hc7 => ?_) (fun hc7 => ?_)
      · have hW := hW.1 hc7
        refine J.iload_n dX12_openOf_40 rfl rfl ?_
        exact J.reti dX12_openOf_41 rfl rfl hW
      · have hW := hW.2 hc7
        refine J.aload_n dX12_openOf_30 rfl rfl ?_
        refine J.getR (r := 108) fl_X12_84 rfl dX12_openOf_31 (lt83 hs) (kk83 hs) (rr83_25 hs) ?_
        refine J.iload_n dX12_openOf_34 rfl rfl ?_
        refine J.iald (x := I 108 x2.toNatClampNeg) dX12_openOf_35 (lt108 hs) (kk108 hs) hb6 rfl ?_
        refine J.iload_n dX12_openOf_36 rfl rfl ?_
        refine J.ic_ne 42 dX12_openOf_37 (by decide) (fun hc8 => ?_) (fun hc8 => ?_)
        · have hW := hW.2 hc8
          refine J.iinc (v := x2 + 1) (vs' := [some (.ref (eB E + 83)), some (.int x1), some (.int (x2 + 1))]) dX12_openOf_42 rfl (by rfl) (by decide) rfl ?_
          refine J.goto 2 dX12_openOf_45 (by decide) ?_
          exact hW
        · have hW := hW.1 hc8
          refine J.iload_n dX12_openOf_40 rfl rfl ?_
          exact J.reti dX12_openOf_41 rfl rfl hW
set_option maxRecDepth 100000 in
set_option maxHeartbeats 4000000 in
theorem w_X12_comes {E : Envt} {d : Nat} {Q : Pst} {h : mS} {I : mI} {L : mL} (hs : SL h) (x1 : Int32) (x2 : Int32) 
    (hW : (vp_in x1 120 ∧ Q none h (uI (uI I 109 x1.toNatClampNeg x2) 114 x1.toNatClampNeg (I 88 0)) L)) :
    CT E mX12_comes d 0 0 [.ref (eB E + 83), .int x1, .int x2] h I L Q := by
  refine CT.of (by decide) [some (.ref (eB E + 83)), some (.int x1), some (.int x2)] rfl (Nat.le_of_ble_eq_true rfl) ?_
  refine J.aload_n dX12_comes_0 rfl rfl ?_
  refine J.getR (r := 109) fl_X12_87 rfl dX12_comes_1 (lt83 hs) (kk83 hs) (rr83_26 hs) ?_
  refine J.iload_n dX12_comes_4 rfl rfl ?_
  refine J.iload_n dX12_comes_5 rfl rfl ?_
  obtain ⟨hb1, hW⟩ := hW
  refine J.iast dX12_comes_6 (lt109 hs) (kk109 hs) hb1 ?_
  refine J.aload_n dX12_comes_7 rfl rfl ?_
  refine J.getR (r := 114) fl_X12_102 rfl dX12_comes_8 (lt83 hs) (kk83 hs) (rr83_31 hs) ?_
  refine J.iload_n dX12_comes_11 rfl rfl ?_
  refine J.aload_n dX12_comes_12 rfl rfl ?_
  refine J.getR (r := 88) fl_X12_23 rfl dX12_comes_13 (lt83 hs) (kk83 hs) (rr83_5 hs) ?_
  refine J.iconst (v := 0) dX12_comes_16 (by decide) ?_
  refine J.iald (x := I 88 0) dX12_comes_17 (lt88 hs) (kk88 hs) (by unfold vp_in; decide) rfl ?_
  refine J.iast dX12_comes_18 (lt114 hs) (kk114 hs) hb1 ?_
  exact J.retv dX12_comes_19 rfl hW
set_option maxRecDepth 100000 in
set_option maxHeartbeats 4000000 in
theorem w_X12_die {E : Envt} {d : Nat} {Q : Pst} {h : mS} {I : mI} {L : mL} (hs : SL h) (x1 : Int32) 
    (hW : (((¬ (x1 < 0) ∧ (¬ ((((uI I 83 0 0) 95 0) - 1) < x1))) → (vp_in x1 80 ∧ ((((I 100 x1.toNatClampNeg) = 0) → (∀ y6 : Int32, y6 = I 101 x1.toNatClampNeg → (((y6 = (-1)) → (CT E mX12_openOf (d + 1) 0 0 [.ref (eB E + 83), .int x1] h (uI (uI I 83 0 0) 100 x1.toNatClampNeg 1) L (qi h L fun r9 I8 => (((r9 = (-1)) → Q (some (.int 1)) h I8 L) ∧ (¬ (r9 = (-1)) → (CT E mX12_comes (d + 1) 0 0 [.ref (eB E + 83), .int r9, .int 4] h I8 L (qv h L fun I11 => Q (some (.int 1)) h I11 L))))))) ∧ (¬ (y6 = (-1)) → (vp_in y6 80 ∧ (CT E mX12_openOf (d + 1) 0 0 [.ref (eB E + 83), .int x1] h (uI (uI (uI (uI (uI I 83 0 0) 100 x1.toNatClampNeg 1) 101 y6.toNatClampNeg (-1)) 101 x1.toNatClampNeg (-1)) 102 y6.toNatClampNeg (bI ((I 97 y6.toNatClampNeg) = 0))) L (qi h L fun r15 I14 => (((r15 = (-1)) → Q (some (.int 1)) h I14 L) ∧ (¬ (r15 = (-1)) → (CT E mX12_comes (d + 1) 0 0 [.ref (eB E + 83), .int r15, .int 4] h I14 L (qv h L fun I17 => Q (some (.int 1)) h I17 L))))))))))) ∧ (¬ ((I 100 x1.toNatClampNeg) = 0) → Q (some (.int 0)) h (uI I 83 0 0) L)))) ∧ (¬ (¬ (x1 < 0) ∧ (¬ ((((uI I 83 0 0) 95 0) - 1) < x1))) → Q (some (.int 0)) h (uI I 83 0 0) L))) :
    CT E mX12_die (d + 2) 0 0 [.ref (eB E + 83), .int x1] h I L Q := by
  refine CT.of (by decide) [some (.ref (eB E + 83)), some (.int x1), none, none] rfl (Nat.le_of_ble_eq_true rfl) ?_
  refine J.aload_n dX12_die_0 rfl rfl ?_
  refine J.iconst (v := 0) dX12_die_1 (by decide) ?_
  refine J.putI fw_X12_202 rfl dX12_die_2 (lt83 hs) (kk83 hs) ?_
  refine J.aload_n dX12_die_5 rfl rfl ?_
  refine J.iload_n dX12_die_6 rfl rfl ?_
  refine J.callV (M' := mX12_isPerson) (index := 222) (bc := 0) (bs := 0) (bc' := 0) (bs' := 0) (st := []) [.int x1] ml_X12_222 cv_X12_isPerson dX12_die_7 (lt83 hs) (kk83 hs) (by decide) rfl rfl rfl rfl (Nat.le_of_ble_eq_true rfl) (kqi (w_X12_isPerson (d := d) (Q := qi h L (fun v I' => I' = (uI I 83 0 0) ∧ v = bI (¬ (x1 < 0) ∧ (¬ ((((uI I 83 0 0) 95 0) - 1) < x1))))) hs x1 ⟨rfl, rfl, _, rfl, rfl, rfl⟩) (fun v1 I2 hv => ?_))
  rw [hv.1, hv.2]
  refine J.if_eq 22 dX12_die_10 (by decide) (fun hc3 => ?_) (fun hc3 => ?_)
  · have hc3 := bI_0.mp hc3
    have hW := hW.2 hc3
    refine J.iconst (v := 0) dX12_die_22 (by decide) ?_
    exact J.reti dX12_die_23 rfl (bz_nar (Or.inl rfl)) hW
  · have hc3 := bI_n0.mp hc3
    have hW := hW.1 hc3
    refine J.aload_n dX12_die_13 rfl rfl ?_
    refine J.getR (r := 100) fl_X12_59 rfl dX12_die_14 (lt83 hs) (kk83 hs) (rr83_17 hs) ?_
    refine J.iload_n dX12_die_17 rfl rfl ?_
    obtain ⟨hb4, hW⟩ := hW
    refine J.zald (x := I 100 x1.toNatClampNeg) dX12_die_18 (lt100 hs) (kk100 hs) hb4 rfl ?_
    refine J.if_eq 24 dX12_die_19 (by decide) (fun hc5 => ?_) (fun hc5 => ?_)
    · have hW := hW.1 hc5
      refine J.aload_n dX12_die_24 rfl rfl ?_
      refine J.getR (r := 100) fl_X12_59 rfl dX12_die_25 (lt83 hs) (kk83 hs) (rr83_17 hs) ?_
      refine J.iload_n dX12_die_28 rfl rfl ?_
      refine J.iconst (v := 1) dX12_die_29 (by decide) ?_
      refine J.zast dX12_die_30 (lt100 hs) (kk100 hs) hb4 (Or.inr rfl) ?_
      refine J.aload_n dX12_die_31 rfl rfl ?_
      refine J.getR (r := 101) fl_X12_63 rfl dX12_die_32 (lt83 hs) (kk83 hs) (rr83_18 hs) ?_
      refine J.iload_n dX12_die_35 rfl rfl ?_
      refine J.iald (x := I 101 x1.toNatClampNeg) dX12_die_36 (lt101 hs) (kk101 hs) hb4 rfl ?_
      refine J.topi (fun y6 hyy6 => ?_)
      have hW := hW y6 hyy6
      refine J.istore_n (vs' := [some (.ref (eB E + 83)), some (.int x1), some (.int y6), none]) dX12_die_37 rfl (by decide) rfl ?_
      refine J.iload_n dX12_die_38 rfl rfl ?_
      refine J.iconst (v := (-1)) dX12_die_39 (by decide) ?_
      refine J.ic_eq 77 dX12_die_40 (by decide) (fun hc7 => ?_) (fun hc7 => ?_)
      · have hW := hW.1 hc7
        refine J.aload_n dX12_die_77 rfl rfl ?_
        refine J.iload_n dX12_die_78 rfl rfl ?_
        refine J.callV (M' := mX12_openOf) (index := 245) (bc := 0) (bs := 0) (bc' := 0) (bs' := 0) (st := []) [.int x1] ml_X12_245 cv_X12_openOf dX12_die_79 (lt83 hs) (kk83 hs) (by decide) rfl rfl rfl rfl (Nat.le_of_ble_eq_true rfl) (kqi hW (fun r9 I8 hW => ?_))
        refine J.istore_n (vs' := [some (.ref (eB E + 83)), some (.int x1), some (.int y6), some (.int r9)]) dX12_die_82 rfl (by decide) rfl ?_
        refine J.iload_n dX12_die_83 rfl rfl ?_
        refine J.iconst (v := (-1)) dX12_die_84 (by decide) ?_
        refine J.ic_eq 94 dX12_die_85 (by decide) (fun hc10 => ?_) (fun hc10 => ?_)
        · have hW := hW.1 hc10
          refine J.iconst (v := 1) dX12_die_94 (by decide) ?_
          exact J.reti dX12_die_95 rfl (bz_nar (Or.inr rfl)) hW
        · have hW := hW.2 hc10
          refine J.aload_n dX12_die_88 rfl rfl ?_
          refine J.iload_n dX12_die_89 rfl rfl ?_
          refine J.iconst (v := 4) dX12_die_90 (by decide) ?_
          refine J.callV (M' := mX12_comes) (index := 249) (bc := 0) (bs := 0) (bc' := 0) (bs' := 0) (st := []) [.int r9, .int 4] ml_X12_249 cv_X12_comes dX12_die_91 (lt83 hs) (kk83 hs) (by decide) rfl rfl rfl rfl (Nat.le_of_ble_eq_true rfl) (kqv hW (fun I11 hW => ?_))
          refine J.iconst (v := 1) dX12_die_94 (by decide) ?_
          exact J.reti dX12_die_95 rfl (bz_nar (Or.inr rfl)) hW
      · have hW := hW.2 hc7
        refine J.aload_n dX12_die_43 rfl rfl ?_
        refine J.getR (r := 101) fl_X12_63 rfl dX12_die_44 (lt83 hs) (kk83 hs) (rr83_18 hs) ?_
        refine J.iload_n dX12_die_47 rfl rfl ?_
        refine J.iconst (v := (-1)) dX12_die_48 (by decide) ?_
        obtain ⟨hb12, hW⟩ := hW
        refine J.iast dX12_die_49 (lt101 hs) (kk101 hs) hb12 ?_
        refine J.aload_n dX12_die_50 rfl rfl ?_
        refine J.getR (r := 101) fl_X12_63 rfl dX12_die_51 (lt83 hs) (kk83 hs) (rr83_18 hs) ?_
        refine J.iload_n dX12_die_54 rfl rfl ?_
        refine J.iconst (v := (-1)) dX12_die_55 (by decide) ?_
        refine J.iast dX12_die_56 (lt101 hs) (kk101 hs) hb4 ?_
        refine J.aload_n dX12_die_57 rfl rfl ?_
        refine J.getR (r := 102) fl_X12_66 rfl dX12_die_58 (lt83 hs) (kk83 hs) (rr83_19 hs) ?_
        refine J.iload_n dX12_die_61 rfl rfl ?_
        refine J.aload_n dX12_die_62 rfl rfl ?_
        refine J.getR (r := 97) fl_X12_50 rfl dX12_die_63 (lt83 hs) (kk83 hs) (rr83_14 hs) ?_
        refine J.iload_n dX12_die_66 rfl rfl ?_
        refine J.iald (x := I 97 y6.toNatClampNeg) dX12_die_67 (lt97 hs) (kk97 hs) hb12 rfl ?_
        have hj : J E mX12_die (d + 2) Q 0 0 76 [some (.ref (eB E + 83)), some (.int x1), some (.int y6), none] [.int (bI ((I 97 y6.toNatClampNeg) = 0)), .int y6, .ref (eB E + 102)] h (uI (uI (uI (uI I 83 0 0) 100 x1.toNatClampNeg 1) 101 y6.toNatClampNeg (-1)) 101 x1.toNatClampNeg (-1)) L := by
          refine J.zast dX12_die_76 (lt102 hs) (kk102 hs) hb12 (bI_bz _) ?_
          refine J.aload_n dX12_die_77 rfl rfl ?_
          refine J.iload_n dX12_die_78 rfl rfl ?_
          refine J.callV (M' := mX12_openOf) (index := 245) (bc := 0) (bs := 0) (bc' := 0) (bs' := 0) (st := []) [.int x1] ml_X12_245 cv_X12_openOf dX12_die_79 (lt83 hs) (kk83 hs) (by decide) rfl rfl rfl rfl (Nat.le_of_ble_eq_true rfl) (kqi hW (fun r15 I14 hW => ?_))
          refine J.istore_n (vs' := [some (.ref (eB E + 83)), some (.int x1), some (.int y6), some (.int r15)]) dX12_die_82 rfl (by decide) rfl ?_
          refine J.iload_n dX12_die_83 rfl rfl ?_
          refine J.iconst (v := (-1)) dX12_die_84 (by decide) ?_
          refine J.ic_eq 94 dX12_die_85 (by decide) (fun hc16 => ?_) (fun hc16 => ?_)
          · have hW := hW.1 hc16
            refine J.iconst (v := 1) dX12_die_94 (by decide) ?_
            exact J.reti dX12_die_95 rfl (bz_nar (Or.inr rfl)) hW
          · have hW := hW.2 hc16
            refine J.aload_n dX12_die_88 rfl rfl ?_
            refine J.iload_n dX12_die_89 rfl rfl ?_
            refine J.iconst (v := 4) dX12_die_90 (by decide) ?_
            refine J.callV (M' := mX12_comes) (index := 249) (bc := 0) (bs := 0) (bc' := 0) (bs' := 0) (st := []) [.int r15, .int 4] ml_X12_249 cv_X12_comes dX12_die_91 (lt83 hs) (kk83 hs) (by decide) rfl rfl rfl rfl (Nat.le_of_ble_eq_true rfl) (kqv hW (fun I17 hW => ?_))
            refine J.iconst (v := 1) dX12_die_94 (by decide) ?_
            exact J.reti dX12_die_95 rfl (bz_nar (Or.inr rfl)) hW
        refine J.if_ne 75 dX12_die_68 (by decide) (fun hc13 => ?_) (fun hc13 => ?_)
        · refine J.iconst (v := 0) dX12_die_75 (by decide) ?_
          rw [show bI ((I 97 y6.toNatClampNeg) = 0) = 0 from bI_f (by simp only [eq_false hc13, and_true, true_and, and_false, false_and, or_true, true_or, or_false, false_or, not_true_eq_false, not_false_eq_true])] at hj
          exact hj
        · refine J.iconst (v := 1) dX12_die_71 (by decide) ?_
          refine J.goto 76 dX12_die_72 (by decide) ?_
          rw [show bI ((I 97 y6.toNatClampNeg) = 0) = 1 from bI_t (by simp only [eq_true hc13, and_true, true_and, and_false, false_and, or_true, true_or, or_false, false_or, not_true_eq_false, not_false_eq_true])] at hj
          exact hj
    · have hW := hW.2 hc5
      refine J.iconst (v := 0) dX12_die_22 (by decide) ?_
      exact J.reti dX12_die_23 rfl (bz_nar (Or.inl rfl)) hW
set_option maxRecDepth 100000 in
set_option maxHeartbeats 4000000 in
theorem w_X12_year {E : Envt} {d : Nat} {Q : Pst} {h : mS} {I : mI} {L : mL} (hs : SL h)  
    (hW : ((((I 88 0) = 300) → Q (some (.int (-1))) h (uI I 83 0 0) L) ∧ (¬ ((I 88 0) = 300) → Q (some (.int ((I 88 0) + 1))) h (uI (uI I 83 0 0) 88 0 ((I 88 0) + 1)) L))) :
    CT E mX12_year d 0 0 [.ref (eB E + 83)] h I L Q := by
  refine CT.of (by decide) [some (.ref (eB E + 83))] rfl (Nat.le_of_ble_eq_true rfl) ?_
  refine J.aload_n dX12_year_0 rfl rfl ?_
  refine J.iconst (v := 0) dX12_year_1 (by decide) ?_
  refine J.putI fw_X12_202 rfl dX12_year_2 (lt83 hs) (kk83 hs) ?_
  refine J.aload_n dX12_year_5 rfl rfl ?_
  refine J.getR (r := 88) fl_X12_23 rfl dX12_year_6 (lt83 hs) (kk83 hs) (rr83_5 hs) ?_
  refine J.iconst (v := 0) dX12_year_9 (by decide) ?_
  refine J.iald (x := I 88 0) dX12_year_10 (lt88 hs) (kk88 hs) (by unfold vp_in; decide) rfl ?_
  refine J.sipush (v := 300) dX12_year_11 (by decide) ?_
  refine J.ic_ne 19 dX12_year_14 (by decide) (fun hc1 => ?_) (fun hc1 => ?_)
  · have hW := hW.2 hc1
    refine J.aload_n dX12_year_19 rfl rfl ?_
    refine J.getR (r := 88) fl_X12_23 rfl dX12_year_20 (lt83 hs) (kk83 hs) (rr83_5 hs) ?_
    refine J.iconst (v := 0) dX12_year_23 (by decide) ?_
    refine J.dup2 dX12_year_24 rfl rfl ?_
    refine J.iald (x := I 88 0) dX12_year_25 (lt88 hs) (kk88 hs) (by unfold vp_in; decide) rfl ?_
    refine J.iconst (v := 1) dX12_year_26 (by decide) ?_
    refine J.iadd dX12_year_27 ?_
    refine J.iast dX12_year_28 (lt88 hs) (kk88 hs) (by unfold vp_in; decide) ?_
    refine J.aload_n dX12_year_29 rfl rfl ?_
    refine J.getR (r := 88) fl_X12_23 rfl dX12_year_30 (lt83 hs) (kk83 hs) (rr83_5 hs) ?_
    refine J.iconst (v := 0) dX12_year_33 (by decide) ?_
    refine J.iald (x := (I 88 0) + 1) dX12_year_34 (lt88 hs) (kk88 hs) (by unfold vp_in; decide) (by simp [uI]) ?_
    exact J.reti dX12_year_35 rfl rfl hW
  · have hW := hW.1 hc1
    refine J.iconst (v := (-1)) dX12_year_17 (by decide) ?_
    exact J.reti dX12_year_18 rfl rfl hW
set_option maxRecDepth 100000 in
set_option maxHeartbeats 4000000 in
theorem w_X12_findParents {E : Envt} {d : Nat} {Q : Pst} {h : mS} {I : mI} {L : mL} (hs : SL h) (x1 : Int32) (x2 : Int32) 
    (hW : J E mX12_findParents (d + 1) Q 0 0 2 [some (.ref (eB E + 83)), some (.int x1), some (.int x2), some (.int 0), none, none] [] h I L) :
    CT E mX12_findParents (d + 1) 0 0 [.ref (eB E + 83), .int x1, .int x2] h I L Q := by
  refine CT.of (by decide) [some (.ref (eB E + 83)), some (.int x1), some (.int x2), none, none, none] rfl (Nat.le_of_ble_eq_true rfl) ?_
  refine J.iconst (v := 0) dX12_findParents_0 (by decide) ?_
  refine J.istore_n (vs' := [some (.ref (eB E + 83)), some (.int x1), some (.int x2), some (.int 0), none, none]) dX12_findParents_1 rfl (by decide) rfl ?_
  exact hW
set_option maxRecDepth 100000 in
set_option maxHeartbeats 4000000 in
theorem w_X12_findParents_2 {E : Envt} {d : Nat} {Q : Pst} {h : mS} {I : mI} {L : mL} (hs : SL h)    (x1 : Int32) (x2 : Int32) (x3 : Int32)
    (hW : (((40 ≤ x3) → (CT E mX12_findTakes d 0 0 [.ref (eB E + 83), .int x1] h I L (qv h L fun I2 => J E mX12_findParents (d + 1) Q 0 0 28 [some (.ref (eB E + 83)), some (.int x1), some (.int x2), some (.int 0), none, none] [] h I2 L))) ∧ (¬ (40 ≤ x3) → (vp_in x3 40 ∧ J E mX12_findParents (d + 1) Q 0 0 2 [some (.ref (eB E + 83)), some (.int x1), some (.int x2), some (.int (x3 + 1)), none, none] [] h (uI I 124 x3.toNatClampNeg (-1)) L)))) :
    J E mX12_findParents (d + 1) Q 0 0 2 [some (.ref (eB E + 83)), some (.int x1), some (.int x2), some (.int x3), none, none] [] h I L := by
  refine J.iload_n dX12_findParents_2 rfl rfl ?_
  refine J.bipush (v := 40) dX12_findParents_3 (by decide) ?_
  refine J.ic_ge 21 dX12_findParents_5 (by decide) (fun hc1 => ?_) (fun hc1 => ?_)
  · have hW := hW.1 hc1
    refine J.aload_n dX12_findParents_21 rfl rfl ?_
    refine J.iload_n dX12_findParents_22 rfl rfl ?_
    refine J.callV (M' := mX12_findTakes) (index := 241) (bc := 0) (bs := 0) (bc' := 0) (bs' := 0) (st := []) [.int x1] ml_X12_241 cv_X12_findTakes dX12_findParents_23 (lt83 hs) (kk83 hs) (by decide) rfl rfl rfl rfl (Nat.le_of_ble_eq_true rfl) (kqv hW (fun I2 hW => ?_))
    refine J.iconst (v := 0) dX12_findParents_26 (by decide) ?_
    refine J.istore_n (vs' := [some (.ref (eB E + 83)), some (.int x1), some (.int x2), some (.int 0), none, none]) dX12_findParents_27 rfl (by decide) rfl ?_
    exact hW
  · have hW := hW.2 hc1
    refine J.aload_n dX12_findParents_8 rfl rfl ?_
    refine J.getR (r := 124) fl_X12_132 rfl dX12_findParents_9 (lt83 hs) (kk83 hs) (rr83_41 hs) ?_
    refine J.iload_n dX12_findParents_12 rfl rfl ?_
    refine J.iconst (v := (-1)) dX12_findParents_13 (by decide) ?_
    obtain ⟨hb3, hW⟩ := hW
    refine J.iast dX12_findParents_14 (lt124 hs) (kk124 hs) hb3 ?_
    refine J.iinc (v := x3 + 1) (vs' := [some (.ref (eB E + 83)), some (.int x1), some (.int x2), some (.int (x3 + 1)), none, none]) dX12_findParents_15 rfl (by rfl) (by decide) rfl ?_
    refine J.goto 2 dX12_findParents_18 (by decide) ?_
    exact hW
set_option maxRecDepth 100000 in
set_option maxHeartbeats 4000000 in
theorem w_X12_findParents_28 {E : Envt} {d : Nat} {Q : Pst} {h : mS} {I : mI} {L : mL} (hs : SL h)    (x1 : Int32) (x2 : Int32) (x3 : Int32)
    (hW : ((((I 104 0) ≤ x3) → Q none h I L) ∧ (¬ ((I 104 0) ≤ x3) → (vp_in ((4 * x3) + 2) 960 ∧ (vp_in (I 105 (((4 * x3) + 2).toNatClampNeg)) 5 ∧ (∀ y4 : Int32, y4 = I 123 ((I 105 (((4 * x3) + 2).toNatClampNeg)).toNatClampNeg) → (((1000 ≤ y4) → J E mX12_findParents (d + 1) Q 0 0 28 [some (.ref (eB E + 83)), some (.int x1), some (.int x2), some (.int (x3 + 1)), none, none] [] h I L) ∧ (¬ (1000 ≤ y4) → (vp_in ((4 * x3) + 3) 960 ∧ (((x2 < ((I 105 (((4 * x3) + 3).toNatClampNeg)) + y4)) → J E mX12_findParents (d + 1) Q 0 0 28 [some (.ref (eB E + 83)), some (.int x1), some (.int x2), some (.int (x3 + 1)), none, none] [] h I L) ∧ (¬ (x2 < ((I 105 (((4 * x3) + 3).toNatClampNeg)) + y4)) → (vp_in (4 * x3) 960 ∧ (vp_in ((4 * x3) + 1) 960 ∧ (vp_in (I 105 (((4 * x3) + 1).toNatClampNeg)) 80 ∧ (vp_in ((2 * (I 105 ((4 * x3).toNatClampNeg))) + (I 97 ((I 105 (((4 * x3) + 1).toNatClampNeg)).toNatClampNeg))) 40 ∧ J E mX12_findParents (d + 1) Q 0 0 28 [some (.ref (eB E + 83)), some (.int x1), some (.int x2), some (.int (x3 + 1)), none, none] [] h (uI I 124 (((2 * (I 105 ((4 * x3).toNatClampNeg))) + (I 97 ((I 105 (((4 * x3) + 1).toNatClampNeg)).toNatClampNeg))).toNatClampNeg) (I 105 (((4 * x3) + 1).toNatClampNeg))) L))))))))))))))) :
    J E mX12_findParents (d + 1) Q 0 0 28 [some (.ref (eB E + 83)), some (.int x1), some (.int x2), some (.int x3), none, none] [] h I L := by
  refine J.iload_n dX12_findParents_28 rfl rfl ?_
  refine J.aload_n dX12_findParents_29 rfl rfl ?_
  refine J.getR (r := 104) fl_X12_72 rfl dX12_findParents_30 (lt83 hs) (kk83 hs) (rr83_21 hs) ?_
  refine J.iconst (v := 0) dX12_findParents_33 (by decide) ?_
  refine J.iald (x := I 104 0) dX12_findParents_34 (lt104 hs) (kk104 hs) (by unfold vp_in; decide) rfl ?_
  refine J.ic_ge 127 dX12_findParents_35 (by decide) (fun hc1 => ?_) (fun hc1 => ?_)
  · have hW := hW.1 hc1
    exact J.retv dX12_findParents_127 rfl hW
  · have hW := hW.2 hc1
    refine J.iconst (v := 4) dX12_findParents_38 (by decide) ?_
    refine J.iload_n dX12_findParents_39 rfl rfl ?_
    refine J.imul dX12_findParents_40 ?_
    refine J.istore (vs' := [some (.ref (eB E + 83)), some (.int x1), some (.int x2), some (.int x3), some (.int (4 * x3)), none]) dX12_findParents_41 (by decide) rfl ?_
    refine J.aload_n dX12_findParents_43 rfl rfl ?_
    refine J.getR (r := 123) fl_X12_129 rfl dX12_findParents_44 (lt83 hs) (kk83 hs) (rr83_40 hs) ?_
    refine J.aload_n dX12_findParents_47 rfl rfl ?_
    refine J.getR (r := 105) fl_X12_75 rfl dX12_findParents_48 (lt83 hs) (kk83 hs) (rr83_22 hs) ?_
    refine J.iload dX12_findParents_51 rfl ?_
    refine J.iconst (v := 2) dX12_findParents_53 (by decide) ?_
    refine J.iadd dX12_findParents_54 ?_
    obtain ⟨hb2, hW⟩ := hW
    refine J.iald (x := I 105 (((4 * x3) + 2).toNatClampNeg)) dX12_findParents_55 (lt105 hs) (kk105 hs) hb2 rfl ?_
    obtain ⟨hb3, hW⟩ := hW
    refine J.iald (x := I 123 ((I 105 (((4 * x3) + 2).toNatClampNeg)).toNatClampNeg)) dX12_findParents_56 (lt123 hs) (kk123 hs) hb3 rfl ?_
    refine J.topi (fun y4 hyy4 => ?_)
    have hW := hW y4 hyy4
    refine J.istore (vs' := [some (.ref (eB E + 83)), some (.int x1), some (.int x2), some (.int x3), some (.int (4 * x3)), some (.int y4)]) dX12_findParents_57 (by decide) rfl ?_
    refine J.iload dX12_findParents_59 rfl ?_
    refine J.sipush (v := 1000) dX12_findParents_61 (by decide) ?_
    refine J.ic_ge 121 dX12_findParents_64 (by decide) (fun hc5 => ?_) (fun hc5 => ?_)
    · have hW := hW.1 hc5
      refine J.iinc (v := x3 + 1) (vs' := [some (.ref (eB E + 83)), some (.int x1), some (.int x2), some (.int (x3 + 1)), some (.int (4 * x3)), some (.int y4)]) dX12_findParents_121 rfl (by rfl) (by decide) rfl ?_
      refine J.goto 28 dX12_findParents_124 (by decide) ?_
      exact J.mask [true, true, true, true, false, false] rfl hW
    · have hW := hW.2 hc5
      refine J.aload_n dX12_findParents_67 rfl rfl ?_
      refine J.getR (r := 105) fl_X12_75 rfl dX12_findParents_68 (lt83 hs) (kk83 hs) (rr83_22 hs) ?_
      refine J.iload dX12_findParents_71 rfl ?_
      refine J.iconst (v := 3) dX12_findParents_73 (by decide) ?_
      refine J.iadd dX12_findParents_74 ?_
      obtain ⟨hb6, hW⟩ := hW
      refine J.iald (x := I 105 (((4 * x3) + 3).toNatClampNeg)) dX12_findParents_75 (lt105 hs) (kk105 hs) hb6 rfl ?_
      refine J.iload dX12_findParents_76 rfl ?_
      refine J.iadd dX12_findParents_78 ?_
      refine J.iload_n dX12_findParents_79 rfl rfl ?_
      refine J.ic_gt 121 dX12_findParents_80 (by decide) (fun hc7 => ?_) (fun hc7 => ?_)
      · have hW := hW.1 hc7
        refine J.iinc (v := x3 + 1) (vs' := [some (.ref (eB E + 83)), some (.int x1), some (.int x2), some (.int (x3 + 1)), some (.int (4 * x3)), some (.int y4)]) dX12_findParents_121 rfl (by rfl) (by decide) rfl ?_
        refine J.goto 28 dX12_findParents_124 (by decide) ?_
        exact J.mask [true, true, true, true, false, false] rfl hW
      · have hW := hW.2 hc7
        refine J.aload_n dX12_findParents_83 rfl rfl ?_
        refine J.getR (r := 124) fl_X12_132 rfl dX12_findParents_84 (lt83 hs) (kk83 hs) (rr83_41 hs) ?_
        refine J.iconst (v := 2) dX12_findParents_87 (by decide) ?_
        refine J.aload_n dX12_findParents_88 rfl rfl ?_
        refine J.getR (r := 105) fl_X12_75 rfl dX12_findParents_89 (lt83 hs) (kk83 hs) (rr83_22 hs) ?_
        refine J.iload dX12_findParents_92 rfl ?_
        obtain ⟨hb8, hW⟩ := hW
        refine J.iald (x := I 105 ((4 * x3).toNatClampNeg)) dX12_findParents_94 (lt105 hs) (kk105 hs) hb8 rfl ?_
        refine J.imul dX12_findParents_95 ?_
        refine J.aload_n dX12_findParents_96 rfl rfl ?_
        refine J.getR (r := 97) fl_X12_50 rfl dX12_findParents_97 (lt83 hs) (kk83 hs) (rr83_14 hs) ?_
        refine J.aload_n dX12_findParents_100 rfl rfl ?_
        refine J.getR (r := 105) fl_X12_75 rfl dX12_findParents_101 (lt83 hs) (kk83 hs) (rr83_22 hs) ?_
        refine J.iload dX12_findParents_104 rfl ?_
        refine J.iconst (v := 1) dX12_findParents_106 (by decide) ?_
        refine J.iadd dX12_findParents_107 ?_
        obtain ⟨hb9, hW⟩ := hW
        refine J.iald (x := I 105 (((4 * x3) + 1).toNatClampNeg)) dX12_findParents_108 (lt105 hs) (kk105 hs) hb9 rfl ?_
        obtain ⟨hb10, hW⟩ := hW
        refine J.iald (x := I 97 ((I 105 (((4 * x3) + 1).toNatClampNeg)).toNatClampNeg)) dX12_findParents_109 (lt97 hs) (kk97 hs) hb10 rfl ?_
        refine J.iadd dX12_findParents_110 ?_
        refine J.aload_n dX12_findParents_111 rfl rfl ?_
        refine J.getR (r := 105) fl_X12_75 rfl dX12_findParents_112 (lt83 hs) (kk83 hs) (rr83_22 hs) ?_
        refine J.iload dX12_findParents_115 rfl ?_
        refine J.iconst (v := 1) dX12_findParents_117 (by decide) ?_
        refine J.iadd dX12_findParents_118 ?_
        refine J.iald (x := I 105 (((4 * x3) + 1).toNatClampNeg)) dX12_findParents_119 (lt105 hs) (kk105 hs) hb9 rfl ?_
        obtain ⟨hb11, hW⟩ := hW
        refine J.iast dX12_findParents_120 (lt124 hs) (kk124 hs) hb11 ?_
        refine J.iinc (v := x3 + 1) (vs' := [some (.ref (eB E + 83)), some (.int x1), some (.int x2), some (.int (x3 + 1)), some (.int (4 * x3)), some (.int y4)]) dX12_findParents_121 rfl (by rfl) (by decide) rfl ?_
        refine J.goto 28 dX12_findParents_124 (by decide) ?_
        exact J.mask [true, true, true, true, false, false] rfl hW
set_option maxRecDepth 100000 in
set_option maxHeartbeats 4000000 in
theorem w_X12_findUp {E : Envt} {d : Nat} {Q : Pst} {h : mS} {I : mI} {L : mL} (hs : SL h) (x1 : Int32) {a2 n2 : Nat} (hl2 : a2 < h.2.2) (hk2 : h.1 a2 = (14, n2))
    (hW : J E mX12_findUp d Q 0 0 2 [some (.ref (eB E + 83)), some (.int x1), some (.ref (eB E + a2)), some (.int 0), none, none, none] [] h I L) :
    CT E mX12_findUp d 0 0 [.ref (eB E + 83), .int x1, .ref (eB E + a2)] h I L Q := by
  refine CT.of (by decide) [some (.ref (eB E + 83)), some (.int x1), some (.ref (eB E + a2)), none, none, none, none] rfl (Nat.le_of_ble_eq_true rfl) ?_
  refine J.iconst (v := 0) dX12_findUp_0 (by decide) ?_
  refine J.istore_n (vs' := [some (.ref (eB E + 83)), some (.int x1), some (.ref (eB E + a2)), some (.int 0), none, none, none]) dX12_findUp_1 rfl (by decide) rfl ?_
  exact hW
set_option maxRecDepth 100000 in
set_option maxHeartbeats 4000000 in
theorem w_X12_findUp_2 {E : Envt} {d : Nat} {Q : Pst} {h : mS} {I : mI} {L : mL} (hs : SL h) {a2 n2 : Nat} (hl2 : a2 < h.2.2) (hk2 : h.1 a2 = (14, n2))  (x1 : Int32) (x3 : Int32)
    (hW : (((20 ≤ x3) → J E mX12_findUp d Q 0 0 30 [some (.ref (eB E + 83)), some (.int x1), some (.ref (eB E + a2)), some (.int 1), none, none, none] [] h I L) ∧ (¬ (20 ≤ x3) → (vp_in x3 n2 ∧ J E mX12_findUp d Q 0 0 2 [some (.ref (eB E + 83)), some (.int x1), some (.ref (eB E + a2)), some (.int (x3 + 1)), none, none, none] [] h (uI I a2 x3.toNatClampNeg (if x3 = x1 then 0 else 99 : Int32)) L)))) :
    J E mX12_findUp d Q 0 0 2 [some (.ref (eB E + 83)), some (.int x1), some (.ref (eB E + a2)), some (.int x3), none, none, none] [] h I L := by
  refine J.iload_n dX12_findUp_2 rfl rfl ?_
  refine J.bipush (v := 20) dX12_findUp_3 (by decide) ?_
  refine J.ic_ge 28 dX12_findUp_5 (by decide) (fun hc1 => ?_) (fun hc1 => ?_)
  · have hW := hW.1 hc1
    refine J.iconst (v := 1) dX12_findUp_28 (by decide) ?_
    refine J.istore_n (vs' := [some (.ref (eB E + 83)), some (.int x1), some (.ref (eB E + a2)), some (.int 1), none, none, none]) dX12_findUp_29 rfl (by decide) rfl ?_
    exact hW
  · have hW := hW.2 hc1
    refine J.aload_n dX12_findUp_8 rfl rfl ?_
    refine J.iload_n dX12_findUp_9 rfl rfl ?_
    refine J.iload_n dX12_findUp_10 rfl rfl ?_
    refine J.iload_n dX12_findUp_11 rfl rfl ?_
    have hj : J E mX12_findUp d Q 0 0 21 [some (.ref (eB E + 83)), some (.int x1), some (.ref (eB E + a2)), some (.int x3), none, none, none] [.int (if x3 = x1 then 0 else 99 : Int32), .int x3, .ref (eB E + a2)] h I L := by
      obtain ⟨hb3, hW⟩ := hW
      refine J.iast dX12_findUp_21 hl2 hk2 hb3 ?_
      refine J.iinc (v := x3 + 1) (vs' := [some (.ref (eB E + 83)), some (.int x1), some (.ref (eB E + a2)), some (.int (x3 + 1)), none, none, none]) dX12_findUp_22 rfl (by rfl) (by decide) rfl ?_
      refine J.goto 2 dX12_findUp_25 (by decide) ?_
      exact hW
    refine J.ic_ne 19 dX12_findUp_12 (by decide) (fun hc2 => ?_) (fun hc2 => ?_)
    · refine J.bipush (v := 99) dX12_findUp_19 (by decide) ?_
      rw [show ((if x3 = x1 then 0 else 99 : Int32) = 99) from by simp only [eq_false hc2, if_true, if_false, bI_true, bI_false, and_true, true_and, and_false, false_and, or_true, true_or, or_false, false_or, not_true_eq_false, not_false_eq_true]] at hj
      exact hj
    · refine J.iconst (v := 0) dX12_findUp_15 (by decide) ?_
      refine J.goto 21 dX12_findUp_16 (by decide) ?_
      rw [show ((if x3 = x1 then 0 else 99 : Int32) = 0) from by simp only [eq_true hc2, if_true, if_false, bI_true, bI_false, and_true, true_and, and_false, false_and, or_true, true_or, or_false, false_or, not_true_eq_false, not_false_eq_true]] at hj
      exact hj
set_option maxRecDepth 100000 in
set_option maxHeartbeats 4000000 in
theorem w_X12_findUp_30 {E : Envt} {d : Nat} {Q : Pst} {h : mS} {I : mI} {L : mL} (hs : SL h) {a2 n2 : Nat} (hl2 : a2 < h.2.2) (hk2 : h.1 a2 = (14, n2))  (x1 : Int32) (x3 : Int32)
    (hW : (((x3 = 0) → Q none h I L) ∧ (¬ (x3 = 0) → J E mX12_findUp d Q 0 0 39 [some (.ref (eB E + 83)), some (.int x1), some (.ref (eB E + a2)), some (.int 0), some (.int 0), none, none] [] h I L))) :
    J E mX12_findUp d Q 0 0 30 [some (.ref (eB E + 83)), some (.int x1), some (.ref (eB E + a2)), some (.int x3), none, none, none] [] h I L := by
  refine J.iload_n dX12_findUp_30 rfl rfl ?_
  refine J.if_eq 128 dX12_findUp_31 (by decide) (fun hc1 => ?_) (fun hc1 => ?_)
  · have hW := hW.1 hc1
    exact J.retv dX12_findUp_128 rfl hW
  · have hW := hW.2 hc1
    refine J.iconst (v := 0) dX12_findUp_34 (by decide) ?_
    refine J.istore_n (vs' := [some (.ref (eB E + 83)), some (.int x1), some (.ref (eB E + a2)), some (.int 0), none, none, none]) dX12_findUp_35 rfl (by decide) rfl ?_
    refine J.iconst (v := 0) dX12_findUp_36 (by decide) ?_
    refine J.istore (vs' := [some (.ref (eB E + 83)), some (.int x1), some (.ref (eB E + a2)), some (.int 0), some (.int 0), none, none]) dX12_findUp_37 (by decide) rfl ?_
    exact hW
set_option maxRecDepth 100000 in
set_option maxHeartbeats 4000000 in
theorem w_X12_findUp_39 {E : Envt} {d : Nat} {Q : Pst} {h : mS} {I : mI} {L : mL} (hs : SL h) {a2 n2 : Nat} (hl2 : a2 < h.2.2) (hk2 : h.1 a2 = (14, n2))  (x1 : Int32) (x3 : Int32) (x4 : Int32)
    (hW : ((((I 95 0) ≤ x4) → J E mX12_findUp d Q 0 0 30 [some (.ref (eB E + 83)), some (.int x1), some (.ref (eB E + a2)), some (.int x3), none, none, none] [] h I L) ∧ (¬ ((I 95 0) ≤ x4) → J E mX12_findUp d Q 0 0 53 [some (.ref (eB E + 83)), some (.int x1), some (.ref (eB E + a2)), some (.int x3), some (.int x4), some (.int 0), none] [] h I L))) :
    J E mX12_findUp d Q 0 0 39 [some (.ref (eB E + 83)), some (.int x1), some (.ref (eB E + a2)), some (.int x3), some (.int x4), none, none] [] h I L := by
  refine J.iload dX12_findUp_39 rfl ?_
  refine J.aload_n dX12_findUp_41 rfl rfl ?_
  refine J.getR (r := 95) fl_X12_44 rfl dX12_findUp_42 (lt83 hs) (kk83 hs) (rr83_12 hs) ?_
  refine J.iconst (v := 0) dX12_findUp_45 (by decide) ?_
  refine J.iald (x := I 95 0) dX12_findUp_46 (lt95 hs) (kk95 hs) (by unfold vp_in; decide) rfl ?_
  refine J.ic_ge 125 dX12_findUp_47 (by decide) (fun hc1 => ?_) (fun hc1 => ?_)
  · have hW := hW.1 hc1
    refine J.goto 30 dX12_findUp_125 (by decide) ?_
    exact J.mask [true, true, true, true, false, false, false] rfl hW
  · have hW := hW.2 hc1
    refine J.iconst (v := 0) dX12_findUp_50 (by decide) ?_
    refine J.istore (vs' := [some (.ref (eB E + 83)), some (.int x1), some (.ref (eB E + a2)), some (.int x3), some (.int x4), some (.int 0), none]) dX12_findUp_51 (by decide) rfl ?_
    exact hW
set_option maxRecDepth 100000 in
set_option maxHeartbeats 4000000 in
theorem w_X12_findUp_53 {E : Envt} {d : Nat} {Q : Pst} {h : mS} {I : mI} {L : mL} (hs : SL h) {a2 n2 : Nat} (hl2 : a2 < h.2.2) (hk2 : h.1 a2 = (14, n2))  (x1 : Int32) (x3 : Int32) (x4 : Int32) (x5 : Int32)
    (hW : (((2 ≤ x5) → J E mX12_findUp d Q 0 0 39 [some (.ref (eB E + 83)), some (.int x1), some (.ref (eB E + a2)), some (.int x3), some (.int (x4 + 1)), none, none] [] h I L) ∧ (¬ (2 ≤ x5) → (vp_in x4 n2 ∧ (((99 ≤ (I a2 x4.toNatClampNeg)) → J E mX12_findUp d Q 0 0 39 [some (.ref (eB E + 83)), some (.int x1), some (.ref (eB E + a2)), some (.int x3), some (.int (x4 + 1)), none, none] [] h I L) ∧ (¬ (99 ≤ (I a2 x4.toNatClampNeg)) → (vp_in ((2 * x4) + x5) 40 ∧ (∀ y5 : Int32, y5 = I 124 (((2 * x4) + x5).toNatClampNeg) → (((y5 = (-1)) → J E mX12_findUp d Q 0 0 53 [some (.ref (eB E + 83)), some (.int x1), some (.ref (eB E + a2)), some (.int x3), some (.int x4), some (.int (x5 + 1)), none] [] h I L) ∧ (¬ (y5 = (-1)) → (vp_in y5 n2 ∧ ((((I a2 y5.toNatClampNeg) ≤ ((I a2 x4.toNatClampNeg) + 1)) → J E mX12_findUp d Q 0 0 53 [some (.ref (eB E + 83)), some (.int x1), some (.ref (eB E + a2)), some (.int x3), some (.int x4), some (.int (x5 + 1)), none] [] h I L) ∧ (¬ ((I a2 y5.toNatClampNeg) ≤ ((I a2 x4.toNatClampNeg) + 1)) → J E mX12_findUp d Q 0 0 53 [some (.ref (eB E + 83)), some (.int x1), some (.ref (eB E + a2)), some (.int 1), some (.int x4), some (.int (x5 + 1)), none] [] h (uI I a2 y5.toNatClampNeg ((I a2 x4.toNatClampNeg) + 1)) L))))))))))))) :
    J E mX12_findUp d Q 0 0 53 [some (.ref (eB E + 83)), some (.int x1), some (.ref (eB E + a2)), some (.int x3), some (.int x4), some (.int x5), none] [] h I L := by
  refine J.iload dX12_findUp_53 rfl ?_
  refine J.iconst (v := 2) dX12_findUp_55 (by decide) ?_
  refine J.ic_ge 119 dX12_findUp_56 (by decide) (fun hc1 => ?_) (fun hc1 => ?_)
  · have hW := hW.1 hc1
    refine J.iinc (v := x4 + 1) (vs' := [some (.ref (eB E + 83)), some (.int x1), some (.ref (eB E + a2)), some (.int x3), some (.int (x4 + 1)), some (.int x5), none]) dX12_findUp_119 rfl (by rfl) (by decide) rfl ?_
    refine J.goto 39 dX12_findUp_122 (by decide) ?_
    exact J.mask [true, true, true, true, true, false, false] rfl hW
  · have hW := hW.2 hc1
    refine J.aload_n dX12_findUp_59 rfl rfl ?_
    refine J.iload dX12_findUp_60 rfl ?_
    obtain ⟨hb2, hW⟩ := hW
    refine J.iald (x := I a2 x4.toNatClampNeg) dX12_findUp_62 hl2 hk2 hb2 rfl ?_
    refine J.bipush (v := 99) dX12_findUp_63 (by decide) ?_
    refine J.ic_ge 119 dX12_findUp_65 (by decide) (fun hc3 => ?_) (fun hc3 => ?_)
    · have hW := hW.1 hc3
      refine J.iinc (v := x4 + 1) (vs' := [some (.ref (eB E + 83)), some (.int x1), some (.ref (eB E + a2)), some (.int x3), some (.int (x4 + 1)), some (.int x5), none]) dX12_findUp_119 rfl (by rfl) (by decide) rfl ?_
      refine J.goto 39 dX12_findUp_122 (by decide) ?_
      exact J.mask [true, true, true, true, true, false, false] rfl hW
    · have hW := hW.2 hc3
      refine J.aload_n dX12_findUp_68 rfl rfl ?_
      refine J.getR (r := 124) fl_X12_132 rfl dX12_findUp_69 (lt83 hs) (kk83 hs) (rr83_41 hs) ?_
      refine J.iconst (v := 2) dX12_findUp_72 (by decide) ?_
      refine J.iload dX12_findUp_73 rfl ?_
      refine J.imul dX12_findUp_75 ?_
      refine J.iload dX12_findUp_76 rfl ?_
      refine J.iadd dX12_findUp_78 ?_
      obtain ⟨hb4, hW⟩ := hW
      refine J.iald (x := I 124 (((2 * x4) + x5).toNatClampNeg)) dX12_findUp_79 (lt124 hs) (kk124 hs) hb4 rfl ?_
      refine J.topi (fun y5 hyy5 => ?_)
      have hW := hW y5 hyy5
      refine J.istore (vs' := [some (.ref (eB E + 83)), some (.int x1), some (.ref (eB E + a2)), some (.int x3), some (.int x4), some (.int x5), some (.int y5)]) dX12_findUp_80 (by decide) rfl ?_
      refine J.iload dX12_findUp_82 rfl ?_
      refine J.iconst (v := (-1)) dX12_findUp_84 (by decide) ?_
      refine J.ic_eq 113 dX12_findUp_85 (by decide) (fun hc6 => ?_) (fun hc6 => ?_)
      · have hW := hW.1 hc6
        refine J.iinc (v := x5 + 1) (vs' := [some (.ref (eB E + 83)), some (.int x1), some (.ref (eB E + a2)), some (.int x3), some (.int x4), some (.int (x5 + 1)), some (.int y5)]) dX12_findUp_113 rfl (by rfl) (by decide) rfl ?_
        refine J.goto 53 dX12_findUp_116 (by decide) ?_
        exact J.mask [true, true, true, true, true, true, false] rfl hW
      · have hW := hW.2 hc6
        refine J.aload_n dX12_findUp_88 rfl rfl ?_
        refine J.iload dX12_findUp_89 rfl ?_
        refine J.iald (x := I a2 x4.toNatClampNeg) dX12_findUp_91 hl2 hk2 hb2 rfl ?_
        refine J.iconst (v := 1) dX12_findUp_92 (by decide) ?_
        refine J.iadd dX12_findUp_93 ?_
        refine J.aload_n dX12_findUp_94 rfl rfl ?_
        refine J.iload dX12_findUp_95 rfl ?_
        obtain ⟨hb7, hW⟩ := hW
        refine J.iald (x := I a2 y5.toNatClampNeg) dX12_findUp_97 hl2 hk2 hb7 rfl ?_
        refine J.ic_ge 113 dX12_findUp_98 (by decide) (fun hc8 => ?_) (fun hc8 => ?_)
        · have hW := hW.1 hc8
          refine J.iinc (v := x5 + 1) (vs' := [some (.ref (eB E + 83)), some (.int x1), some (.ref (eB E + a2)), some (.int x3), some (.int x4), some (.int (x5 + 1)), some (.int y5)]) dX12_findUp_113 rfl (by rfl) (by decide) rfl ?_
          refine J.goto 53 dX12_findUp_116 (by decide) ?_
          exact J.mask [true, true, true, true, true, true, false] rfl hW
        · have hW := hW.2 hc8
          refine J.aload_n dX12_findUp_101 rfl rfl ?_
          refine J.iload dX12_findUp_102 rfl ?_
          refine J.aload_n dX12_findUp_104 rfl rfl ?_
          refine J.iload dX12_findUp_105 rfl ?_
          refine J.iald (x := I a2 x4.toNatClampNeg) dX12_findUp_107 hl2 hk2 hb2 rfl ?_
          refine J.iconst (v := 1) dX12_findUp_108 (by decide) ?_
          refine J.iadd dX12_findUp_109 ?_
          refine J.iast dX12_findUp_110 hl2 hk2 hb7 ?_
          refine J.iconst (v := 1) dX12_findUp_111 (by decide) ?_
          refine J.istore_n (vs' := [some (.ref (eB E + 83)), some (.int x1), some (.ref (eB E + a2)), some (.int 1), some (.int x4), some (.int x5), some (.int y5)]) dX12_findUp_112 rfl (by decide) rfl ?_
          refine J.iinc (v := x5 + 1) (vs' := [some (.ref (eB E + 83)), some (.int x1), some (.ref (eB E + a2)), some (.int 1), some (.int x4), some (.int (x5 + 1)), some (.int y5)]) dX12_findUp_113 rfl (by rfl) (by decide) rfl ?_
          refine J.goto 53 dX12_findUp_116 (by decide) ?_
          exact J.mask [true, true, true, true, true, true, false] rfl hW
