set_option maxRecDepth 100000 in
set_option maxHeartbeats 4000000 in
theorem w_X12_likingOf {E : Envt} {d : Nat} {Q : Pst} {h : mS} {I : mI} {L : mL} (hs : SL h) (x1 : Int32) (x2 : Int32) 
    (hW : (vp_in x1 80 ∧ (∀ y3 : Int32, y3 = (if (I 97 x1.toNatClampNeg) = 0 then x1 else x2 : Int32) → (∀ y5 : Int32, y5 = (if (I 97 x1.toNatClampNeg) = 0 then x2 else x1 : Int32) → (vp_in (I 96 x1.toNatClampNeg) 32 ∧ (CT E mX12_lookAt (d + 3) 0 0 [.ref (eB E + 83), .int y3, .int y5, .int (I 92 ((I 96 x1.toNatClampNeg).toNatClampNeg))] h I L (qv h L fun I7 => (vp_in x2 80 ∧ (vp_in (I7 96 x2.toNatClampNeg) 32 ∧ (CT E mX12_readBy (d + 3) 0 0 [.ref (eB E + 83), .int (5 + (I7 97 x1.toNatClampNeg))] h (uI I7 133 10 (I7 93 ((I7 96 x2.toNatClampNeg).toNatClampNeg))) L (qv h L fun I10 => Q (some (.int (I10 83 65))) h I10 L))))))))))) :
    CT E mX12_likingOf (d + 4) 0 0 [.ref (eB E + 83), .int x1, .int x2] h I L Q := by
  refine CT.of (by decide) [some (.ref (eB E + 83)), some (.int x1), some (.int x2), none, none] rfl (Nat.le_of_ble_eq_true rfl) ?_
  refine J.aload_n dX12_likingOf_0 rfl rfl ?_
  refine J.getR (r := 97) fl_X12_50 rfl dX12_likingOf_1 (lt83 hs) (kk83 hs) (rr83_14 hs) ?_
  refine J.iload_n dX12_likingOf_4 rfl rfl ?_
  obtain ⟨hb1, hW⟩ := hW
  refine J.iald (x := I 97 x1.toNatClampNeg) dX12_likingOf_5 (lt97 hs) (kk97 hs) hb1 rfl ?_
  have hj : J E mX12_likingOf (d + 4) Q 0 0 14 [some (.ref (eB E + 83)), some (.int x1), some (.int x2), none, none] [.int (if (I 97 x1.toNatClampNeg) = 0 then x1 else x2 : Int32)] h I L := by
    refine J.topi (fun y3 hyy3 => ?_)
    have hW := hW y3 hyy3
    refine J.istore_n (vs' := [some (.ref (eB E + 83)), some (.int x1), some (.int x2), some (.int y3), none]) dX12_likingOf_14 rfl (by decide) rfl ?_
    refine J.aload_n dX12_likingOf_15 rfl rfl ?_
    refine J.getR (r := 97) fl_X12_50 rfl dX12_likingOf_16 (lt83 hs) (kk83 hs) (rr83_14 hs) ?_
    refine J.iload_n dX12_likingOf_19 rfl rfl ?_
    refine J.iald (x := I 97 x1.toNatClampNeg) dX12_likingOf_20 (lt97 hs) (kk97 hs) hb1 rfl ?_
    have hj : J E mX12_likingOf (d + 4) Q 0 0 29 [some (.ref (eB E + 83)), some (.int x1), some (.int x2), some (.int y3), none] [.int (if (I 97 x1.toNatClampNeg) = 0 then x2 else x1 : Int32)] h I L := by
      refine J.topi (fun y5 hyy5 => ?_)
      have hW := hW y5 hyy5
      refine J.istore (vs' := [some (.ref (eB E + 83)), some (.int x1), some (.int x2), some (.int y3), some (.int y5)]) dX12_likingOf_29 (by decide) rfl ?_
      refine J.aload_n dX12_likingOf_31 rfl rfl ?_
      refine J.iload_n dX12_likingOf_32 rfl rfl ?_
      refine J.iload dX12_likingOf_33 rfl ?_
      refine J.aload_n dX12_likingOf_35 rfl rfl ?_
      refine J.getR (r := 92) fl_X12_35 rfl dX12_likingOf_36 (lt83 hs) (kk83 hs) (rr83_9 hs) ?_
      refine J.aload_n dX12_likingOf_39 rfl rfl ?_
      refine J.getR (r := 96) fl_X12_47 rfl dX12_likingOf_40 (lt83 hs) (kk83 hs) (rr83_13 hs) ?_
      refine J.iload_n dX12_likingOf_43 rfl rfl ?_
      refine J.iald (x := I 96 x1.toNatClampNeg) dX12_likingOf_44 (lt96 hs) (kk96 hs) hb1 rfl ?_
      obtain ⟨hb6, hW⟩ := hW
      refine J.iald (x := I 92 ((I 96 x1.toNatClampNeg).toNatClampNeg)) dX12_likingOf_45 (lt92 hs) (kk92 hs) hb6 rfl ?_
      refine J.callV (M' := mX12_lookAt) (index := 413) (bc := 0) (bs := 0) (bc' := 0) (bs' := 0) (st := []) [.int y3, .int y5, .int (I 92 ((I 96 x1.toNatClampNeg).toNatClampNeg))] ml_X12_413 cv_X12_lookAt dX12_likingOf_46 (lt83 hs) (kk83 hs) (by decide) rfl rfl rfl rfl (Nat.le_of_ble_eq_true rfl) (kqv hW (fun I7 hW => ?_))
      refine J.aload_n dX12_likingOf_49 rfl rfl ?_
      refine J.getR (r := 133) fl_X12_159 rfl dX12_likingOf_50 (lt83 hs) (kk83 hs) (rr83_61 hs) ?_
      refine J.bipush (v := 10) dX12_likingOf_53 (by decide) ?_
      refine J.aload_n dX12_likingOf_55 rfl rfl ?_
      refine J.getR (r := 93) fl_X12_38 rfl dX12_likingOf_56 (lt83 hs) (kk83 hs) (rr83_10 hs) ?_
      refine J.aload_n dX12_likingOf_59 rfl rfl ?_
      refine J.getR (r := 96) fl_X12_47 rfl dX12_likingOf_60 (lt83 hs) (kk83 hs) (rr83_13 hs) ?_
      refine J.iload_n dX12_likingOf_63 rfl rfl ?_
      obtain ⟨hb8, hW⟩ := hW
      refine J.iald (x := I7 96 x2.toNatClampNeg) dX12_likingOf_64 (lt96 hs) (kk96 hs) hb8 rfl ?_
      obtain ⟨hb9, hW⟩ := hW
      refine J.iald (x := I7 93 ((I7 96 x2.toNatClampNeg).toNatClampNeg)) dX12_likingOf_65 (lt93 hs) (kk93 hs) hb9 rfl ?_
      refine J.iast dX12_likingOf_66 (lt133 hs) (kk133 hs) (by unfold vp_in; decide) ?_
      refine J.aload_n dX12_likingOf_67 rfl rfl ?_
      refine J.iconst (v := 5) dX12_likingOf_68 (by decide) ?_
      refine J.aload_n dX12_likingOf_69 rfl rfl ?_
      refine J.getR (r := 97) fl_X12_50 rfl dX12_likingOf_70 (lt83 hs) (kk83 hs) (rr83_14 hs) ?_
      refine J.iload_n dX12_likingOf_73 rfl rfl ?_
      refine J.iald (x := I7 97 x1.toNatClampNeg) dX12_likingOf_74 (lt97 hs) (kk97 hs) hb1 rfl ?_
      refine J.iadd dX12_likingOf_75 ?_
      refine J.callV (M' := mX12_readBy) (index := 417) (bc := 0) (bs := 0) (bc' := 0) (bs' := 0) (st := []) [.int (5 + (I7 97 x1.toNatClampNeg))] ml_X12_417 cv_X12_readBy dX12_likingOf_76 (lt83 hs) (kk83 hs) (by decide) rfl rfl rfl rfl (Nat.le_of_ble_eq_true rfl) (kqv hW (fun I10 hW => ?_))
      refine J.aload_n dX12_likingOf_79 rfl rfl ?_
      refine J.getI (x := I10 83 65) fl_X12_404 rfl dX12_likingOf_80 (lt83 hs) (kk83 hs) rfl ?_
      exact J.reti dX12_likingOf_83 rfl rfl hW
    refine J.if_ne 28 dX12_likingOf_21 (by decide) (fun hc4 => ?_) (fun hc4 => ?_)
    · refine J.iload_n dX12_likingOf_28 rfl rfl ?_
      rw [show ((if (I 97 x1.toNatClampNeg) = 0 then x2 else x1 : Int32) = x1) from by simp only [eq_false hc4, if_true, if_false, bI_true, bI_false, and_true, true_and, and_false, false_and, or_true, true_or, or_false, false_or, not_true_eq_false, not_false_eq_true]] at hj
      exact hj
    · refine J.iload_n dX12_likingOf_24 rfl rfl ?_
      refine J.goto 29 dX12_likingOf_25 (by decide) ?_
      rw [show ((if (I 97 x1.toNatClampNeg) = 0 then x2 else x1 : Int32) = x2) from by simp only [eq_true hc4, if_true, if_false, bI_true, bI_false, and_true, true_and, and_false, false_and, or_true, true_or, or_false, false_or, not_true_eq_false, not_false_eq_true]] at hj
      exact hj
  refine J.if_ne 13 dX12_likingOf_6 (by decide) (fun hc2 => ?_) (fun hc2 => ?_)
  · refine J.iload_n dX12_likingOf_13 rfl rfl ?_
    rw [show ((if (I 97 x1.toNatClampNeg) = 0 then x1 else x2 : Int32) = x2) from by simp only [eq_false hc2, if_true, if_false, bI_true, bI_false, and_true, true_and, and_false, false_and, or_true, true_or, or_false, false_or, not_true_eq_false, not_false_eq_true]] at hj
    exact hj
  · refine J.iload_n dX12_likingOf_9 rfl rfl ?_
    refine J.goto 14 dX12_likingOf_10 (by decide) ?_
    rw [show ((if (I 97 x1.toNatClampNeg) = 0 then x1 else x2 : Int32) = x1) from by simp only [eq_true hc2, if_true, if_false, bI_true, bI_false, and_true, true_and, and_false, false_and, or_true, true_or, or_false, false_or, not_true_eq_false, not_false_eq_true]] at hj
    exact hj
set_option maxRecDepth 100000 in
set_option maxHeartbeats 4000000 in
theorem w_X12_liking {E : Envt} {d : Nat} {Q : Pst} {h : mS} {I : mI} {L : mL} (hs : SL h) (x1 : Int32) (x2 : Int32) 
    (hW : (((¬ (x1 < 0) ∧ (¬ ((((uI I 83 0 0) 95 0) - 1) < x1))) → (((¬ (x2 < 0) ∧ (¬ ((((uI I 83 0 0) 95 0) - 1) < x2))) → (vp_in x1 80 ∧ (vp_in x2 80 ∧ ((((I 97 x1.toNatClampNeg) = (I 97 x2.toNatClampNeg)) → Q (some (.int (-1000000))) h (uI I 83 0 0) L) ∧ (¬ ((I 97 x1.toNatClampNeg) = (I 97 x2.toNatClampNeg)) → (CT E mX12_likingOf (d + 4) 0 0 [.ref (eB E + 83), .int x1, .int x2] h (uI I 83 0 0) L (qi h L fun r11 I10 => Q (some (.int r11)) h I10 L))))))) ∧ (¬ (¬ (x2 < 0) ∧ (¬ ((((uI I 83 0 0) 95 0) - 1) < x2))) → Q (some (.int (-1000000))) h (uI I 83 0 0) L))) ∧ (¬ (¬ (x1 < 0) ∧ (¬ ((((uI I 83 0 0) 95 0) - 1) < x1))) → Q (some (.int (-1000000))) h (uI I 83 0 0) L))) :
    CT E mX12_liking (d + 5) 0 0 [.ref (eB E + 83), .int x1, .int x2] h I L Q := by
  refine CT.of (by decide) [some (.ref (eB E + 83)), some (.int x1), some (.int x2)] rfl (Nat.le_of_ble_eq_true rfl) ?_
  refine J.aload_n dX12_liking_0 rfl rfl ?_
  refine J.iconst (v := 0) dX12_liking_1 (by decide) ?_
  refine J.putI fw_X12_202 rfl dX12_liking_2 (lt83 hs) (kk83 hs) ?_
  refine J.aload_n dX12_liking_5 rfl rfl ?_
  refine J.iload_n dX12_liking_6 rfl rfl ?_
  refine J.callV (M' := mX12_isPerson) (index := 222) (bc := 0) (bs := 0) (bc' := 0) (bs' := 0) (st := []) [.int x1] ml_X12_222 cv_X12_isPerson dX12_liking_7 (lt83 hs) (kk83 hs) (by decide) rfl rfl rfl rfl (Nat.le_of_ble_eq_true rfl) (kqi (w_X12_isPerson (d := d + 3) (Q := qi h L (fun v I' => I' = (uI I 83 0 0) ∧ v = bI (¬ (x1 < 0) ∧ (¬ ((((uI I 83 0 0) 95 0) - 1) < x1))))) hs x1 ⟨rfl, rfl, _, rfl, rfl, rfl⟩) (fun v1 I2 hv => ?_))
  rw [hv.1, hv.2]
  refine J.if_eq 45 dX12_liking_10 (by decide) (fun hc3 => ?_) (fun hc3 => ?_)
  · have hc3 := bI_0.mp hc3
    have hW := hW.2 hc3
    refine J.ldcw (v := (-1000000)) dX12_liking_45 ck_X12_432 ?_
    exact J.reti dX12_liking_48 rfl rfl hW
  · have hc3 := bI_n0.mp hc3
    have hW := hW.1 hc3
    refine J.aload_n dX12_liking_13 rfl rfl ?_
    refine J.iload_n dX12_liking_14 rfl rfl ?_
    refine J.callV (M' := mX12_isPerson) (index := 222) (bc := 0) (bs := 0) (bc' := 0) (bs' := 0) (st := []) [.int x2] ml_X12_222 cv_X12_isPerson dX12_liking_15 (lt83 hs) (kk83 hs) (by decide) rfl rfl rfl rfl (Nat.le_of_ble_eq_true rfl) (kqi (w_X12_isPerson (d := d + 3) (Q := qi h L (fun v I' => I' = (uI I 83 0 0) ∧ v = bI (¬ (x2 < 0) ∧ (¬ ((((uI I 83 0 0) 95 0) - 1) < x2))))) hs x2 ⟨rfl, rfl, _, rfl, rfl, rfl⟩) (fun v4 I5 hv => ?_))
    rw [hv.1, hv.2]
    refine J.if_eq 45 dX12_liking_18 (by decide) (fun hc6 => ?_) (fun hc6 => ?_)
    · have hc6 := bI_0.mp hc6
      have hW := hW.2 hc6
      refine J.ldcw (v := (-1000000)) dX12_liking_45 ck_X12_432 ?_
      exact J.reti dX12_liking_48 rfl rfl hW
    · have hc6 := bI_n0.mp hc6
      have hW := hW.1 hc6
      refine J.aload_n dX12_liking_21 rfl rfl ?_
      refine J.getR (r := 97) fl_X12_50 rfl dX12_liking_22 (lt83 hs) (kk83 hs) (rr83_14 hs) ?_
      refine J.iload_n dX12_liking_25 rfl rfl ?_
      obtain ⟨hb7, hW⟩ := hW
      refine J.iald (x := I 97 x1.toNatClampNeg) dX12_liking_26 (lt97 hs) (kk97 hs) hb7 rfl ?_
      refine J.aload_n dX12_liking_27 rfl rfl ?_
      refine J.getR (r := 97) fl_X12_50 rfl dX12_liking_28 (lt83 hs) (kk83 hs) (rr83_14 hs) ?_
      refine J.iload_n dX12_liking_31 rfl rfl ?_
      obtain ⟨hb8, hW⟩ := hW
      refine J.iald (x := I 97 x2.toNatClampNeg) dX12_liking_32 (lt97 hs) (kk97 hs) hb8 rfl ?_
      refine J.ic_eq 45 dX12_liking_33 (by decide) (fun hc9 => ?_) (fun hc9 => ?_)
      · have hW := hW.1 hc9
        refine J.ldcw (v := (-1000000)) dX12_liking_45 ck_X12_432 ?_
        exact J.reti dX12_liking_48 rfl rfl hW
      · have hW := hW.2 hc9
        refine J.aload_n dX12_liking_36 rfl rfl ?_
        refine J.iload_n dX12_liking_37 rfl rfl ?_
        refine J.iload_n dX12_liking_38 rfl rfl ?_
        refine J.callV (M' := mX12_likingOf) (index := 429) (bc := 0) (bs := 0) (bc' := 0) (bs' := 0) (st := []) [.int x1, .int x2] ml_X12_429 cv_X12_likingOf dX12_liking_39 (lt83 hs) (kk83 hs) (by decide) rfl rfl rfl rfl (Nat.le_of_ble_eq_true rfl) (kqi hW (fun r11 I10 hW => ?_))
        refine J.goto 48 dX12_liking_42 (by decide) ?_
        exact J.reti dX12_liking_48 rfl rfl hW
set_option maxRecDepth 100000 in
set_option maxHeartbeats 4000000 in
theorem w_X12_ask {E : Envt} {d : Nat} {Q : Pst} {h : mS} {I : mI} {L : mL} (hs : SL h) (x1 : Int32) (x2 : Int32) 
    (hW : ((((I 106 0) = 30) → Q (some (.int (-1))) h (uI I 83 0 0) L) ∧ (¬ ((I 106 0) = 30) → (((¬ (x1 < 0) ∧ (¬ ((((uI I 83 0 0) 95 0) - 1) < x1))) → (¬ (x2 < 0) ∧ (¬ ((((uI I 83 0 0) 95 0) - 1) < x2))) → vp_in x1 80) ∧ (((¬ (x1 < 0) ∧ (¬ ((((uI I 83 0 0) 95 0) - 1) < x1))) → (¬ (x2 < 0) ∧ (¬ ((((uI I 83 0 0) 95 0) - 1) < x2))) → (((uI I 83 0 0) 97 x1.toNatClampNeg) = 0) → vp_in x2 80) ∧ ((((¬ (x1 < 0) ∧ (¬ ((((uI I 83 0 0) 95 0) - 1) < x1))) ∧ ((¬ (x2 < 0) ∧ (¬ ((((uI I 83 0 0) 95 0) - 1) < x2))) ∧ ((((uI I 83 0 0) 97 x1.toNatClampNeg) = 0) ∧ (((uI I 83 0 0) 97 x2.toNatClampNeg) = 1)))) → (CT E mX12_isFree (d + 4) 0 0 [.ref (eB E + 83), .int x1] h (uI I 83 0 0) L (qi h L fun r8 I7 => (((r8 = 0) → Q (some (.int (-1))) h I7 L) ∧ (¬ (r8 = 0) → (CT E mX12_isFree (d + 4) 0 0 [.ref (eB E + 83), .int x2] h I7 L (qi h L fun r11 I10 => (((r11 = 0) → Q (some (.int (-1))) h I10 L) ∧ (¬ (r11 = 0) → (CT E mX12_mayWed (d + 4) 0 0 [.ref (eB E + 83), .int x1, .int x2] h I10 L (qi h L fun r14 I13 => (((r14 = 0) → Q (some (.int (-1))) h I13 L) ∧ (¬ (r14 = 0) → (vp_in (I13 106 0) 120 ∧ (CT E mX12_comes (d + 4) 0 0 [.ref (eB E + 83), .int (I13 106 0), .int 0] h (uI (uI (uI (uI (uI (uI (uI I13 106 0 ((I13 106 0) + 1)) 107 ((I13 106 0).toNatClampNeg) x1) 108 ((I13 106 0).toNatClampNeg) x2) 110 ((I13 106 0).toNatClampNeg) (I13 83 66)) 111 ((I13 106 0).toNatClampNeg) (I13 83 67)) 112 ((I13 106 0).toNatClampNeg) 0) 113 ((I13 106 0).toNatClampNeg) (I13 88 0)) L (qv h L fun I17 => Q (some (.int (I13 106 0))) h I17 L)))))))))))))))) ∧ (¬ ((¬ (x1 < 0) ∧ (¬ ((((uI I 83 0 0) 95 0) - 1) < x1))) ∧ ((¬ (x2 < 0) ∧ (¬ ((((uI I 83 0 0) 95 0) - 1) < x2))) ∧ ((((uI I 83 0 0) 97 x1.toNatClampNeg) = 0) ∧ (((uI I 83 0 0) 97 x2.toNatClampNeg) = 1)))) → Q (some (.int (-1))) h (uI I 83 0 0) L))))))) :
    CT E mX12_ask (d + 5) 0 0 [.ref (eB E + 83), .int x1, .int x2] h I L Q := by
  refine CT.of (by decide) [some (.ref (eB E + 83)), some (.int x1), some (.int x2), none] rfl (Nat.le_of_ble_eq_true rfl) ?_
  refine J.aload_n dX12_ask_0 rfl rfl ?_
  refine J.iconst (v := 0) dX12_ask_1 (by decide) ?_
  refine J.putI fw_X12_202 rfl dX12_ask_2 (lt83 hs) (kk83 hs) ?_
  refine J.aload_n dX12_ask_5 rfl rfl ?_
  refine J.getR (r := 106) fl_X12_78 rfl dX12_ask_6 (lt83 hs) (kk83 hs) (rr83_23 hs) ?_
  refine J.iconst (v := 0) dX12_ask_9 (by decide) ?_
  refine J.iald (x := I 106 0) dX12_ask_10 (lt106 hs) (kk106 hs) (by unfold vp_in; decide) rfl ?_
  refine J.bipush (v := 30) dX12_ask_11 (by decide) ?_
  refine J.ic_eq 50 dX12_ask_13 (by decide) (fun hc1 => ?_) (fun hc1 => ?_)
  · have hW := hW.1 hc1
    refine J.iconst (v := (-1)) dX12_ask_50 (by decide) ?_
    exact J.reti dX12_ask_51 rfl rfl hW
  · have hW := hW.2 hc1
    refine J.aload_n dX12_ask_16 rfl rfl ?_
    refine J.iload_n dX12_ask_17 rfl rfl ?_
    refine J.iload_n dX12_ask_18 rfl rfl ?_
    obtain ⟨hb2, hW⟩ := hW
    obtain ⟨hb3, hW⟩ := hW
    refine J.callV (M' := mX12_areCouple) (index := 410) (bc := 0) (bs := 0) (bc' := 0) (bs' := 0) (st := []) [.int x1, .int x2] ml_X12_410 cv_X12_areCouple dX12_ask_19 (lt83 hs) (kk83 hs) (by decide) rfl rfl rfl rfl (Nat.le_of_ble_eq_true rfl) (kqi (w_X12_areCouple (d := d + 2) (Q := qi h L (fun v I' => I' = (uI I 83 0 0) ∧ v = bI ((¬ (x1 < 0) ∧ (¬ ((((uI I 83 0 0) 95 0) - 1) < x1))) ∧ ((¬ (x2 < 0) ∧ (¬ ((((uI I 83 0 0) 95 0) - 1) < x2))) ∧ ((((uI I 83 0 0) 97 x1.toNatClampNeg) = 0) ∧ (((uI I 83 0 0) 97 x2.toNatClampNeg) = 1)))))) hs x1 x2 ⟨hb2, hb3, rfl, rfl, _, rfl, rfl, rfl⟩) (fun v4 I5 hv => ?_))
    rw [hv.1, hv.2]
    refine J.if_eq 50 dX12_ask_22 (by decide) (fun hc6 => ?_) (fun hc6 => ?_)
    · have hc6 := bI_0.mp hc6
      have hW := hW.2 hc6
      refine J.iconst (v := (-1)) dX12_ask_50 (by decide) ?_
      exact J.reti dX12_ask_51 rfl rfl hW
    · have hc6 := bI_n0.mp hc6
      have hW := hW.1 hc6
      refine J.aload_n dX12_ask_25 rfl rfl ?_
      refine J.iload_n dX12_ask_26 rfl rfl ?_
      refine J.callV (M' := mX12_isFree) (index := 278) (bc := 0) (bs := 0) (bc' := 0) (bs' := 0) (st := []) [.int x1] ml_X12_278 cv_X12_isFree dX12_ask_27 (lt83 hs) (kk83 hs) (by decide) rfl rfl rfl rfl (Nat.le_of_ble_eq_true rfl) (kqi hW (fun r8 I7 hW => ?_))
      refine J.if_eq 50 dX12_ask_30 (by decide) (fun hc9 => ?_) (fun hc9 => ?_)
      · have hW := hW.1 hc9
        refine J.iconst (v := (-1)) dX12_ask_50 (by decide) ?_
        exact J.reti dX12_ask_51 rfl rfl hW
      · have hW := hW.2 hc9
        refine J.aload_n dX12_ask_33 rfl rfl ?_
        refine J.iload_n dX12_ask_34 rfl rfl ?_
        refine J.callV (M' := mX12_isFree) (index := 278) (bc := 0) (bs := 0) (bc' := 0) (bs' := 0) (st := []) [.int x2] ml_X12_278 cv_X12_isFree dX12_ask_35 (lt83 hs) (kk83 hs) (by decide) rfl rfl rfl rfl (Nat.le_of_ble_eq_true rfl) (kqi hW (fun r11 I10 hW => ?_))
        refine J.if_eq 50 dX12_ask_38 (by decide) (fun hc12 => ?_) (fun hc12 => ?_)
        · have hW := hW.1 hc12
          refine J.iconst (v := (-1)) dX12_ask_50 (by decide) ?_
          exact J.reti dX12_ask_51 rfl rfl hW
        · have hW := hW.2 hc12
          refine J.aload_n dX12_ask_41 rfl rfl ?_
          refine J.iload_n dX12_ask_42 rfl rfl ?_
          refine J.iload_n dX12_ask_43 rfl rfl ?_
          refine J.callV (M' := mX12_mayWed) (index := 426) (bc := 0) (bs := 0) (bc' := 0) (bs' := 0) (st := []) [.int x1, .int x2] ml_X12_426 cv_X12_mayWed dX12_ask_44 (lt83 hs) (kk83 hs) (by decide) rfl rfl rfl rfl (Nat.le_of_ble_eq_true rfl) (kqi hW (fun r14 I13 hW => ?_))
          refine J.if_ne 52 dX12_ask_47 (by decide) (fun hc15 => ?_) (fun hc15 => ?_)
          · have hW := hW.2 hc15
            refine J.aload_n dX12_ask_52 rfl rfl ?_
            refine J.getR (r := 106) fl_X12_78 rfl dX12_ask_53 (lt83 hs) (kk83 hs) (rr83_23 hs) ?_
            refine J.iconst (v := 0) dX12_ask_56 (by decide) ?_
            refine J.iald (x := I13 106 0) dX12_ask_57 (lt106 hs) (kk106 hs) (by unfold vp_in; decide) rfl ?_
            refine J.istore_n (vs' := [some (.ref (eB E + 83)), some (.int x1), some (.int x2), some (.int (I13 106 0))]) dX12_ask_58 rfl (by decide) rfl ?_
            refine J.aload_n dX12_ask_59 rfl rfl ?_
            refine J.getR (r := 106) fl_X12_78 rfl dX12_ask_60 (lt83 hs) (kk83 hs) (rr83_23 hs) ?_
            refine J.iconst (v := 0) dX12_ask_63 (by decide) ?_
            refine J.dup2 dX12_ask_64 rfl rfl ?_
            refine J.iald (x := I13 106 0) dX12_ask_65 (lt106 hs) (kk106 hs) (by unfold vp_in; decide) rfl ?_
            refine J.iconst (v := 1) dX12_ask_66 (by decide) ?_
            refine J.iadd dX12_ask_67 ?_
            refine J.iast dX12_ask_68 (lt106 hs) (kk106 hs) (by unfold vp_in; decide) ?_
            refine J.aload_n dX12_ask_69 rfl rfl ?_
            refine J.getR (r := 107) fl_X12_81 rfl dX12_ask_70 (lt83 hs) (kk83 hs) (rr83_24 hs) ?_
            refine J.iload_n dX12_ask_73 rfl rfl ?_
            refine J.iload_n dX12_ask_74 rfl rfl ?_
            obtain ⟨hb16, hW⟩ := hW
            refine J.iast dX12_ask_75 (lt107 hs) (kk107 hs) hb16 ?_
            refine J.aload_n dX12_ask_76 rfl rfl ?_
            refine J.getR (r := 108) fl_X12_84 rfl dX12_ask_77 (lt83 hs) (kk83 hs) (rr83_25 hs) ?_
            refine J.iload_n dX12_ask_80 rfl rfl ?_
            refine J.iload_n dX12_ask_81 rfl rfl ?_
            refine J.iast dX12_ask_82 (lt108 hs) (kk108 hs) hb16 ?_
            refine J.aload_n dX12_ask_83 rfl rfl ?_
            refine J.getR (r := 110) fl_X12_90 rfl dX12_ask_84 (lt83 hs) (kk83 hs) (rr83_27 hs) ?_
            refine J.iload_n dX12_ask_87 rfl rfl ?_
            refine J.aload_n dX12_ask_88 rfl rfl ?_
            refine J.getI (x := I13 83 66) fl_X12_420 rfl dX12_ask_89 (lt83 hs) (kk83 hs) rfl ?_
            refine J.iast dX12_ask_92 (lt110 hs) (kk110 hs) hb16 ?_
            refine J.aload_n dX12_ask_93 rfl rfl ?_
            refine J.getR (r := 111) fl_X12_93 rfl dX12_ask_94 (lt83 hs) (kk83 hs) (rr83_28 hs) ?_
            refine J.iload_n dX12_ask_97 rfl rfl ?_
            refine J.aload_n dX12_ask_98 rfl rfl ?_
            refine J.getI (x := I13 83 67) fl_X12_423 rfl dX12_ask_99 (lt83 hs) (kk83 hs) rfl ?_
            refine J.iast dX12_ask_102 (lt111 hs) (kk111 hs) hb16 ?_
            refine J.aload_n dX12_ask_103 rfl rfl ?_
            refine J.getR (r := 112) fl_X12_96 rfl dX12_ask_104 (lt83 hs) (kk83 hs) (rr83_29 hs) ?_
            refine J.iload_n dX12_ask_107 rfl rfl ?_
            refine J.iconst (v := 0) dX12_ask_108 (by decide) ?_
            refine J.iast dX12_ask_109 (lt112 hs) (kk112 hs) hb16 ?_
            refine J.aload_n dX12_ask_110 rfl rfl ?_
            refine J.getR (r := 113) fl_X12_99 rfl dX12_ask_111 (lt83 hs) (kk83 hs) (rr83_30 hs) ?_
            refine J.iload_n dX12_ask_114 rfl rfl ?_
            refine J.aload_n dX12_ask_115 rfl rfl ?_
            refine J.getR (r := 88) fl_X12_23 rfl dX12_ask_116 (lt83 hs) (kk83 hs) (rr83_5 hs) ?_
            refine J.iconst (v := 0) dX12_ask_119 (by decide) ?_
            refine J.iald (x := I13 88 0) dX12_ask_120 (lt88 hs) (kk88 hs) (by unfold vp_in; decide) rfl ?_
            refine J.iast dX12_ask_121 (lt113 hs) (kk113 hs) hb16 ?_
            refine J.aload_n dX12_ask_122 rfl rfl ?_
            refine J.iload_n dX12_ask_123 rfl rfl ?_
            refine J.iconst (v := 0) dX12_ask_124 (by decide) ?_
            refine J.callV (M' := mX12_comes) (index := 249) (bc := 0) (bs := 0) (bc' := 0) (bs' := 0) (st := []) [.int (I13 106 0), .int 0] ml_X12_249 cv_X12_comes dX12_ask_125 (lt83 hs) (kk83 hs) (by decide) rfl rfl rfl rfl (Nat.le_of_ble_eq_true rfl) (kqv hW (fun I17 hW => ?_))
            refine J.iload_n dX12_ask_128 rfl rfl ?_
            exact J.reti dX12_ask_129 rfl rfl hW
          · have hW := hW.1 hc15
            refine J.iconst (v := (-1)) dX12_ask_50 (by decide) ?_
            exact J.reti dX12_ask_51 rfl rfl hW
set_option maxRecDepth 100000 in
set_option maxHeartbeats 4000000 in
theorem w_X12_isMatch {E : Envt} {d : Nat} {Q : Pst} {h : mS} {I : mI} {L : mL} (hs : SL h) (x1 : Int32) 
    (hW : Q (some (.int (bI (¬ (x1 < 0) ∧ (¬ (((I 106 0) - 1) < x1)))))) h I L) :
    CT E mX12_isMatch (d + 1) 0 0 [.ref (eB E + 83), .int x1] h I L Q := by
  refine CT.of (by decide) [some (.ref (eB E + 83)), some (.int x1)] rfl (Nat.le_of_ble_eq_true rfl) ?_
  refine J.iload_n dX12_isMatch_0 rfl rfl ?_
  refine J.iconst (v := 0) dX12_isMatch_1 (by decide) ?_
  refine J.aload_n dX12_isMatch_2 rfl rfl ?_
  refine J.getR (r := 106) fl_X12_78 rfl dX12_isMatch_3 (lt83 hs) (kk83 hs) (rr83_23 hs) ?_
  refine J.iconst (v := 0) dX12_isMatch_6 (by decide) ?_
  refine J.iald (x := I 106 0) dX12_isMatch_7 (lt106 hs) (kk106 hs) (by unfold vp_in; decide) rfl ?_
  refine J.iconst (v := 1) dX12_isMatch_8 (by decide) ?_
  refine J.isub dX12_isMatch_9 ?_
  refine J.callS (M' := mX12_in) (index := 218) (bc := 0) (bs := 0) (bc' := 0) (bs' := 0) (st := []) [.int x1, .int 0, .int ((I 106 0) - 1)] ml_X12_218 cv_X12_in dX12_isMatch_10 rfl rfl (Nat.le_of_ble_eq_true rfl) (kqi (w_X12_in (d := d) (Q := qi h L (fun v I' => I' = I ∧ v = bI (¬ (x1 < 0) ∧ (¬ (((I 106 0) - 1) < x1))))) hs x1 0 ((I 106 0) - 1) ⟨rfl, rfl, _, rfl, rfl, rfl⟩) (fun v1 I2 hv => ?_))
  rw [hv.1, hv.2]
  exact J.reti dX12_isMatch_13 rfl (bz_nar (bI_bz _)) hW
set_option maxRecDepth 100000 in
set_option maxHeartbeats 4000000 in
theorem w_X12_pays {E : Envt} {d : Nat} {Q : Pst} {h : mS} {I : mI} {L : mL} (hs : SL h) (x1 : Int32) (x2 : Int32) 
    (hW : (vp_in x1 120 ∧ (vp_in (I 108 x1.toNatClampNeg) 80 ∧ (∀ y3 : Int32, y3 = I 96 ((I 108 x1.toNatClampNeg).toNatClampNeg) → (vp_in y3 32 ∧ (((x2 ≤ (I 93 y3.toNatClampNeg)) → (vp_in (I 107 x1.toNatClampNeg) 80 ∧ (vp_in (I 96 ((I 107 x1.toNatClampNeg).toNatClampNeg)) 32 ∧ Q (some (.int 1)) h (uI (uI (uI I 93 y3.toNatClampNeg ((I 93 y3.toNatClampNeg) - x2)) 93 ((I 96 ((I 107 x1.toNatClampNeg).toNatClampNeg)).toNatClampNeg) (((uI I 93 y3.toNatClampNeg ((I 93 y3.toNatClampNeg) - x2)) 93 ((I 96 ((I 107 x1.toNatClampNeg).toNatClampNeg)).toNatClampNeg)) + x2)) 112 x1.toNatClampNeg ((I 112 x1.toNatClampNeg) + x2)) L))) ∧ (¬ (x2 ≤ (I 93 y3.toNatClampNeg)) → Q (some (.int 0)) h I L))))))) :
    CT E mX12_pays d 0 0 [.ref (eB E + 83), .int x1, .int x2] h I L Q := by
  refine CT.of (by decide) [some (.ref (eB E + 83)), some (.int x1), some (.int x2), none] rfl (Nat.le_of_ble_eq_true rfl) ?_
  refine J.aload_n dX12_pays_0 rfl rfl ?_
  refine J.getR (r := 96) fl_X12_47 rfl dX12_pays_1 (lt83 hs) (kk83 hs) (rr83_13 hs) ?_
  refine J.aload_n dX12_pays_4 rfl rfl ?_
  refine J.getR (r := 108) fl_X12_84 rfl dX12_pays_5 (lt83 hs) (kk83 hs) (rr83_25 hs) ?_
  refine J.iload_n dX12_pays_8 rfl rfl ?_
  obtain ⟨hb1, hW⟩ := hW
  refine J.iald (x := I 108 x1.toNatClampNeg) dX12_pays_9 (lt108 hs) (kk108 hs) hb1 rfl ?_
  obtain ⟨hb2, hW⟩ := hW
  refine J.iald (x := I 96 ((I 108 x1.toNatClampNeg).toNatClampNeg)) dX12_pays_10 (lt96 hs) (kk96 hs) hb2 rfl ?_
  refine J.topi (fun y3 hyy3 => ?_)
  have hW := hW y3 hyy3
  refine J.istore_n (vs' := [some (.ref (eB E + 83)), some (.int x1), some (.int x2), some (.int y3)]) dX12_pays_11 rfl (by decide) rfl ?_
  refine J.aload_n dX12_pays_12 rfl rfl ?_
  refine J.getR (r := 93) fl_X12_38 rfl dX12_pays_13 (lt83 hs) (kk83 hs) (rr83_10 hs) ?_
  refine J.iload_n dX12_pays_16 rfl rfl ?_
  obtain ⟨hb4, hW⟩ := hW
  refine J.iald (x := I 93 y3.toNatClampNeg) dX12_pays_17 (lt93 hs) (kk93 hs) hb4 rfl ?_
  refine J.iload_n dX12_pays_18 rfl rfl ?_
  refine J.ic_ge 24 dX12_pays_19 (by decide) (fun hc5 => ?_) (fun hc5 => ?_)
  · have hW := hW.1 hc5
    refine J.aload_n dX12_pays_24 rfl rfl ?_
    refine J.getR (r := 93) fl_X12_38 rfl dX12_pays_25 (lt83 hs) (kk83 hs) (rr83_10 hs) ?_
    refine J.iload_n dX12_pays_28 rfl rfl ?_
    refine J.dup2 dX12_pays_29 rfl rfl ?_
    refine J.iald (x := I 93 y3.toNatClampNeg) dX12_pays_30 (lt93 hs) (kk93 hs) hb4 rfl ?_
    refine J.iload_n dX12_pays_31 rfl rfl ?_
    refine J.isub dX12_pays_32 ?_
    refine J.iast dX12_pays_33 (lt93 hs) (kk93 hs) hb4 ?_
    refine J.aload_n dX12_pays_34 rfl rfl ?_
    refine J.getR (r := 93) fl_X12_38 rfl dX12_pays_35 (lt83 hs) (kk83 hs) (rr83_10 hs) ?_
    refine J.aload_n dX12_pays_38 rfl rfl ?_
    refine J.getR (r := 96) fl_X12_47 rfl dX12_pays_39 (lt83 hs) (kk83 hs) (rr83_13 hs) ?_
    refine J.aload_n dX12_pays_42 rfl rfl ?_
    refine J.getR (r := 107) fl_X12_81 rfl dX12_pays_43 (lt83 hs) (kk83 hs) (rr83_24 hs) ?_
    refine J.iload_n dX12_pays_46 rfl rfl ?_
    refine J.iald (x := I 107 x1.toNatClampNeg) dX12_pays_47 (lt107 hs) (kk107 hs) hb1 rfl ?_
    obtain ⟨hb6, hW⟩ := hW
    refine J.iald (x := I 96 ((I 107 x1.toNatClampNeg).toNatClampNeg)) dX12_pays_48 (lt96 hs) (kk96 hs) hb6 rfl ?_
    refine J.dup2 dX12_pays_49 rfl rfl ?_
    obtain ⟨hb7, hW⟩ := hW
    refine J.iald (x := (uI I 93 y3.toNatClampNeg ((I 93 y3.toNatClampNeg) - x2)) 93 ((I 96 ((I 107 x1.toNatClampNeg).toNatClampNeg)).toNatClampNeg)) dX12_pays_50 (lt93 hs) (kk93 hs) hb7 rfl ?_
    refine J.iload_n dX12_pays_51 rfl rfl ?_
    refine J.iadd dX12_pays_52 ?_
    refine J.iast dX12_pays_53 (lt93 hs) (kk93 hs) hb7 ?_
    refine J.aload_n dX12_pays_54 rfl rfl ?_
    refine J.getR (r := 112) fl_X12_96 rfl dX12_pays_55 (lt83 hs) (kk83 hs) (rr83_29 hs) ?_
    refine J.iload_n dX12_pays_58 rfl rfl ?_
    refine J.dup2 dX12_pays_59 rfl rfl ?_
    refine J.iald (x := I 112 x1.toNatClampNeg) dX12_pays_60 (lt112 hs) (kk112 hs) hb1 rfl ?_
    refine J.iload_n dX12_pays_61 rfl rfl ?_
    refine J.iadd dX12_pays_62 ?_
    refine J.iast dX12_pays_63 (lt112 hs) (kk112 hs) hb1 ?_
    refine J.iconst (v := 1) dX12_pays_64 (by decide) ?_
    exact J.reti dX12_pays_65 rfl (bz_nar (Or.inr rfl)) hW
  · have hW := hW.2 hc5
    refine J.iconst (v := 0) dX12_pays_22 (by decide) ?_
    exact J.reti dX12_pays_23 rfl (bz_nar (Or.inl rfl)) hW
set_option maxRecDepth 100000 in
set_option maxHeartbeats 4000000 in
theorem w_X12_promise {E : Envt} {d : Nat} {Q : Pst} {h : mS} {I : mI} {L : mL} (hs : SL h) (x1 : Int32) 
    (hW : (((¬ (x1 < 0) ∧ (¬ ((((uI I 83 0 0) 106 0) - 1) < x1))) → (vp_in x1 120 ∧ ((((I 109 x1.toNatClampNeg) = 0) → (CT E mX12_pays (d + 1) 0 0 [.ref (eB E + 83), .int x1, .int ((I 110 x1.toNatClampNeg) / 2)] h (uI I 83 0 0) L (qi h L fun r7 I6 => (((r7 = 0) → Q (some (.int 0)) h I6 L) ∧ (¬ (r7 = 0) → (CT E mX12_comes (d + 1) 0 0 [.ref (eB E + 83), .int x1, .int 1] h I6 L (qv h L fun I9 => Q (some (.int 1)) h I9 L))))))) ∧ (¬ ((I 109 x1.toNatClampNeg) = 0) → Q (some (.int 0)) h (uI I 83 0 0) L)))) ∧ (¬ (¬ (x1 < 0) ∧ (¬ ((((uI I 83 0 0) 106 0) - 1) < x1))) → Q (some (.int 0)) h (uI I 83 0 0) L))) :
    CT E mX12_promise (d + 2) 0 0 [.ref (eB E + 83), .int x1] h I L Q := by
  refine CT.of (by decide) [some (.ref (eB E + 83)), some (.int x1)] rfl (Nat.le_of_ble_eq_true rfl) ?_
  refine J.aload_n dX12_promise_0 rfl rfl ?_
  refine J.iconst (v := 0) dX12_promise_1 (by decide) ?_
  refine J.putI fw_X12_202 rfl dX12_promise_2 (lt83 hs) (kk83 hs) ?_
  refine J.aload_n dX12_promise_5 rfl rfl ?_
  refine J.iload_n dX12_promise_6 rfl rfl ?_
  refine J.callV (M' := mX12_isMatch) (index := 433) (bc := 0) (bs := 0) (bc' := 0) (bs' := 0) (st := []) [.int x1] ml_X12_433 cv_X12_isMatch dX12_promise_7 (lt83 hs) (kk83 hs) (by decide) rfl rfl rfl rfl (Nat.le_of_ble_eq_true rfl) (kqi (w_X12_isMatch (d := d) (Q := qi h L (fun v I' => I' = (uI I 83 0 0) ∧ v = bI (¬ (x1 < 0) ∧ (¬ ((((uI I 83 0 0) 106 0) - 1) < x1))))) hs x1 ⟨rfl, rfl, _, rfl, rfl, rfl⟩) (fun v1 I2 hv => ?_))
  rw [hv.1, hv.2]
  refine J.if_eq 38 dX12_promise_10 (by decide) (fun hc3 => ?_) (fun hc3 => ?_)
  · have hc3 := bI_0.mp hc3
    have hW := hW.2 hc3
    refine J.iconst (v := 0) dX12_promise_38 (by decide) ?_
    exact J.reti dX12_promise_39 rfl (bz_nar (Or.inl rfl)) hW
  · have hc3 := bI_n0.mp hc3
    have hW := hW.1 hc3
    refine J.aload_n dX12_promise_13 rfl rfl ?_
    refine J.getR (r := 109) fl_X12_87 rfl dX12_promise_14 (lt83 hs) (kk83 hs) (rr83_26 hs) ?_
    refine J.iload_n dX12_promise_17 rfl rfl ?_
    obtain ⟨hb4, hW⟩ := hW
    refine J.iald (x := I 109 x1.toNatClampNeg) dX12_promise_18 (lt109 hs) (kk109 hs) hb4 rfl ?_
    refine J.if_ne 38 dX12_promise_19 (by decide) (fun hc5 => ?_) (fun hc5 => ?_)
    · have hW := hW.2 hc5
      refine J.iconst (v := 0) dX12_promise_38 (by decide) ?_
      exact J.reti dX12_promise_39 rfl (bz_nar (Or.inl rfl)) hW
    · have hW := hW.1 hc5
      refine J.aload_n dX12_promise_22 rfl rfl ?_
      refine J.iload_n dX12_promise_23 rfl rfl ?_
      refine J.aload_n dX12_promise_24 rfl rfl ?_
      refine J.getR (r := 110) fl_X12_90 rfl dX12_promise_25 (lt83 hs) (kk83 hs) (rr83_27 hs) ?_
      refine J.iload_n dX12_promise_28 rfl rfl ?_
      refine J.iald (x := I 110 x1.toNatClampNeg) dX12_promise_29 (lt110 hs) (kk110 hs) hb4 rfl ?_
      refine J.iconst (v := 2) dX12_promise_30 (by decide) ?_
      refine J.idiv dX12_promise_31 (by decide) ?_
      refine J.callV (M' := mX12_pays) (index := 436) (bc := 0) (bs := 0) (bc' := 0) (bs' := 0) (st := []) [.int x1, .int ((I 110 x1.toNatClampNeg) / 2)] ml_X12_436 cv_X12_pays dX12_promise_32 (lt83 hs) (kk83 hs) (by decide) rfl rfl rfl rfl (Nat.le_of_ble_eq_true rfl) (kqi hW (fun r7 I6 hW => ?_))
      refine J.if_ne 40 dX12_promise_35 (by decide) (fun hc8 => ?_) (fun hc8 => ?_)
      · have hW := hW.2 hc8
        refine J.aload_n dX12_promise_40 rfl rfl ?_
        refine J.iload_n dX12_promise_41 rfl rfl ?_
        refine J.iconst (v := 1) dX12_promise_42 (by decide) ?_
        refine J.callV (M' := mX12_comes) (index := 249) (bc := 0) (bs := 0) (bc' := 0) (bs' := 0) (st := []) [.int x1, .int 1] ml_X12_249 cv_X12_comes dX12_promise_43 (lt83 hs) (kk83 hs) (by decide) rfl rfl rfl rfl (Nat.le_of_ble_eq_true rfl) (kqv hW (fun I9 hW => ?_))
        refine J.iconst (v := 1) dX12_promise_46 (by decide) ?_
        exact J.reti dX12_promise_47 rfl (bz_nar (Or.inr rfl)) hW
      · have hW := hW.1 hc8
        refine J.iconst (v := 0) dX12_promise_38 (by decide) ?_
        exact J.reti dX12_promise_39 rfl (bz_nar (Or.inl rfl)) hW
set_option maxRecDepth 100000 in
set_option maxHeartbeats 4000000 in
theorem w_X12_copyText {E : Envt} {d : Nat} {Q : Pst} {h : mS} {I : mI} {L : mL} (hs : SL h) (x1 : Int32) (x2 : Int32) 
    (hW : (vp_in x1 268 ∧ (vp_in x2 268 ∧ J E mX12_copyText d Q 0 0 14 [some (.ref (eB E + 83)), some (.int x1), some (.int x2), some (.int 0), none, none, none] [] h (uI I 116 x2.toNatClampNeg (I 116 x1.toNatClampNeg)) L))) :
    CT E mX12_copyText d 0 0 [.ref (eB E + 83), .int x1, .int x2] h I L Q := by
  refine CT.of (by decide) [some (.ref (eB E + 83)), some (.int x1), some (.int x2), none, none, none, none] rfl (Nat.le_of_ble_eq_true rfl) ?_
  refine J.aload_n dX12_copyText_0 rfl rfl ?_
  refine J.getR (r := 116) fl_X12_108 rfl dX12_copyText_1 (lt83 hs) (kk83 hs) (rr83_33 hs) ?_
  refine J.iload_n dX12_copyText_4 rfl rfl ?_
  refine J.aload_n dX12_copyText_5 rfl rfl ?_
  refine J.getR (r := 116) fl_X12_108 rfl dX12_copyText_6 (lt83 hs) (kk83 hs) (rr83_33 hs) ?_
  refine J.iload_n dX12_copyText_9 rfl rfl ?_
  obtain ⟨hb1, hW⟩ := hW
  refine J.iald (x := I 116 x1.toNatClampNeg) dX12_copyText_10 (lt116 hs) (kk116 hs) hb1 rfl ?_
  obtain ⟨hb2, hW⟩ := hW
  refine J.iast dX12_copyText_11 (lt116 hs) (kk116 hs) hb2 ?_
  refine J.iconst (v := 0) dX12_copyText_12 (by decide) ?_
  refine J.istore_n (vs' := [some (.ref (eB E + 83)), some (.int x1), some (.int x2), some (.int 0), none, none, none]) dX12_copyText_13 rfl (by decide) rfl ?_
  exact hW
set_option maxRecDepth 100000 in
set_option maxHeartbeats 4000000 in
theorem w_X12_copyText_14 {E : Envt} {d : Nat} {Q : Pst} {h : mS} {I : mI} {L : mL} (hs : SL h)    (x1 : Int32) (x2 : Int32) (x3 : Int32)
    (hW : (vp_in x1 268 ∧ ((((I 116 x1.toNatClampNeg) ≤ x3) → Q none h I L) ∧ (¬ ((I 116 x1.toNatClampNeg) ≤ x3) → (vp_in ((16 * x1) + x3) 4288 ∧ (vp_in ((16 * x2) + x3) 4288 ∧ J E mX12_copyText d Q 0 0 85 [some (.ref (eB E + 83)), some (.int x1), some (.int x2), some (.int x3), some (.int ((16 * x1) + x3)), some (.int ((16 * x2) + x3)), some (.int 0)] [] h (uI (uI (uI I 117 (((16 * x2) + x3).toNatClampNeg) (I 117 (((16 * x1) + x3).toNatClampNeg))) 118 (((16 * x2) + x3).toNatClampNeg) (I 118 (((16 * x1) + x3).toNatClampNeg))) 119 (((16 * x2) + x3).toNatClampNeg) (I 119 (((16 * x1) + x3).toNatClampNeg))) L)))))) :
    J E mX12_copyText d Q 0 0 14 [some (.ref (eB E + 83)), some (.int x1), some (.int x2), some (.int x3), none, none, none] [] h I L := by
  refine J.iload_n dX12_copyText_14 rfl rfl ?_
  refine J.aload_n dX12_copyText_15 rfl rfl ?_
  refine J.getR (r := 116) fl_X12_108 rfl dX12_copyText_16 (lt83 hs) (kk83 hs) (rr83_33 hs) ?_
  refine J.iload_n dX12_copyText_19 rfl rfl ?_
  obtain ⟨hb1, hW⟩ := hW
  refine J.iald (x := I 116 x1.toNatClampNeg) dX12_copyText_20 (lt116 hs) (kk116 hs) hb1 rfl ?_
  refine J.ic_ge 175 dX12_copyText_21 (by decide) (fun hc2 => ?_) (fun hc2 => ?_)
  · have hW := hW.1 hc2
    exact J.retv dX12_copyText_175 rfl hW
  · have hW := hW.2 hc2
    refine J.bipush (v := 16) dX12_copyText_24 (by decide) ?_
    refine J.iload_n dX12_copyText_26 rfl rfl ?_
    refine J.imul dX12_copyText_27 ?_
    refine J.iload_n dX12_copyText_28 rfl rfl ?_
    refine J.iadd dX12_copyText_29 ?_
    refine J.istore (vs' := [some (.ref (eB E + 83)), some (.int x1), some (.int x2), some (.int x3), some (.int ((16 * x1) + x3)), none, none]) dX12_copyText_30 (by decide) rfl ?_
    refine J.bipush (v := 16) dX12_copyText_32 (by decide) ?_
    refine J.iload_n dX12_copyText_34 rfl rfl ?_
    refine J.imul dX12_copyText_35 ?_
    refine J.iload_n dX12_copyText_36 rfl rfl ?_
    refine J.iadd dX12_copyText_37 ?_
    refine J.istore (vs' := [some (.ref (eB E + 83)), some (.int x1), some (.int x2), some (.int x3), some (.int ((16 * x1) + x3)), some (.int ((16 * x2) + x3)), none]) dX12_copyText_38 (by decide) rfl ?_
    refine J.aload_n dX12_copyText_40 rfl rfl ?_
    refine J.getR (r := 117) fl_X12_111 rfl dX12_copyText_41 (lt83 hs) (kk83 hs) (rr83_34 hs) ?_
    refine J.iload dX12_copyText_44 rfl ?_
    refine J.aload_n dX12_copyText_46 rfl rfl ?_
    refine J.getR (r := 117) fl_X12_111 rfl dX12_copyText_47 (lt83 hs) (kk83 hs) (rr83_34 hs) ?_
    refine J.iload dX12_copyText_50 rfl ?_
    obtain ⟨hb3, hW⟩ := hW
    refine J.iald (x := I 117 (((16 * x1) + x3).toNatClampNeg)) dX12_copyText_52 (lt117 hs) (kk117 hs) hb3 rfl ?_
    obtain ⟨hb4, hW⟩ := hW
    refine J.iast dX12_copyText_53 (lt117 hs) (kk117 hs) hb4 ?_
    refine J.aload_n dX12_copyText_54 rfl rfl ?_
    refine J.getR (r := 118) fl_X12_114 rfl dX12_copyText_55 (lt83 hs) (kk83 hs) (rr83_35 hs) ?_
    refine J.iload dX12_copyText_58 rfl ?_
    refine J.aload_n dX12_copyText_60 rfl rfl ?_
    refine J.getR (r := 118) fl_X12_114 rfl dX12_copyText_61 (lt83 hs) (kk83 hs) (rr83_35 hs) ?_
    refine J.iload dX12_copyText_64 rfl ?_
    refine J.iald (x := I 118 (((16 * x1) + x3).toNatClampNeg)) dX12_copyText_66 (lt118 hs) (kk118 hs) hb3 rfl ?_
    refine J.iast dX12_copyText_67 (lt118 hs) (kk118 hs) hb4 ?_
    refine J.aload_n dX12_copyText_68 rfl rfl ?_
    refine J.getR (r := 119) fl_X12_117 rfl dX12_copyText_69 (lt83 hs) (kk83 hs) (rr83_36 hs) ?_
    refine J.iload dX12_copyText_72 rfl ?_
    refine J.aload_n dX12_copyText_74 rfl rfl ?_
    refine J.getR (r := 119) fl_X12_117 rfl dX12_copyText_75 (lt83 hs) (kk83 hs) (rr83_36 hs) ?_
    refine J.iload dX12_copyText_78 rfl ?_
    refine J.iald (x := I 119 (((16 * x1) + x3).toNatClampNeg)) dX12_copyText_80 (lt119 hs) (kk119 hs) hb3 rfl ?_
    refine J.iast dX12_copyText_81 (lt119 hs) (kk119 hs) hb4 ?_
    refine J.iconst (v := 0) dX12_copyText_82 (by decide) ?_
    refine J.istore (vs' := [some (.ref (eB E + 83)), some (.int x1), some (.int x2), some (.int x3), some (.int ((16 * x1) + x3)), some (.int ((16 * x2) + x3)), some (.int 0)]) dX12_copyText_83 (by decide) rfl ?_
    exact hW
set_option maxRecDepth 100000 in
set_option maxHeartbeats 4000000 in
theorem w_X12_copyText_85 {E : Envt} {d : Nat} {Q : Pst} {h : mS} {I : mI} {L : mL} (hs : SL h)    (x1 : Int32) (x2 : Int32) (x3 : Int32) (x4 : Int32) (x5 : Int32) (x6 : Int32)
    (hW : (((4 ≤ x6) → J E mX12_copyText d Q 0 0 14 [some (.ref (eB E + 83)), some (.int x1), some (.int x2), some (.int (x3 + 1)), none, none, none] [] h I L) ∧ (¬ (4 ≤ x6) → (vp_in ((4 * x4) + x6) 17152 ∧ (vp_in ((4 * x5) + x6) 17152 ∧ J E mX12_copyText d Q 0 0 85 [some (.ref (eB E + 83)), some (.int x1), some (.int x2), some (.int x3), some (.int x4), some (.int x5), some (.int (x6 + 1))] [] h (uI (uI (uI I 120 (((4 * x5) + x6).toNatClampNeg) (I 120 (((4 * x4) + x6).toNatClampNeg))) 121 (((4 * x5) + x6).toNatClampNeg) (I 121 (((4 * x4) + x6).toNatClampNeg))) 122 (((4 * x5) + x6).toNatClampNeg) (I 122 (((4 * x4) + x6).toNatClampNeg))) L))))) :
    J E mX12_copyText d Q 0 0 85 [some (.ref (eB E + 83)), some (.int x1), some (.int x2), some (.int x3), some (.int x4), some (.int x5), some (.int x6)] [] h I L := by
  refine J.iload dX12_copyText_85 rfl ?_
  refine J.iconst (v := 4) dX12_copyText_87 (by decide) ?_
  refine J.ic_ge 169 dX12_copyText_88 (by decide) (fun hc1 => ?_) (fun hc1 => ?_)
  · have hW := hW.1 hc1
    refine J.iinc (v := x3 + 1) (vs' := [some (.ref (eB E + 83)), some (.int x1), some (.int x2), some (.int (x3 + 1)), some (.int x4), some (.int x5), some (.int x6)]) dX12_copyText_169 rfl (by rfl) (by decide) rfl ?_
    refine J.goto 14 dX12_copyText_172 (by decide) ?_
    exact J.mask [true, true, true, true, false, false, false] rfl hW
  · have hW := hW.2 hc1
    refine J.aload_n dX12_copyText_91 rfl rfl ?_
    refine J.getR (r := 120) fl_X12_120 rfl dX12_copyText_92 (lt83 hs) (kk83 hs) (rr83_37 hs) ?_
    refine J.iconst (v := 4) dX12_copyText_95 (by decide) ?_
    refine J.iload dX12_copyText_96 rfl ?_
    refine J.imul dX12_copyText_98 ?_
    refine J.iload dX12_copyText_99 rfl ?_
    refine J.iadd dX12_copyText_101 ?_
    refine J.aload_n dX12_copyText_102 rfl rfl ?_
    refine J.getR (r := 120) fl_X12_120 rfl dX12_copyText_103 (lt83 hs) (kk83 hs) (rr83_37 hs) ?_
    refine J.iconst (v := 4) dX12_copyText_106 (by decide) ?_
    refine J.iload dX12_copyText_107 rfl ?_
    refine J.imul dX12_copyText_109 ?_
    refine J.iload dX12_copyText_110 rfl ?_
    refine J.iadd dX12_copyText_112 ?_
    obtain ⟨hb2, hW⟩ := hW
    refine J.iald (x := I 120 (((4 * x4) + x6).toNatClampNeg)) dX12_copyText_113 (lt120 hs) (kk120 hs) hb2 rfl ?_
    obtain ⟨hb3, hW⟩ := hW
    refine J.iast dX12_copyText_114 (lt120 hs) (kk120 hs) hb3 ?_
    refine J.aload_n dX12_copyText_115 rfl rfl ?_
    refine J.getR (r := 121) fl_X12_123 rfl dX12_copyText_116 (lt83 hs) (kk83 hs) (rr83_38 hs) ?_
    refine J.iconst (v := 4) dX12_copyText_119 (by decide) ?_
    refine J.iload dX12_copyText_120 rfl ?_
    refine J.imul dX12_copyText_122 ?_
    refine J.iload dX12_copyText_123 rfl ?_
    refine J.iadd dX12_copyText_125 ?_
    refine J.aload_n dX12_copyText_126 rfl rfl ?_
    refine J.getR (r := 121) fl_X12_123 rfl dX12_copyText_127 (lt83 hs) (kk83 hs) (rr83_38 hs) ?_
    refine J.iconst (v := 4) dX12_copyText_130 (by decide) ?_
    refine J.iload dX12_copyText_131 rfl ?_
    refine J.imul dX12_copyText_133 ?_
    refine J.iload dX12_copyText_134 rfl ?_
    refine J.iadd dX12_copyText_136 ?_
    refine J.iald (x := I 121 (((4 * x4) + x6).toNatClampNeg)) dX12_copyText_137 (lt121 hs) (kk121 hs) hb2 rfl ?_
    refine J.iast dX12_copyText_138 (lt121 hs) (kk121 hs) hb3 ?_
    refine J.aload_n dX12_copyText_139 rfl rfl ?_
    refine J.getR (r := 122) fl_X12_126 rfl dX12_copyText_140 (lt83 hs) (kk83 hs) (rr83_39 hs) ?_
    refine J.iconst (v := 4) dX12_copyText_143 (by decide) ?_
    refine J.iload dX12_copyText_144 rfl ?_
    refine J.imul dX12_copyText_146 ?_
    refine J.iload dX12_copyText_147 rfl ?_
    refine J.iadd dX12_copyText_149 ?_
    refine J.aload_n dX12_copyText_150 rfl rfl ?_
    refine J.getR (r := 122) fl_X12_126 rfl dX12_copyText_151 (lt83 hs) (kk83 hs) (rr83_39 hs) ?_
    refine J.iconst (v := 4) dX12_copyText_154 (by decide) ?_
    refine J.iload dX12_copyText_155 rfl ?_
    refine J.imul dX12_copyText_157 ?_
    refine J.iload dX12_copyText_158 rfl ?_
    refine J.iadd dX12_copyText_160 ?_
    refine J.iald (x := I 122 (((4 * x4) + x6).toNatClampNeg)) dX12_copyText_161 (lt122 hs) (kk122 hs) hb2 rfl ?_
    refine J.iast dX12_copyText_162 (lt122 hs) (kk122 hs) hb3 ?_
    refine J.iinc (v := x6 + 1) (vs' := [some (.ref (eB E + 83)), some (.int x1), some (.int x2), some (.int x3), some (.int x4), some (.int x5), some (.int (x6 + 1))]) dX12_copyText_163 rfl (by rfl) (by decide) rfl ?_
    refine J.goto 85 dX12_copyText_166 (by decide) ?_
    exact hW
set_option maxRecDepth 100000 in
set_option maxHeartbeats 4000000 in
theorem w_X12_wed {E : Envt} {d : Nat} {Q : Pst} {h : mS} {I : mI} {L : mL} (hs : SL h) (x1 : Int32) 
    (hW : (((¬ (x1 < 0) ∧ (¬ ((((uI I 83 0 0) 106 0) - 1) < x1))) → (vp_in x1 120 ∧ ((((I 109 x1.toNatClampNeg) = 1) → (∀ y6 : Int32, y6 = I 107 x1.toNatClampNeg → (∀ y7 : Int32, y7 = I 108 x1.toNatClampNeg → (CT E mX12_mayWed (d + 4) 0 0 [.ref (eB E + 83), .int y6, .int y7] h (uI I 83 0 0) L (qi h L fun r9 I8 => (((r9 = 0) → Q (some (.int 0)) h I8 L) ∧ (¬ (r9 = 0) → (vp_in y6 80 ∧ (vp_in (I8 96 y6.toNatClampNeg) 32 ∧ (CT E mX12_lookAt (d + 4) 0 0 [.ref (eB E + 83), .int y6, .int y7, .int (I8 92 ((I8 96 y6.toNatClampNeg).toNatClampNeg))] h I8 L (qv h L fun I13 => (CT E mX12_pays (d + 4) 0 0 [.ref (eB E + 83), .int x1, .int ((I13 110 x1.toNatClampNeg) - ((I13 110 x1.toNatClampNeg) / 2))] h I13 L (qi h L fun r15 I14 => (((r15 = 0) → Q (some (.int 0)) h I14 L) ∧ (¬ (r15 = 0) → J E mX12_wed (d + 5) Q 0 0 95 [some (.ref (eB E + 83)), some (.int x1), some (.int y6), some (.int y7), some (.int 0)] [] h I14 L))))))))))))))) ∧ (¬ ((I 109 x1.toNatClampNeg) = 1) → Q (some (.int 0)) h (uI I 83 0 0) L)))) ∧ (¬ (¬ (x1 < 0) ∧ (¬ ((((uI I 83 0 0) 106 0) - 1) < x1))) → Q (some (.int 0)) h (uI I 83 0 0) L))) :
    CT E mX12_wed (d + 5) 0 0 [.ref (eB E + 83), .int x1] h I L Q := by
  refine CT.of (by decide) [some (.ref (eB E + 83)), some (.int x1), none, none, none] rfl (Nat.le_of_ble_eq_true rfl) ?_
  refine J.aload_n dX12_wed_0 rfl rfl ?_
  refine J.iconst (v := 0) dX12_wed_1 (by decide) ?_
  refine J.putI fw_X12_202 rfl dX12_wed_2 (lt83 hs) (kk83 hs) ?_
  refine J.aload_n dX12_wed_5 rfl rfl ?_
  refine J.iload_n dX12_wed_6 rfl rfl ?_
  refine J.callV (M' := mX12_isMatch) (index := 433) (bc := 0) (bs := 0) (bc' := 0) (bs' := 0) (st := []) [.int x1] ml_X12_433 cv_X12_isMatch dX12_wed_7 (lt83 hs) (kk83 hs) (by decide) rfl rfl rfl rfl (Nat.le_of_ble_eq_true rfl) (kqi (w_X12_isMatch (d := d + 3) (Q := qi h L (fun v I' => I' = (uI I 83 0 0) ∧ v = bI (¬ (x1 < 0) ∧ (¬ ((((uI I 83 0 0) 106 0) - 1) < x1))))) hs x1 ⟨rfl, rfl, _, rfl, rfl, rfl⟩) (fun v1 I2 hv => ?_))
  rw [hv.1, hv.2]
  refine J.if_eq 23 dX12_wed_10 (by decide) (fun hc3 => ?_) (fun hc3 => ?_)
  · have hc3 := bI_0.mp hc3
    have hW := hW.2 hc3
    refine J.iconst (v := 0) dX12_wed_23 (by decide) ?_
    exact J.reti dX12_wed_24 rfl (bz_nar (Or.inl rfl)) hW
  · have hc3 := bI_n0.mp hc3
    have hW := hW.1 hc3
    refine J.aload_n dX12_wed_13 rfl rfl ?_
    refine J.getR (r := 109) fl_X12_87 rfl dX12_wed_14 (lt83 hs) (kk83 hs) (rr83_26 hs) ?_
    refine J.iload_n dX12_wed_17 rfl rfl ?_
    obtain ⟨hb4, hW⟩ := hW
    refine J.iald (x := I 109 x1.toNatClampNeg) dX12_wed_18 (lt109 hs) (kk109 hs) hb4 rfl ?_
    refine J.iconst (v := 1) dX12_wed_19 (by decide) ?_
    refine J.ic_eq 25 dX12_wed_20 (by decide) (fun hc5 => ?_) (fun hc5 => ?_)
    · have hW := hW.1 hc5
      refine J.aload_n dX12_wed_25 rfl rfl ?_
      refine J.getR (r := 107) fl_X12_81 rfl dX12_wed_26 (lt83 hs) (kk83 hs) (rr83_24 hs) ?_
      refine J.iload_n dX12_wed_29 rfl rfl ?_
      refine J.iald (x := I 107 x1.toNatClampNeg) dX12_wed_30 (lt107 hs) (kk107 hs) hb4 rfl ?_
      refine J.topi (fun y6 hyy6 => ?_)
      have hW := hW y6 hyy6
      refine J.istore_n (vs' := [some (.ref (eB E + 83)), some (.int x1), some (.int y6), none, none]) dX12_wed_31 rfl (by decide) rfl ?_
      refine J.aload_n dX12_wed_32 rfl rfl ?_
      refine J.getR (r := 108) fl_X12_84 rfl dX12_wed_33 (lt83 hs) (kk83 hs) (rr83_25 hs) ?_
      refine J.iload_n dX12_wed_36 rfl rfl ?_
      refine J.iald (x := I 108 x1.toNatClampNeg) dX12_wed_37 (lt108 hs) (kk108 hs) hb4 rfl ?_
      refine J.topi (fun y7 hyy7 => ?_)
      have hW := hW y7 hyy7
      refine J.istore_n (vs' := [some (.ref (eB E + 83)), some (.int x1), some (.int y6), some (.int y7), none]) dX12_wed_38 rfl (by decide) rfl ?_
      refine J.aload_n dX12_wed_39 rfl rfl ?_
      refine J.iload_n dX12_wed_40 rfl rfl ?_
      refine J.iload_n dX12_wed_41 rfl rfl ?_
      refine J.callV (M' := mX12_mayWed) (index := 426) (bc := 0) (bs := 0) (bc' := 0) (bs' := 0) (st := []) [.int y6, .int y7] ml_X12_426 cv_X12_mayWed dX12_wed_42 (lt83 hs) (kk83 hs) (by decide) rfl rfl rfl rfl (Nat.le_of_ble_eq_true rfl) (kqi hW (fun r9 I8 hW => ?_))
      refine J.if_ne 50 dX12_wed_45 (by decide) (fun hc10 => ?_) (fun hc10 => ?_)
      · have hW := hW.2 hc10
        refine J.aload_n dX12_wed_50 rfl rfl ?_
        refine J.iload_n dX12_wed_51 rfl rfl ?_
        refine J.iload_n dX12_wed_52 rfl rfl ?_
        refine J.aload_n dX12_wed_53 rfl rfl ?_
        refine J.getR (r := 92) fl_X12_35 rfl dX12_wed_54 (lt83 hs) (kk83 hs) (rr83_9 hs) ?_
        refine J.aload_n dX12_wed_57 rfl rfl ?_
        refine J.getR (r := 96) fl_X12_47 rfl dX12_wed_58 (lt83 hs) (kk83 hs) (rr83_13 hs) ?_
        refine J.iload_n dX12_wed_61 rfl rfl ?_
        obtain ⟨hb11, hW⟩ := hW
        refine J.iald (x := I8 96 y6.toNatClampNeg) dX12_wed_62 (lt96 hs) (kk96 hs) hb11 rfl ?_
        obtain ⟨hb12, hW⟩ := hW
        refine J.iald (x := I8 92 ((I8 96 y6.toNatClampNeg).toNatClampNeg)) dX12_wed_63 (lt92 hs) (kk92 hs) hb12 rfl ?_
        refine J.callV (M' := mX12_lookAt) (index := 413) (bc := 0) (bs := 0) (bc' := 0) (bs' := 0) (st := []) [.int y6, .int y7, .int (I8 92 ((I8 96 y6.toNatClampNeg).toNatClampNeg))] ml_X12_413 cv_X12_lookAt dX12_wed_64 (lt83 hs) (kk83 hs) (by decide) rfl rfl rfl rfl (Nat.le_of_ble_eq_true rfl) (kqv hW (fun I13 hW => ?_))
        refine J.aload_n dX12_wed_67 rfl rfl ?_
        refine J.iload_n dX12_wed_68 rfl rfl ?_
        refine J.aload_n dX12_wed_69 rfl rfl ?_
        refine J.getR (r := 110) fl_X12_90 rfl dX12_wed_70 (lt83 hs) (kk83 hs) (rr83_27 hs) ?_
        refine J.iload_n dX12_wed_73 rfl rfl ?_
        refine J.iald (x := I13 110 x1.toNatClampNeg) dX12_wed_74 (lt110 hs) (kk110 hs) hb4 rfl ?_
        refine J.aload_n dX12_wed_75 rfl rfl ?_
        refine J.getR (r := 110) fl_X12_90 rfl dX12_wed_76 (lt83 hs) (kk83 hs) (rr83_27 hs) ?_
        refine J.iload_n dX12_wed_79 rfl rfl ?_
        refine J.iald (x := I13 110 x1.toNatClampNeg) dX12_wed_80 (lt110 hs) (kk110 hs) hb4 rfl ?_
        refine J.iconst (v := 2) dX12_wed_81 (by decide) ?_
        refine J.idiv dX12_wed_82 (by decide) ?_
        refine J.isub dX12_wed_83 ?_
        refine J.callV (M' := mX12_pays) (index := 436) (bc := 0) (bs := 0) (bc' := 0) (bs' := 0) (st := []) [.int x1, .int ((I13 110 x1.toNatClampNeg) - ((I13 110 x1.toNatClampNeg) / 2))] ml_X12_436 cv_X12_pays dX12_wed_84 (lt83 hs) (kk83 hs) (by decide) rfl rfl rfl rfl (Nat.le_of_ble_eq_true rfl) (kqi hW (fun r15 I14 hW => ?_))
        refine J.if_ne 92 dX12_wed_87 (by decide) (fun hc16 => ?_) (fun hc16 => ?_)
        · have hW := hW.2 hc16
          refine J.iconst (v := 0) dX12_wed_92 (by decide) ?_
          refine J.istore (vs' := [some (.ref (eB E + 83)), some (.int x1), some (.int y6), some (.int y7), some (.int 0)]) dX12_wed_93 (by decide) rfl ?_
          exact hW
        · have hW := hW.1 hc16
          refine J.iconst (v := 0) dX12_wed_90 (by decide) ?_
          exact J.reti dX12_wed_91 rfl (bz_nar (Or.inl rfl)) hW
      · have hW := hW.1 hc10
        refine J.iconst (v := 0) dX12_wed_48 (by decide) ?_
        exact J.reti dX12_wed_49 rfl (bz_nar (Or.inl rfl)) hW
    · have hW := hW.2 hc5
      refine J.iconst (v := 0) dX12_wed_23 (by decide) ?_
      exact J.reti dX12_wed_24 rfl (bz_nar (Or.inl rfl)) hW
set_option maxRecDepth 100000 in
set_option maxHeartbeats 4000000 in
theorem w_X12_wed_95 {E : Envt} {d : Nat} {Q : Pst} {h : mS} {I : mI} {L : mL} (hs : SL h)    (x1 : Int32) (x2 : Int32) (x3 : Int32) (x4 : Int32)
    (hW : (((11 ≤ x4) → (vp_in x2 80 ∧ (vp_in (I 96 x2.toNatClampNeg) 32 ∧ (CT E mX12_copyText (d + 4) 0 0 [.ref (eB E + 83), .int (I 92 ((I 96 x2.toNatClampNeg).toNatClampNeg)), .int (7 + (2 * x1))] h I L (qv h L fun I4 => (vp_in x3 80 ∧ (vp_in (I4 96 x3.toNatClampNeg) 32 ∧ (CT E mX12_copyText (d + 4) 0 0 [.ref (eB E + 83), .int (I4 92 ((I4 96 x3.toNatClampNeg).toNatClampNeg)), .int ((7 + (2 * x1)) + 1)] h I4 L (qv h L fun I7 => (CT E mX12_comes (d + 4) 0 0 [.ref (eB E + 83), .int x1, .int 2] h I7 L (qv h L fun I8 => (CT E mX12_setFeud (d + 4) 0 0 [.ref (eB E + 83), .int (I8 96 x2.toNatClampNeg), .int (I8 96 x3.toNatClampNeg), .int 0] h (uI (uI (uI (uI (uI I8 101 x2.toNatClampNeg x3) 101 x3.toNatClampNeg x2) 103 x2.toNatClampNeg 1) 103 x3.toNatClampNeg 1) 102 x2.toNatClampNeg 0) L (qv h L fun I9 => Q (some (.int 1)) h I9 L))))))))))))) ∧ (¬ (11 ≤ x4) → (vp_in x4 11 ∧ (vp_in ((11 * x1) + x4) 1320 ∧ J E mX12_wed (d + 5) Q 0 0 95 [some (.ref (eB E + 83)), some (.int x1), some (.int x2), some (.int x3), some (.int (x4 + 1))] [] h (uI I 115 (((11 * x1) + x4).toNatClampNeg) (I 133 x4.toNatClampNeg)) L))))) :
    J E mX12_wed (d + 5) Q 0 0 95 [some (.ref (eB E + 83)), some (.int x1), some (.int x2), some (.int x3), some (.int x4)] [] h I L := by
  refine J.iload dX12_wed_95 rfl ?_
  refine J.bipush (v := 11) dX12_wed_97 (by decide) ?_
  refine J.ic_ge 127 dX12_wed_99 (by decide) (fun hc1 => ?_) (fun hc1 => ?_)
  · have hW := hW.1 hc1
    refine J.aload_n dX12_wed_127 rfl rfl ?_
    refine J.aload_n dX12_wed_128 rfl rfl ?_
    refine J.getR (r := 92) fl_X12_35 rfl dX12_wed_129 (lt83 hs) (kk83 hs) (rr83_9 hs) ?_
    refine J.aload_n dX12_wed_132 rfl rfl ?_
    refine J.getR (r := 96) fl_X12_47 rfl dX12_wed_133 (lt83 hs) (kk83 hs) (rr83_13 hs) ?_
    refine J.iload_n dX12_wed_136 rfl rfl ?_
    obtain ⟨hb2, hW⟩ := hW
    refine J.iald (x := I 96 x2.toNatClampNeg) dX12_wed_137 (lt96 hs) (kk96 hs) hb2 rfl ?_
    obtain ⟨hb3, hW⟩ := hW
    refine J.iald (x := I 92 ((I 96 x2.toNatClampNeg).toNatClampNeg)) dX12_wed_138 (lt92 hs) (kk92 hs) hb3 rfl ?_
    refine J.bipush (v := 7) dX12_wed_139 (by decide) ?_
    refine J.iconst (v := 2) dX12_wed_141 (by decide) ?_
    refine J.iload_n dX12_wed_142 rfl rfl ?_
    refine J.imul dX12_wed_143 ?_
    refine J.iadd dX12_wed_144 ?_
    refine J.callV (M' := mX12_copyText) (index := 439) (bc := 0) (bs := 0) (bc' := 0) (bs' := 0) (st := []) [.int (I 92 ((I 96 x2.toNatClampNeg).toNatClampNeg)), .int (7 + (2 * x1))] ml_X12_439 cv_X12_copyText dX12_wed_145 (lt83 hs) (kk83 hs) (by decide) rfl rfl rfl rfl (Nat.le_of_ble_eq_true rfl) (kqv hW (fun I4 hW => ?_))
    refine J.aload_n dX12_wed_148 rfl rfl ?_
    refine J.aload_n dX12_wed_149 rfl rfl ?_
    refine J.getR (r := 92) fl_X12_35 rfl dX12_wed_150 (lt83 hs) (kk83 hs) (rr83_9 hs) ?_
    refine J.aload_n dX12_wed_153 rfl rfl ?_
    refine J.getR (r := 96) fl_X12_47 rfl dX12_wed_154 (lt83 hs) (kk83 hs) (rr83_13 hs) ?_
    refine J.iload_n dX12_wed_157 rfl rfl ?_
    obtain ⟨hb5, hW⟩ := hW
    refine J.iald (x := I4 96 x3.toNatClampNeg) dX12_wed_158 (lt96 hs) (kk96 hs) hb5 rfl ?_
    obtain ⟨hb6, hW⟩ := hW
    refine J.iald (x := I4 92 ((I4 96 x3.toNatClampNeg).toNatClampNeg)) dX12_wed_159 (lt92 hs) (kk92 hs) hb6 rfl ?_
    refine J.bipush (v := 7) dX12_wed_160 (by decide) ?_
    refine J.iconst (v := 2) dX12_wed_162 (by decide) ?_
    refine J.iload_n dX12_wed_163 rfl rfl ?_
    refine J.imul dX12_wed_164 ?_
    refine J.iadd dX12_wed_165 ?_
    refine J.iconst (v := 1) dX12_wed_166 (by decide) ?_
    refine J.iadd dX12_wed_167 ?_
    refine J.callV (M' := mX12_copyText) (index := 439) (bc := 0) (bs := 0) (bc' := 0) (bs' := 0) (st := []) [.int (I4 92 ((I4 96 x3.toNatClampNeg).toNatClampNeg)), .int ((7 + (2 * x1)) + 1)] ml_X12_439 cv_X12_copyText dX12_wed_168 (lt83 hs) (kk83 hs) (by decide) rfl rfl rfl rfl (Nat.le_of_ble_eq_true rfl) (kqv hW (fun I7 hW => ?_))
    refine J.aload_n dX12_wed_171 rfl rfl ?_
    refine J.iload_n dX12_wed_172 rfl rfl ?_
    refine J.iconst (v := 2) dX12_wed_173 (by decide) ?_
    refine J.callV (M' := mX12_comes) (index := 249) (bc := 0) (bs := 0) (bc' := 0) (bs' := 0) (st := []) [.int x1, .int 2] ml_X12_249 cv_X12_comes dX12_wed_174 (lt83 hs) (kk83 hs) (by decide) rfl rfl rfl rfl (Nat.le_of_ble_eq_true rfl) (kqv hW (fun I8 hW => ?_))
    refine J.aload_n dX12_wed_177 rfl rfl ?_
    refine J.getR (r := 101) fl_X12_63 rfl dX12_wed_178 (lt83 hs) (kk83 hs) (rr83_18 hs) ?_
    refine J.iload_n dX12_wed_181 rfl rfl ?_
    refine J.iload_n dX12_wed_182 rfl rfl ?_
    refine J.iast dX12_wed_183 (lt101 hs) (kk101 hs) hb2 ?_
    refine J.aload_n dX12_wed_184 rfl rfl ?_
    refine J.getR (r := 101) fl_X12_63 rfl dX12_wed_185 (lt83 hs) (kk83 hs) (rr83_18 hs) ?_
    refine J.iload_n dX12_wed_188 rfl rfl ?_
    refine J.iload_n dX12_wed_189 rfl rfl ?_
    refine J.iast dX12_wed_190 (lt101 hs) (kk101 hs) hb5 ?_
    refine J.aload_n dX12_wed_191 rfl rfl ?_
    refine J.getR (r := 103) fl_X12_69 rfl dX12_wed_192 (lt83 hs) (kk83 hs) (rr83_20 hs) ?_
    refine J.iload_n dX12_wed_195 rfl rfl ?_
    refine J.iconst (v := 1) dX12_wed_196 (by decide) ?_
    refine J.zast dX12_wed_197 (lt103 hs) (kk103 hs) hb2 (Or.inr rfl) ?_
    refine J.aload_n dX12_wed_198 rfl rfl ?_
    refine J.getR (r := 103) fl_X12_69 rfl dX12_wed_199 (lt83 hs) (kk83 hs) (rr83_20 hs) ?_
    refine J.iload_n dX12_wed_202 rfl rfl ?_
    refine J.iconst (v := 1) dX12_wed_203 (by decide) ?_
    refine J.zast dX12_wed_204 (lt103 hs) (kk103 hs) hb5 (Or.inr rfl) ?_
    refine J.aload_n dX12_wed_205 rfl rfl ?_
    refine J.getR (r := 102) fl_X12_66 rfl dX12_wed_206 (lt83 hs) (kk83 hs) (rr83_19 hs) ?_
    refine J.iload_n dX12_wed_209 rfl rfl ?_
    refine J.iconst (v := 0) dX12_wed_210 (by decide) ?_
    refine J.zast dX12_wed_211 (lt102 hs) (kk102 hs) hb2 (Or.inl rfl) ?_
    refine J.aload_n dX12_wed_212 rfl rfl ?_
    refine J.aload_n dX12_wed_213 rfl rfl ?_
    refine J.getR (r := 96) fl_X12_47 rfl dX12_wed_214 (lt83 hs) (kk83 hs) (rr83_13 hs) ?_
    refine J.iload_n dX12_wed_217 rfl rfl ?_
    refine J.iald (x := I8 96 x2.toNatClampNeg) dX12_wed_218 (lt96 hs) (kk96 hs) hb2 rfl ?_
    refine J.aload_n dX12_wed_219 rfl rfl ?_
    refine J.getR (r := 96) fl_X12_47 rfl dX12_wed_220 (lt83 hs) (kk83 hs) (rr83_13 hs) ?_
    refine J.iload_n dX12_wed_223 rfl rfl ?_
    refine J.iald (x := I8 96 x3.toNatClampNeg) dX12_wed_224 (lt96 hs) (kk96 hs) hb5 rfl ?_
    refine J.iconst (v := 0) dX12_wed_225 (by decide) ?_
    refine J.callV (M' := mX12_setFeud) (index := 237) (bc := 0) (bs := 0) (bc' := 0) (bs' := 0) (st := []) [.int (I8 96 x2.toNatClampNeg), .int (I8 96 x3.toNatClampNeg), .int 0] ml_X12_237 cv_X12_setFeud dX12_wed_226 (lt83 hs) (kk83 hs) (by decide) rfl rfl rfl rfl (Nat.le_of_ble_eq_true rfl) (kqv hW (fun I9 hW => ?_))
    refine J.iconst (v := 1) dX12_wed_229 (by decide) ?_
    exact J.reti dX12_wed_230 rfl (bz_nar (Or.inr rfl)) hW
  · have hW := hW.2 hc1
    refine J.aload_n dX12_wed_102 rfl rfl ?_
    refine J.getR (r := 115) fl_X12_105 rfl dX12_wed_103 (lt83 hs) (kk83 hs) (rr83_32 hs) ?_
    refine J.bipush (v := 11) dX12_wed_106 (by decide) ?_
    refine J.iload_n dX12_wed_108 rfl rfl ?_
    refine J.imul dX12_wed_109 ?_
    refine J.iload dX12_wed_110 rfl ?_
    refine J.iadd dX12_wed_112 ?_
    refine J.aload_n dX12_wed_113 rfl rfl ?_
    refine J.getR (r := 133) fl_X12_159 rfl dX12_wed_114 (lt83 hs) (kk83 hs) (rr83_61 hs) ?_
    refine J.iload dX12_wed_117 rfl ?_
    obtain ⟨hb10, hW⟩ := hW
    refine J.iald (x := I 133 x4.toNatClampNeg) dX12_wed_119 (lt133 hs) (kk133 hs) hb10 rfl ?_
    obtain ⟨hb11, hW⟩ := hW
    refine J.iast dX12_wed_120 (lt115 hs) (kk115 hs) hb11 ?_
    refine J.iinc (v := x4 + 1) (vs' := [some (.ref (eB E + 83)), some (.int x1), some (.int x2), some (.int x3), some (.int (x4 + 1))]) dX12_wed_121 rfl (by rfl) (by decide) rfl ?_
    refine J.goto 95 dX12_wed_124 (by decide) ?_
    exact hW
