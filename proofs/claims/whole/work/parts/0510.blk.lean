set_option maxRecDepth 100000 in
set_option maxHeartbeats 4000000 in
theorem w_X9_linkAt {E : Envt} {d : Nat} {Q : Pst} {h : mS} {I : mI} {L : mL} (hs : SL h) (x1 : Int32) 
    (hW : (∀ y2 : Int32, y2 = (if (I 77 7) ≤ (x1 + 1) then 0 else x1 + 1 : Int32) → (vp_in x1 4 ∧ (vp_in y2 4 ∧ Q (some (.int (((I 82 x1.toNatClampNeg) * 8) + (I 82 y2.toNatClampNeg)))) h I L)))) :
    CT E mX9_linkAt d 0 0 [.ref (eB E + 77), .int x1] h I L Q := by
  refine CT.of (by decide) [some (.ref (eB E + 77)), some (.int x1), none] rfl (Nat.le_of_ble_eq_true rfl) ?_
  refine J.iload_n dX9_linkAt_0 rfl rfl ?_
  refine J.iconst (v := 1) dX9_linkAt_1 (by decide) ?_
  refine J.iadd dX9_linkAt_2 ?_
  refine J.aload_n dX9_linkAt_3 rfl rfl ?_
  refine J.getI (x := I 77 7) fl_X9_67 rfl dX9_linkAt_4 (lt77 hs) (kk77 hs) rfl ?_
  have hj : J E mX9_linkAt d Q 0 0 17 [some (.ref (eB E + 77)), some (.int x1), none] [.int (if (I 77 7) ≤ (x1 + 1) then 0 else x1 + 1 : Int32)] h I L := by
    refine J.topi (fun y2 hyy2 => ?_)
    have hW := hW y2 hyy2
    refine J.istore_n (vs' := [some (.ref (eB E + 77)), some (.int x1), some (.int y2)]) dX9_linkAt_17 rfl (by decide) rfl ?_
    refine J.aload_n dX9_linkAt_18 rfl rfl ?_
    refine J.getR (r := 82) fl_X9_24 rfl dX9_linkAt_19 (lt77 hs) (kk77 hs) (rr77_6 hs) ?_
    refine J.iload_n dX9_linkAt_22 rfl rfl ?_
    obtain ⟨hb3, hW⟩ := hW
    refine J.iald (x := I 82 x1.toNatClampNeg) dX9_linkAt_23 (lt82 hs) (kk82 hs) hb3 rfl ?_
    refine J.bipush (v := 8) dX9_linkAt_24 (by decide) ?_
    refine J.imul dX9_linkAt_26 ?_
    refine J.aload_n dX9_linkAt_27 rfl rfl ?_
    refine J.getR (r := 82) fl_X9_24 rfl dX9_linkAt_28 (lt77 hs) (kk77 hs) (rr77_6 hs) ?_
    refine J.iload_n dX9_linkAt_31 rfl rfl ?_
    obtain ⟨hb4, hW⟩ := hW
    refine J.iald (x := I 82 y2.toNatClampNeg) dX9_linkAt_32 (lt82 hs) (kk82 hs) hb4 rfl ?_
    refine J.iadd dX9_linkAt_33 ?_
    exact J.reti dX9_linkAt_34 rfl rfl hW
  refine J.ic_ge 16 dX9_linkAt_7 (by decide) (fun hc1 => ?_) (fun hc1 => ?_)
  · refine J.iconst (v := 0) dX9_linkAt_16 (by decide) ?_
    rw [show ((if (I 77 7) ≤ (x1 + 1) then 0 else x1 + 1 : Int32) = 0) from by simp only [eq_true hc1, if_true, if_false, bI_true, bI_false, and_true, true_and, and_false, false_and, or_true, true_or, or_false, false_or, not_true_eq_false, not_false_eq_true]] at hj
    exact hj
  · refine J.iload_n dX9_linkAt_10 rfl rfl ?_
    refine J.iconst (v := 1) dX9_linkAt_11 (by decide) ?_
    refine J.iadd dX9_linkAt_12 ?_
    refine J.goto 17 dX9_linkAt_13 (by decide) ?_
    rw [show ((if (I 77 7) ≤ (x1 + 1) then 0 else x1 + 1 : Int32) = x1 + 1) from by simp only [eq_false hc1, if_true, if_false, bI_true, bI_false, and_true, true_and, and_false, false_and, or_true, true_or, or_false, false_or, not_true_eq_false, not_false_eq_true]] at hj
    exact hj
set_option maxRecDepth 100000 in
set_option maxHeartbeats 4000000 in
theorem w_X9_brideAt {E : Envt} {d : Nat} {Q : Pst} {h : mS} {I : mI} {L : mL} (hs : SL h) (x1 : Int32) 
    (hW : (CT E mX9_linkAt d 0 0 [.ref (eB E + 77), .int x1] h I L (qi h L fun r2 I1 => (vp_in r2 64 ∧ Q (some (.int (I1 78 r2.toNatClampNeg))) h I1 L)))) :
    CT E mX9_brideAt (d + 1) 0 0 [.ref (eB E + 77), .int x1] h I L Q := by
  refine CT.of (by decide) [some (.ref (eB E + 77)), some (.int x1)] rfl (Nat.le_of_ble_eq_true rfl) ?_
  refine J.aload_n dX9_brideAt_0 rfl rfl ?_
  refine J.getR (r := 78) fl_X9_9 rfl dX9_brideAt_1 (lt77 hs) (kk77 hs) (rr77_2 hs) ?_
  refine J.aload_n dX9_brideAt_4 rfl rfl ?_
  refine J.iload_n dX9_brideAt_5 rfl rfl ?_
  refine J.callV (M' := mX9_linkAt) (index := 107) (bc := 0) (bs := 0) (bc' := 0) (bs' := 0) (st := [.ref (eB E + 78)]) [.int x1] ml_X9_107 cv_X9_linkAt dX9_brideAt_6 (lt77 hs) (kk77 hs) (by decide) rfl rfl rfl rfl (Nat.le_of_ble_eq_true rfl) (kqi hW (fun r2 I1 hW => ?_))
  obtain ⟨hb3, hW⟩ := hW
  refine J.iald (x := I1 78 r2.toNatClampNeg) dX9_brideAt_9 (lt78 hs) (kk78 hs) hb3 rfl ?_
  exact J.reti dX9_brideAt_10 rfl rfl hW
set_option maxRecDepth 100000 in
set_option maxHeartbeats 4000000 in
theorem w_X9_groomAt {E : Envt} {d : Nat} {Q : Pst} {h : mS} {I : mI} {L : mL} (hs : SL h) (x1 : Int32) 
    (hW : (CT E mX9_linkAt d 0 0 [.ref (eB E + 77), .int x1] h I L (qi h L fun r2 I1 => (vp_in r2 64 ∧ Q (some (.int (I1 79 r2.toNatClampNeg))) h I1 L)))) :
    CT E mX9_groomAt (d + 1) 0 0 [.ref (eB E + 77), .int x1] h I L Q := by
  refine CT.of (by decide) [some (.ref (eB E + 77)), some (.int x1)] rfl (Nat.le_of_ble_eq_true rfl) ?_
  refine J.aload_n dX9_groomAt_0 rfl rfl ?_
  refine J.getR (r := 79) fl_X9_15 rfl dX9_groomAt_1 (lt77 hs) (kk77 hs) (rr77_3 hs) ?_
  refine J.aload_n dX9_groomAt_4 rfl rfl ?_
  refine J.iload_n dX9_groomAt_5 rfl rfl ?_
  refine J.callV (M' := mX9_linkAt) (index := 107) (bc := 0) (bs := 0) (bc' := 0) (bs' := 0) (st := [.ref (eB E + 79)]) [.int x1] ml_X9_107 cv_X9_linkAt dX9_groomAt_6 (lt77 hs) (kk77 hs) (by decide) rfl rfl rfl rfl (Nat.le_of_ble_eq_true rfl) (kqi hW (fun r2 I1 hW => ?_))
  obtain ⟨hb3, hW⟩ := hW
  refine J.iald (x := I1 79 r2.toNatClampNeg) dX9_groomAt_9 (lt79 hs) (kk79 hs) hb3 rfl ?_
  exact J.reti dX9_groomAt_10 rfl rfl hW
set_option maxRecDepth 100000 in
set_option maxHeartbeats 4000000 in
theorem w_X11_within {E : Envt} {d : Nat} {Q : Pst} {h : mS} {I : mI} {L : mL} (hs : SL h) (x0 : Int32) (x1 : Int32) (x2 : Int32) 
    (hW : Q (some (.int (bI (¬ (x0 < x1) ∧ (¬ (x2 < x0)))))) h I L) :
    CT E mX11_within d 0 0 [.int x0, .int x1, .int x2] h I L Q := by
  refine CT.of (by decide) [some (.int x0), some (.int x1), some (.int x2)] rfl (Nat.le_of_ble_eq_true rfl) ?_
  refine J.iload_n dX11_within_0 rfl rfl ?_
  refine J.iload_n dX11_within_1 rfl rfl ?_
  have hj : J E mX11_within d Q 0 0 15 [some (.int x0), some (.int x1), some (.int x2)] [.int (bI (¬ (x0 < x1) ∧ (¬ (x2 < x0))))] h I L := by
    exact J.reti dX11_within_15 rfl (bz_nar (bI_bz _)) hW
  refine J.ic_lt 14 dX11_within_2 (by decide) (fun hc1 => ?_) (fun hc1 => ?_)
  · refine J.iconst (v := 0) dX11_within_14 (by decide) ?_
    rw [show bI (¬ (x0 < x1) ∧ (¬ (x2 < x0))) = 0 from bI_f (by simp only [eq_true hc1, and_true, true_and, and_false, false_and, or_true, true_or, or_false, false_or, not_true_eq_false, not_false_eq_true])] at hj
    exact hj
  · refine J.iload_n dX11_within_5 rfl rfl ?_
    refine J.iload_n dX11_within_6 rfl rfl ?_
    refine J.ic_gt 14 dX11_within_7 (by decide) (fun hc2 => ?_) (fun hc2 => ?_)
    · refine J.iconst (v := 0) dX11_within_14 (by decide) ?_
      rw [show bI (¬ (x0 < x1) ∧ (¬ (x2 < x0))) = 0 from bI_f (by simp only [eq_false hc1, eq_true hc2, and_true, true_and, and_false, false_and, or_true, true_or, or_false, false_or, not_true_eq_false, not_false_eq_true])] at hj
      exact hj
    · refine J.iconst (v := 1) dX11_within_10 (by decide) ?_
      refine J.goto 15 dX11_within_11 (by decide) ?_
      rw [show bI (¬ (x0 < x1) ∧ (¬ (x2 < x0))) = 1 from bI_t (by simp only [eq_false hc1, eq_false hc2, and_true, true_and, and_false, false_and, or_true, true_or, or_false, false_or, not_true_eq_false, not_false_eq_true])] at hj
      exact hj
set_option maxRecDepth 100000 in
set_option maxHeartbeats 4000000 in
theorem w_X11_isVillage {E : Envt} {d : Nat} {Q : Pst} {h : mS} {I : mI} {L : mL} (hs : SL h) (x0 : Int32) 
    (hW : Q (some (.int (bI (¬ (x0 < 0) ∧ (¬ (4 < x0)))))) h I L) :
    CT E mX11_isVillage (d + 1) 0 0 [.int x0] h I L Q := by
  refine CT.of (by decide) [some (.int x0)] rfl (Nat.le_of_ble_eq_true rfl) ?_
  refine J.iload_n dX11_isVillage_0 rfl rfl ?_
  refine J.iconst (v := 0) dX11_isVillage_1 (by decide) ?_
  refine J.iconst (v := 4) dX11_isVillage_2 (by decide) ?_
  refine J.callS (M' := mX11_within) (index := 63) (bc := 0) (bs := 0) (bc' := 0) (bs' := 0) (st := []) [.int x0, .int 0, .int 4] ml_X11_63 cv_X11_within dX11_isVillage_3 rfl rfl (Nat.le_of_ble_eq_true rfl) (kqi (w_X11_within (d := d) (Q := qi h L (fun v I' => I' = I ∧ v = bI (¬ (x0 < 0) ∧ (¬ (4 < x0))))) hs x0 0 4 ⟨rfl, rfl, _, rfl, rfl, rfl⟩) (fun v1 I2 hv => ?_))
  rw [hv.1, hv.2]
  exact J.reti dX11_isVillage_6 rfl (bz_nar (bI_bz _)) hW
set_option maxRecDepth 100000 in
set_option maxHeartbeats 4000000 in
theorem w_X11_house {E : Envt} {d : Nat} {Q : Pst} {h : mS} {I : mI} {L : mL} (hs : SL h) (x1 : Int32) (x2 : Int32) (x3 : Int32) 
    (hW : (((¬ (x1 < 0) ∧ (¬ (5 < x1))) → (((¬ (x2 < 0) ∧ (¬ (4 < x2))) → (((¬ (x3 < 0) ∧ (¬ (100000 < x3))) → (CT E mX1_add (d + 1) 0 0 [.ref (eB E + 2), .int x1, .int x2, .int x3] h I L (qi h L fun r11 I10 => Q (some (.int r11)) h I10 L))) ∧ (¬ (¬ (x3 < 0) ∧ (¬ (100000 < x3))) → Q (some (.int (-1))) h I L))) ∧ (¬ (¬ (x2 < 0) ∧ (¬ (4 < x2))) → Q (some (.int (-1))) h I L))) ∧ (¬ (¬ (x1 < 0) ∧ (¬ (5 < x1))) → Q (some (.int (-1))) h I L))) :
    CT E mX11_house (d + 2) 0 0 [.ref (eB E + 0), .int x1, .int x2, .int x3] h I L Q := by
  refine CT.of (by decide) [some (.ref (eB E + 0)), some (.int x1), some (.int x2), some (.int x3)] rfl (Nat.le_of_ble_eq_true rfl) ?_
  refine J.iload_n dX11_house_0 rfl rfl ?_
  refine J.iconst (v := 0) dX11_house_1 (by decide) ?_
  refine J.iconst (v := 5) dX11_house_2 (by decide) ?_
  refine J.callS (M' := mX11_within) (index := 63) (bc := 0) (bs := 0) (bc' := 0) (bs' := 0) (st := []) [.int x1, .int 0, .int 5] ml_X11_63 cv_X11_within dX11_house_3 rfl rfl (Nat.le_of_ble_eq_true rfl) (kqi (w_X11_within (d := d + 1) (Q := qi h L (fun v I' => I' = I ∧ v = bI (¬ (x1 < 0) ∧ (¬ (5 < x1))))) hs x1 0 5 ⟨rfl, rfl, _, rfl, rfl, rfl⟩) (fun v1 I2 hv => ?_))
  rw [hv.1, hv.2]
  refine J.if_eq 26 dX11_house_6 (by decide) (fun hc3 => ?_) (fun hc3 => ?_)
  · have hc3 := bI_0.mp hc3
    have hW := hW.2 hc3
    refine J.iconst (v := (-1)) dX11_house_26 (by decide) ?_
    exact J.reti dX11_house_27 rfl rfl hW
  · have hc3 := bI_n0.mp hc3
    have hW := hW.1 hc3
    refine J.iload_n dX11_house_9 rfl rfl ?_
    refine J.callS (M' := mX11_isVillage) (index := 67) (bc := 0) (bs := 0) (bc' := 0) (bs' := 0) (st := []) [.int x2] ml_X11_67 cv_X11_isVillage dX11_house_10 rfl rfl (Nat.le_of_ble_eq_true rfl) (kqi (w_X11_isVillage (d := d) (Q := qi h L (fun v I' => I' = I ∧ v = bI (¬ (x2 < 0) ∧ (¬ (4 < x2))))) hs x2 ⟨rfl, rfl, _, rfl, rfl, rfl⟩) (fun v4 I5 hv => ?_))
    rw [hv.1, hv.2]
    refine J.if_eq 26 dX11_house_13 (by decide) (fun hc6 => ?_) (fun hc6 => ?_)
    · have hc6 := bI_0.mp hc6
      have hW := hW.2 hc6
      refine J.iconst (v := (-1)) dX11_house_26 (by decide) ?_
      exact J.reti dX11_house_27 rfl rfl hW
    · have hc6 := bI_n0.mp hc6
      have hW := hW.1 hc6
      refine J.iload_n dX11_house_16 rfl rfl ?_
      refine J.iconst (v := 0) dX11_house_17 (by decide) ?_
      refine J.ldc (v := 100000) ck_X11_71 dX11_house_18 ?_
      refine J.callS (M' := mX11_within) (index := 63) (bc := 0) (bs := 0) (bc' := 0) (bs' := 0) (st := []) [.int x3, .int 0, .int 100000] ml_X11_63 cv_X11_within dX11_house_20 rfl rfl (Nat.le_of_ble_eq_true rfl) (kqi (w_X11_within (d := d + 1) (Q := qi h L (fun v I' => I' = I ∧ v = bI (¬ (x3 < 0) ∧ (¬ (100000 < x3))))) hs x3 0 100000 ⟨rfl, rfl, _, rfl, rfl, rfl⟩) (fun v7 I8 hv => ?_))
      rw [hv.1, hv.2]
      refine J.if_ne 28 dX11_house_23 (by decide) (fun hc9 => ?_) (fun hc9 => ?_)
      · have hc9 := bI_n0.mp hc9
        have hW := hW.1 hc9
        refine J.aload_n dX11_house_28 rfl rfl ?_
        refine J.getR (r := 1) fl_X11_12 rfl dX11_house_29 (lt0 hs) (kk0 hs) (rr0_0 hs) ?_
        refine J.getR (r := 2) fl_X11_72 rfl dX11_house_32 (lt1 hs) (kk1 hs) (rr1_1 hs) ?_
        refine J.iload_n dX11_house_35 rfl rfl ?_
        refine J.iload_n dX11_house_36 rfl rfl ?_
        refine J.iload_n dX11_house_37 rfl rfl ?_
        refine J.callV (M' := mX1_add) (index := 76) (bc := 0) (bs := 0) (bc' := 0) (bs' := 0) (st := []) [.int x1, .int x2, .int x3] ml_X11_76 cv_X1_add dX11_house_38 (lt2 hs) (kk2 hs) (by decide) rfl rfl rfl rfl (Nat.le_of_ble_eq_true rfl) (kqi hW (fun r11 I10 hW => ?_))
        exact J.reti dX11_house_41 rfl rfl hW
      · have hc9 := bI_0.mp hc9
        have hW := hW.2 hc9
        refine J.iconst (v := (-1)) dX11_house_26 (by decide) ?_
        exact J.reti dX11_house_27 rfl rfl hW
set_option maxRecDepth 100000 in
set_option maxHeartbeats 4000000 in
theorem w_X11_person {E : Envt} {d : Nat} {Q : Pst} {h : mS} {I : mI} {L : mL} (hs : SL h) (x1 : Int32) (x2 : Int32) (x3 : Int32) (x4 : Int32) 
    (hW : (((¬ (x1 < 0) ∧ (¬ ((I 2 0) ≤ x1))) → (((¬ (x2 < 0) ∧ (¬ (1 < x2))) → (((¬ (x3 < 0) ∧ (¬ (7 < x3))) → (((¬ (x4 < (-80)) ∧ (¬ ((I 1 0) < x4))) → (CT E mX7_add d 0 0 [.ref (eB E + 7), .int x1, .int x2, .int x3, .int x4] h I L (qi h L fun r14 I13 => Q (some (.int r14)) h I13 L))) ∧ (¬ (¬ (x4 < (-80)) ∧ (¬ ((I 1 0) < x4))) → Q (some (.int (-1))) h I L))) ∧ (¬ (¬ (x3 < 0) ∧ (¬ (7 < x3))) → Q (some (.int (-1))) h I L))) ∧ (¬ (¬ (x2 < 0) ∧ (¬ (1 < x2))) → Q (some (.int (-1))) h I L))) ∧ (¬ (¬ (x1 < 0) ∧ (¬ ((I 2 0) ≤ x1))) → Q (some (.int (-1))) h I L))) :
    CT E mX11_person (d + 1) 0 0 [.ref (eB E + 0), .int x1, .int x2, .int x3, .int x4] h I L Q := by
  refine CT.of (by decide) [some (.ref (eB E + 0)), some (.int x1), some (.int x2), some (.int x3), some (.int x4)] rfl (Nat.le_of_ble_eq_true rfl) ?_
  refine J.aload_n dX11_person_0 rfl rfl ?_
  refine J.getR (r := 1) fl_X11_12 rfl dX11_person_1 (lt0 hs) (kk0 hs) (rr0_0 hs) ?_
  refine J.getR (r := 2) fl_X11_72 rfl dX11_person_4 (lt1 hs) (kk1 hs) (rr1_1 hs) ?_
  refine J.iload_n dX11_person_7 rfl rfl ?_
  refine J.callV (M' := mX1_has) (index := 82) (bc := 0) (bs := 0) (bc' := 0) (bs' := 0) (st := []) [.int x1] ml_X11_82 cv_X1_has dX11_person_8 (lt2 hs) (kk2 hs) (by decide) rfl rfl rfl rfl (Nat.le_of_ble_eq_true rfl) (kqi (w_X1_has (d := d) (Q := qi h L (fun v I' => I' = I ∧ v = bI (¬ (x1 < 0) ∧ (¬ ((I 2 0) ≤ x1))))) hs x1 ⟨rfl, rfl, _, rfl, rfl, rfl⟩) (fun v1 I2 hv => ?_))
  rw [hv.1, hv.2]
  refine J.if_eq 33 dX11_person_11 (by decide) (fun hc3 => ?_) (fun hc3 => ?_)
  · have hc3 := bI_0.mp hc3
    have hW := hW.2 hc3
    refine J.iconst (v := (-1)) dX11_person_33 (by decide) ?_
    exact J.reti dX11_person_34 rfl rfl hW
  · have hc3 := bI_n0.mp hc3
    have hW := hW.1 hc3
    refine J.iload_n dX11_person_14 rfl rfl ?_
    refine J.iconst (v := 0) dX11_person_15 (by decide) ?_
    refine J.iconst (v := 1) dX11_person_16 (by decide) ?_
    refine J.callS (M' := mX11_within) (index := 63) (bc := 0) (bs := 0) (bc' := 0) (bs' := 0) (st := []) [.int x2, .int 0, .int 1] ml_X11_63 cv_X11_within dX11_person_17 rfl rfl (Nat.le_of_ble_eq_true rfl) (kqi (w_X11_within (d := d) (Q := qi h L (fun v I' => I' = I ∧ v = bI (¬ (x2 < 0) ∧ (¬ (1 < x2))))) hs x2 0 1 ⟨rfl, rfl, _, rfl, rfl, rfl⟩) (fun v4 I5 hv => ?_))
    rw [hv.1, hv.2]
    refine J.if_eq 33 dX11_person_20 (by decide) (fun hc6 => ?_) (fun hc6 => ?_)
    · have hc6 := bI_0.mp hc6
      have hW := hW.2 hc6
      refine J.iconst (v := (-1)) dX11_person_33 (by decide) ?_
      exact J.reti dX11_person_34 rfl rfl hW
    · have hc6 := bI_n0.mp hc6
      have hW := hW.1 hc6
      refine J.iload_n dX11_person_23 rfl rfl ?_
      refine J.iconst (v := 0) dX11_person_24 (by decide) ?_
      refine J.bipush (v := 7) dX11_person_25 (by decide) ?_
      refine J.callS (M' := mX11_within) (index := 63) (bc := 0) (bs := 0) (bc' := 0) (bs' := 0) (st := []) [.int x3, .int 0, .int 7] ml_X11_63 cv_X11_within dX11_person_27 rfl rfl (Nat.le_of_ble_eq_true rfl) (kqi (w_X11_within (d := d) (Q := qi h L (fun v I' => I' = I ∧ v = bI (¬ (x3 < 0) ∧ (¬ (7 < x3))))) hs x3 0 7 ⟨rfl, rfl, _, rfl, rfl, rfl⟩) (fun v7 I8 hv => ?_))
      rw [hv.1, hv.2]
      refine J.if_ne 35 dX11_person_30 (by decide) (fun hc9 => ?_) (fun hc9 => ?_)
      · have hc9 := bI_n0.mp hc9
        have hW := hW.1 hc9
        refine J.iload dX11_person_35 rfl ?_
        refine J.bipush (v := (-80)) dX11_person_37 (by decide) ?_
        refine J.aload_n dX11_person_39 rfl rfl ?_
        refine J.getR (r := 1) fl_X11_12 rfl dX11_person_40 (lt0 hs) (kk0 hs) (rr0_0 hs) ?_
        refine J.getI (x := I 1 0) fl_X11_85 rfl dX11_person_43 (lt1 hs) (kk1 hs) rfl ?_
        refine J.callS (M' := mX11_within) (index := 63) (bc := 0) (bs := 0) (bc' := 0) (bs' := 0) (st := []) [.int x4, .int (-80), .int (I 1 0)] ml_X11_63 cv_X11_within dX11_person_46 rfl rfl (Nat.le_of_ble_eq_true rfl) (kqi (w_X11_within (d := d) (Q := qi h L (fun v I' => I' = I ∧ v = bI (¬ (x4 < (-80)) ∧ (¬ ((I 1 0) < x4))))) hs x4 (-80) (I 1 0) ⟨rfl, rfl, _, rfl, rfl, rfl⟩) (fun v10 I11 hv => ?_))
        rw [hv.1, hv.2]
        refine J.if_ne 54 dX11_person_49 (by decide) (fun hc12 => ?_) (fun hc12 => ?_)
        · have hc12 := bI_n0.mp hc12
          have hW := hW.1 hc12
          refine J.aload_n dX11_person_54 rfl rfl ?_
          refine J.getR (r := 1) fl_X11_12 rfl dX11_person_55 (lt0 hs) (kk0 hs) (rr0_0 hs) ?_
          refine J.getR (r := 7) fl_X11_89 rfl dX11_person_58 (lt1 hs) (kk1 hs) (rr1_2 hs) ?_
          refine J.iload_n dX11_person_61 rfl rfl ?_
          refine J.iload_n dX11_person_62 rfl rfl ?_
          refine J.iload_n dX11_person_63 rfl rfl ?_
          refine J.iload dX11_person_64 rfl ?_
          refine J.callV (M' := mX7_add) (index := 93) (bc := 0) (bs := 0) (bc' := 0) (bs' := 0) (st := []) [.int x1, .int x2, .int x3, .int x4] ml_X11_93 cv_X7_add dX11_person_66 (lt7 hs) (kk7 hs) (by decide) rfl rfl rfl rfl (Nat.le_of_ble_eq_true rfl) (kqi hW (fun r14 I13 hW => ?_))
          exact J.reti dX11_person_69 rfl rfl hW
        · have hc12 := bI_0.mp hc12
          have hW := hW.2 hc12
          refine J.iconst (v := (-1)) dX11_person_52 (by decide) ?_
          exact J.reti dX11_person_53 rfl rfl hW
      · have hc9 := bI_0.mp hc9
        have hW := hW.2 hc9
        refine J.iconst (v := (-1)) dX11_person_33 (by decide) ?_
        exact J.reti dX11_person_34 rfl rfl hW
set_option maxRecDepth 100000 in
set_option maxHeartbeats 4000000 in
theorem w_X11_road {E : Envt} {d : Nat} {Q : Pst} {h : mS} {I : mI} {L : mL} (hs : SL h) (x1 : Int32) (x2 : Int32) (x3 : Int32) 
    (hW : (((¬ (x1 < 0) ∧ (¬ (4 < x1))) → (((¬ (x2 < 0) ∧ (¬ (4 < x2))) → (((x1 = x2) → Q (some (.int 0)) h I L) ∧ (¬ (x1 = x2) → (((x3 = (-1)) → (CT E mX5_setRoad (d + 2) 0 0 [.ref (eB E + 17), .int x1, .int x2, .int x3] h I L (qv h L fun I9 => (CT E mX3_forget (d + 2) 0 0 [.ref (eB E + 56)] h I9 L (qv h L fun I10 => Q (some (.int 1)) h I10 L))))) ∧ (¬ (x3 = (-1)) → (((¬ (x3 < 0) ∧ (¬ (9 < x3))) → (CT E mX5_setRoad (d + 2) 0 0 [.ref (eB E + 17), .int x1, .int x2, .int x3] h I L (qv h L fun I14 => (CT E mX3_forget (d + 2) 0 0 [.ref (eB E + 56)] h I14 L (qv h L fun I15 => Q (some (.int 1)) h I15 L))))) ∧ (¬ (¬ (x3 < 0) ∧ (¬ (9 < x3))) → Q (some (.int 0)) h I L))))))) ∧ (¬ (¬ (x2 < 0) ∧ (¬ (4 < x2))) → Q (some (.int 0)) h I L))) ∧ (¬ (¬ (x1 < 0) ∧ (¬ (4 < x1))) → Q (some (.int 0)) h I L))) :
    CT E mX11_road (d + 3) 0 0 [.ref (eB E + 0), .int x1, .int x2, .int x3] h I L Q := by
  refine CT.of (by decide) [some (.ref (eB E + 0)), some (.int x1), some (.int x2), some (.int x3)] rfl (Nat.le_of_ble_eq_true rfl) ?_
  refine J.iload_n dX11_road_0 rfl rfl ?_
  refine J.callS (M' := mX11_isVillage) (index := 67) (bc := 0) (bs := 0) (bc' := 0) (bs' := 0) (st := []) [.int x1] ml_X11_67 cv_X11_isVillage dX11_road_1 rfl rfl (Nat.le_of_ble_eq_true rfl) (kqi (w_X11_isVillage (d := d + 1) (Q := qi h L (fun v I' => I' = I ∧ v = bI (¬ (x1 < 0) ∧ (¬ (4 < x1))))) hs x1 ⟨rfl, rfl, _, rfl, rfl, rfl⟩) (fun v1 I2 hv => ?_))
  rw [hv.1, hv.2]
  refine J.if_eq 19 dX11_road_4 (by decide) (fun hc3 => ?_) (fun hc3 => ?_)
  · have hc3 := bI_0.mp hc3
    have hW := hW.2 hc3
    refine J.iconst (v := 0) dX11_road_19 (by decide) ?_
    exact J.reti dX11_road_20 rfl (bz_nar (Or.inl rfl)) hW
  · have hc3 := bI_n0.mp hc3
    have hW := hW.1 hc3
    refine J.iload_n dX11_road_7 rfl rfl ?_
    refine J.callS (M' := mX11_isVillage) (index := 67) (bc := 0) (bs := 0) (bc' := 0) (bs' := 0) (st := []) [.int x2] ml_X11_67 cv_X11_isVillage dX11_road_8 rfl rfl (Nat.le_of_ble_eq_true rfl) (kqi (w_X11_isVillage (d := d + 1) (Q := qi h L (fun v I' => I' = I ∧ v = bI (¬ (x2 < 0) ∧ (¬ (4 < x2))))) hs x2 ⟨rfl, rfl, _, rfl, rfl, rfl⟩) (fun v4 I5 hv => ?_))
    rw [hv.1, hv.2]
    refine J.if_eq 19 dX11_road_11 (by decide) (fun hc6 => ?_) (fun hc6 => ?_)
    · have hc6 := bI_0.mp hc6
      have hW := hW.2 hc6
      refine J.iconst (v := 0) dX11_road_19 (by decide) ?_
      exact J.reti dX11_road_20 rfl (bz_nar (Or.inl rfl)) hW
    · have hc6 := bI_n0.mp hc6
      have hW := hW.1 hc6
      refine J.iload_n dX11_road_14 rfl rfl ?_
      refine J.iload_n dX11_road_15 rfl rfl ?_
      refine J.ic_ne 21 dX11_road_16 (by decide) (fun hc7 => ?_) (fun hc7 => ?_)
      · have hW := hW.2 hc7
        refine J.iload_n dX11_road_21 rfl rfl ?_
        refine J.iconst (v := (-1)) dX11_road_22 (by decide) ?_
        refine J.ic_eq 38 dX11_road_23 (by decide) (fun hc8 => ?_) (fun hc8 => ?_)
        · have hW := hW.1 hc8
          refine J.aload_n dX11_road_38 rfl rfl ?_
          refine J.getR (r := 1) fl_X11_12 rfl dX11_road_39 (lt0 hs) (kk0 hs) (rr0_0 hs) ?_
          refine J.getR (r := 17) fl_X11_98 rfl dX11_road_42 (lt1 hs) (kk1 hs) (rr1_3 hs) ?_
          refine J.iload_n dX11_road_45 rfl rfl ?_
          refine J.iload_n dX11_road_46 rfl rfl ?_
          refine J.iload_n dX11_road_47 rfl rfl ?_
          refine J.callV (M' := mX5_setRoad) (index := 102) (bc := 0) (bs := 0) (bc' := 0) (bs' := 0) (st := []) [.int x1, .int x2, .int x3] ml_X11_102 cv_X5_setRoad dX11_road_48 (lt17 hs) (kk17 hs) (by decide) rfl rfl rfl rfl (Nat.le_of_ble_eq_true rfl) (kqv hW (fun I9 hW => ?_))
          refine J.aload_n dX11_road_51 rfl rfl ?_
          refine J.getR (r := 56) fl_X11_32 rfl dX11_road_52 (lt0 hs) (kk0 hs) (rr0_3 hs) ?_
          refine J.callV (M' := mX3_forget) (index := 108) (bc := 0) (bs := 0) (bc' := 0) (bs' := 0) (st := []) [] ml_X11_108 cv_X3_forget dX11_road_55 (lt56 hs) (kk56 hs) (by decide) rfl rfl rfl rfl (Nat.le_of_ble_eq_true rfl) (kqv hW (fun I10 hW => ?_))
          refine J.iconst (v := 1) dX11_road_58 (by decide) ?_
          exact J.reti dX11_road_59 rfl (bz_nar (Or.inr rfl)) hW
        · have hW := hW.2 hc8
          refine J.iload_n dX11_road_26 rfl rfl ?_
          refine J.iconst (v := 0) dX11_road_27 (by decide) ?_
          refine J.bipush (v := 9) dX11_road_28 (by decide) ?_
          refine J.callS (M' := mX11_within) (index := 63) (bc := 0) (bs := 0) (bc' := 0) (bs' := 0) (st := []) [.int x3, .int 0, .int 9] ml_X11_63 cv_X11_within dX11_road_30 rfl rfl (Nat.le_of_ble_eq_true rfl) (kqi (w_X11_within (d := d + 2) (Q := qi h L (fun v I' => I' = I ∧ v = bI (¬ (x3 < 0) ∧ (¬ (9 < x3))))) hs x3 0 9 ⟨rfl, rfl, _, rfl, rfl, rfl⟩) (fun v11 I12 hv => ?_))
          rw [hv.1, hv.2]
          refine J.if_ne 38 dX11_road_33 (by decide) (fun hc13 => ?_) (fun hc13 => ?_)
          · have hc13 := bI_n0.mp hc13
            have hW := hW.1 hc13
            refine J.aload_n dX11_road_38 rfl rfl ?_
            refine J.getR (r := 1) fl_X11_12 rfl dX11_road_39 (lt0 hs) (kk0 hs) (rr0_0 hs) ?_
            refine J.getR (r := 17) fl_X11_98 rfl dX11_road_42 (lt1 hs) (kk1 hs) (rr1_3 hs) ?_
            refine J.iload_n dX11_road_45 rfl rfl ?_
            refine J.iload_n dX11_road_46 rfl rfl ?_
            refine J.iload_n dX11_road_47 rfl rfl ?_
            refine J.callV (M' := mX5_setRoad) (index := 102) (bc := 0) (bs := 0) (bc' := 0) (bs' := 0) (st := []) [.int x1, .int x2, .int x3] ml_X11_102 cv_X5_setRoad dX11_road_48 (lt17 hs) (kk17 hs) (by decide) rfl rfl rfl rfl (Nat.le_of_ble_eq_true rfl) (kqv hW (fun I14 hW => ?_))
            refine J.aload_n dX11_road_51 rfl rfl ?_
            refine J.getR (r := 56) fl_X11_32 rfl dX11_road_52 (lt0 hs) (kk0 hs) (rr0_3 hs) ?_
            refine J.callV (M' := mX3_forget) (index := 108) (bc := 0) (bs := 0) (bc' := 0) (bs' := 0) (st := []) [] ml_X11_108 cv_X3_forget dX11_road_55 (lt56 hs) (kk56 hs) (by decide) rfl rfl rfl rfl (Nat.le_of_ble_eq_true rfl) (kqv hW (fun I15 hW => ?_))
            refine J.iconst (v := 1) dX11_road_58 (by decide) ?_
            exact J.reti dX11_road_59 rfl (bz_nar (Or.inr rfl)) hW
          · have hc13 := bI_0.mp hc13
            have hW := hW.2 hc13
            refine J.iconst (v := 0) dX11_road_36 (by decide) ?_
            exact J.reti dX11_road_37 rfl (bz_nar (Or.inl rfl)) hW
      · have hW := hW.1 hc7
        refine J.iconst (v := 0) dX11_road_19 (by decide) ?_
        exact J.reti dX11_road_20 rfl (bz_nar (Or.inl rfl)) hW
set_option maxRecDepth 100000 in
set_option maxHeartbeats 4000000 in
theorem w_X11_feud {E : Envt} {d : Nat} {Q : Pst} {h : mS} {I : mI} {L : mL} (hs : SL h) (x1 : Int32) (x2 : Int32) (x3 : Int32) 
    (hW : (((¬ (x1 < 0) ∧ (¬ ((I 2 0) ≤ x1))) → (((¬ (x2 < 0) ∧ (¬ ((I 2 0) ≤ x2))) → (((x1 = x2) → Q (some (.int 0)) h I L) ∧ (¬ (x1 = x2) → ((vp_in x1 8) ∧ ((((bI ((((I 6 x1.toNatClampNeg) >>> (x2 &&& 31)) &&& 1) = 1)) = x3) → Q (some (.int 0)) h I L) ∧ (¬ ((bI ((((I 6 x1.toNatClampNeg) >>> (x2 &&& 31)) &&& 1) = 1)) = x3) → (CT E mX1_setFeud d 0 0 [.ref (eB E + 2), .int x1, .int x2, .int x3] h I L (qv h L fun I12 => Q (some (.int 1)) h I12 L)))))))) ∧ (¬ (¬ (x2 < 0) ∧ (¬ ((I 2 0) ≤ x2))) → Q (some (.int 0)) h I L))) ∧ (¬ (¬ (x1 < 0) ∧ (¬ ((I 2 0) ≤ x1))) → Q (some (.int 0)) h I L))) :
    CT E mX11_feud (d + 1) 0 0 [.ref (eB E + 0), .int x1, .int x2, .int x3] h I L Q := by
  refine CT.of (by decide) [some (.ref (eB E + 0)), some (.int x1), some (.int x2), some (.int x3), none] rfl (Nat.le_of_ble_eq_true rfl) ?_
  refine J.aload_n dX11_feud_0 rfl rfl ?_
  refine J.getR (r := 1) fl_X11_12 rfl dX11_feud_1 (lt0 hs) (kk0 hs) (rr0_0 hs) ?_
  refine J.getR (r := 2) fl_X11_72 rfl dX11_feud_4 (lt1 hs) (kk1 hs) (rr1_1 hs) ?_
  refine J.astore (vs' := [some (.ref (eB E + 0)), some (.int x1), some (.int x2), some (.int x3), some (.ref (eB E + 2))]) dX11_feud_7 (by decide) rfl ?_
  refine J.aload dX11_feud_9 rfl ?_
  refine J.iload_n dX11_feud_11 rfl rfl ?_
  refine J.callV (M' := mX1_has) (index := 82) (bc := 0) (bs := 0) (bc' := 0) (bs' := 0) (st := []) [.int x1] ml_X11_82 cv_X1_has dX11_feud_12 (lt2 hs) (kk2 hs) (by decide) rfl rfl rfl rfl (Nat.le_of_ble_eq_true rfl) (kqi (w_X1_has (d := d) (Q := qi h L (fun v I' => I' = I ∧ v = bI (¬ (x1 < 0) ∧ (¬ ((I 2 0) ≤ x1))))) hs x1 ⟨rfl, rfl, _, rfl, rfl, rfl⟩) (fun v1 I2 hv => ?_))
  rw [hv.1, hv.2]
  refine J.if_eq 43 dX11_feud_15 (by decide) (fun hc3 => ?_) (fun hc3 => ?_)
  · have hc3 := bI_0.mp hc3
    have hW := hW.2 hc3
    refine J.iconst (v := 0) dX11_feud_43 (by decide) ?_
    exact J.reti dX11_feud_44 rfl (bz_nar (Or.inl rfl)) hW
  · have hc3 := bI_n0.mp hc3
    have hW := hW.1 hc3
    refine J.aload dX11_feud_18 rfl ?_
    refine J.iload_n dX11_feud_20 rfl rfl ?_
    refine J.callV (M' := mX1_has) (index := 82) (bc := 0) (bs := 0) (bc' := 0) (bs' := 0) (st := []) [.int x2] ml_X11_82 cv_X1_has dX11_feud_21 (lt2 hs) (kk2 hs) (by decide) rfl rfl rfl rfl (Nat.le_of_ble_eq_true rfl) (kqi (w_X1_has (d := d) (Q := qi h L (fun v I' => I' = I ∧ v = bI (¬ (x2 < 0) ∧ (¬ ((I 2 0) ≤ x2))))) hs x2 ⟨rfl, rfl, _, rfl, rfl, rfl⟩) (fun v4 I5 hv => ?_))
    rw [hv.1, hv.2]
    refine J.if_eq 43 dX11_feud_24 (by decide) (fun hc6 => ?_) (fun hc6 => ?_)
    · have hc6 := bI_0.mp hc6
      have hW := hW.2 hc6
      refine J.iconst (v := 0) dX11_feud_43 (by decide) ?_
      exact J.reti dX11_feud_44 rfl (bz_nar (Or.inl rfl)) hW
    · have hc6 := bI_n0.mp hc6
      have hW := hW.1 hc6
      refine J.iload_n dX11_feud_27 rfl rfl ?_
      refine J.iload_n dX11_feud_28 rfl rfl ?_
      refine J.ic_eq 43 dX11_feud_29 (by decide) (fun hc7 => ?_) (fun hc7 => ?_)
      · have hW := hW.1 hc7
        refine J.iconst (v := 0) dX11_feud_43 (by decide) ?_
        exact J.reti dX11_feud_44 rfl (bz_nar (Or.inl rfl)) hW
      · have hW := hW.2 hc7
        refine J.aload dX11_feud_32 rfl ?_
        refine J.iload_n dX11_feud_34 rfl rfl ?_
        refine J.iload_n dX11_feud_35 rfl rfl ?_
        obtain ⟨hb8, hW⟩ := hW
        refine J.callV (M' := mX1_atFeud) (index := 111) (bc := 0) (bs := 0) (bc' := 0) (bs' := 0) (st := []) [.int x1, .int x2] ml_X11_111 cv_X1_atFeud dX11_feud_36 (lt2 hs) (kk2 hs) (by decide) rfl rfl rfl rfl (Nat.le_of_ble_eq_true rfl) (kqi (w_X1_atFeud (d := d) (Q := qi h L (fun v I' => I' = I ∧ v = bI ((((I 6 x1.toNatClampNeg) >>> (x2 &&& 31)) &&& 1) = 1))) hs x1 x2 ⟨hb8, rfl, rfl, _, rfl, rfl, rfl⟩) (fun v9 I10 hv => ?_))
        rw [hv.1, hv.2]
        refine J.iload_n dX11_feud_39 rfl rfl ?_
        refine J.ic_ne 45 dX11_feud_40 (by decide) (fun hc11 => ?_) (fun hc11 => ?_)
        · have hW := hW.2 hc11
          refine J.aload dX11_feud_45 rfl ?_
          refine J.iload_n dX11_feud_47 rfl rfl ?_
          refine J.iload_n dX11_feud_48 rfl rfl ?_
          refine J.iload_n dX11_feud_49 rfl rfl ?_
          refine J.callV (M' := mX1_setFeud) (index := 115) (bc := 0) (bs := 0) (bc' := 0) (bs' := 0) (st := []) [.int x1, .int x2, .int x3] ml_X11_115 cv_X1_setFeud dX11_feud_50 (lt2 hs) (kk2 hs) (by decide) rfl rfl rfl rfl (Nat.le_of_ble_eq_true rfl) (kqv hW (fun I12 hW => ?_))
          refine J.iconst (v := 1) dX11_feud_53 (by decide) ?_
          exact J.reti dX11_feud_54 rfl (bz_nar (Or.inr rfl)) hW
        · have hW := hW.1 hc11
          refine J.iconst (v := 0) dX11_feud_43 (by decide) ?_
          exact J.reti dX11_feud_44 rfl (bz_nar (Or.inl rfl)) hW
set_option maxRecDepth 100000 in
set_option maxHeartbeats 4000000 in
theorem w_X11_harvest {E : Envt} {d : Nat} {Q : Pst} {h : mS} {I : mI} {L : mL} (hs : SL h) (x1 : Int32) (x2 : Int32) 
    (hW : (((¬ (x1 < 0) ∧ (¬ ((I 2 0) ≤ x1))) → (((¬ (x2 < 1) ∧ (¬ (100000 < x2))) → (vp_in x1 8 ∧ Q (some (.int ((I 5 x1.toNatClampNeg) + x2))) h (uI I 5 x1.toNatClampNeg ((I 5 x1.toNatClampNeg) + x2)) L)) ∧ (¬ (¬ (x2 < 1) ∧ (¬ (100000 < x2))) → Q (some (.int (-1))) h I L))) ∧ (¬ (¬ (x1 < 0) ∧ (¬ ((I 2 0) ≤ x1))) → Q (some (.int (-1))) h I L))) :
    CT E mX11_harvest (d + 1) 0 0 [.ref (eB E + 0), .int x1, .int x2] h I L Q := by
  refine CT.of (by decide) [some (.ref (eB E + 0)), some (.int x1), some (.int x2)] rfl (Nat.le_of_ble_eq_true rfl) ?_
  refine J.aload_n dX11_harvest_0 rfl rfl ?_
  refine J.getR (r := 1) fl_X11_12 rfl dX11_harvest_1 (lt0 hs) (kk0 hs) (rr0_0 hs) ?_
  refine J.getR (r := 2) fl_X11_72 rfl dX11_harvest_4 (lt1 hs) (kk1 hs) (rr1_1 hs) ?_
  refine J.iload_n dX11_harvest_7 rfl rfl ?_
  refine J.callV (M' := mX1_has) (index := 82) (bc := 0) (bs := 0) (bc' := 0) (bs' := 0) (st := []) [.int x1] ml_X11_82 cv_X1_has dX11_harvest_8 (lt2 hs) (kk2 hs) (by decide) rfl rfl rfl rfl (Nat.le_of_ble_eq_true rfl) (kqi (w_X1_has (d := d) (Q := qi h L (fun v I' => I' = I ∧ v = bI (¬ (x1 < 0) ∧ (¬ ((I 2 0) ≤ x1))))) hs x1 ⟨rfl, rfl, _, rfl, rfl, rfl⟩) (fun v1 I2 hv => ?_))
  rw [hv.1, hv.2]
  refine J.if_eq 24 dX11_harvest_11 (by decide) (fun hc3 => ?_) (fun hc3 => ?_)
  · have hc3 := bI_0.mp hc3
    have hW := hW.2 hc3
    refine J.iconst (v := (-1)) dX11_harvest_24 (by decide) ?_
    exact J.reti dX11_harvest_25 rfl rfl hW
  · have hc3 := bI_n0.mp hc3
    have hW := hW.1 hc3
    refine J.iload_n dX11_harvest_14 rfl rfl ?_
    refine J.iconst (v := 1) dX11_harvest_15 (by decide) ?_
    refine J.ldc (v := 100000) ck_X11_71 dX11_harvest_16 ?_
    refine J.callS (M' := mX11_within) (index := 63) (bc := 0) (bs := 0) (bc' := 0) (bs' := 0) (st := []) [.int x2, .int 1, .int 100000] ml_X11_63 cv_X11_within dX11_harvest_18 rfl rfl (Nat.le_of_ble_eq_true rfl) (kqi (w_X11_within (d := d) (Q := qi h L (fun v I' => I' = I ∧ v = bI (¬ (x2 < 1) ∧ (¬ (100000 < x2))))) hs x2 1 100000 ⟨rfl, rfl, _, rfl, rfl, rfl⟩) (fun v4 I5 hv => ?_))
    rw [hv.1, hv.2]
    refine J.if_ne 26 dX11_harvest_21 (by decide) (fun hc6 => ?_) (fun hc6 => ?_)
    · have hc6 := bI_n0.mp hc6
      have hW := hW.1 hc6
      refine J.aload_n dX11_harvest_26 rfl rfl ?_
      refine J.getR (r := 1) fl_X11_12 rfl dX11_harvest_27 (lt0 hs) (kk0 hs) (rr0_0 hs) ?_
      refine J.getR (r := 2) fl_X11_72 rfl dX11_harvest_30 (lt1 hs) (kk1 hs) (rr1_1 hs) ?_
      refine J.getR (r := 5) fl_X11_119 rfl dX11_harvest_33 (lt2 hs) (kk2 hs) (rr2_3 hs) ?_
      refine J.iload_n dX11_harvest_36 rfl rfl ?_
      refine J.dup2 dX11_harvest_37 rfl rfl ?_
      obtain ⟨hb7, hW⟩ := hW
      refine J.iald (x := I 5 x1.toNatClampNeg) dX11_harvest_38 (lt5 hs) (kk5 hs) hb7 rfl ?_
      refine J.iload_n dX11_harvest_39 rfl rfl ?_
      refine J.iadd dX11_harvest_40 ?_
      refine J.iast dX11_harvest_41 (lt5 hs) (kk5 hs) hb7 ?_
      refine J.aload_n dX11_harvest_42 rfl rfl ?_
      refine J.getR (r := 1) fl_X11_12 rfl dX11_harvest_43 (lt0 hs) (kk0 hs) (rr0_0 hs) ?_
      refine J.getR (r := 2) fl_X11_72 rfl dX11_harvest_46 (lt1 hs) (kk1 hs) (rr1_1 hs) ?_
      refine J.getR (r := 5) fl_X11_119 rfl dX11_harvest_49 (lt2 hs) (kk2 hs) (rr2_3 hs) ?_
      refine J.iload_n dX11_harvest_52 rfl rfl ?_
      refine J.iald (x := (I 5 x1.toNatClampNeg) + x2) dX11_harvest_53 (lt5 hs) (kk5 hs) hb7 (by simp [uI]) ?_
      exact J.reti dX11_harvest_54 rfl rfl hW
    · have hc6 := bI_0.mp hc6
      have hW := hW.2 hc6
      refine J.iconst (v := (-1)) dX11_harvest_24 (by decide) ?_
      exact J.reti dX11_harvest_25 rfl rfl hW
set_option maxRecDepth 100000 in
set_option maxHeartbeats 4000000 in
theorem w_X11_parent {E : Envt} {d : Nat} {Q : Pst} {h : mS} {I : mI} {L : mL} (hs : SL h) (x1 : Int32) (x2 : Int32) (x3 : Int32) 
    (hW : (((¬ (x1 < 0) ∧ (¬ ((I 7 0) ≤ x1))) → (((¬ (x2 < 0) ∧ (¬ ((I 7 0) ≤ x2))) → (((¬ (x3 < 0) ∧ (¬ (4 < x3))) → (vp_in x2 20 ∧ (vp_in x1 20 ∧ ((((I 11 x2.toNatClampNeg) < (I 11 x1.toNatClampNeg)) → (CT E mX3_forget (d + 1) 0 0 [.ref (eB E + 56)] h I L (qv h L fun I13 => (CT E mX5_add (d + 1) 0 0 [.ref (eB E + 17), .int x1, .int x2, .int x3, .int (I13 1 0)] h I13 L (qi h L fun r15 I14 => Q (some (.int r15)) h I14 L))))) ∧ (¬ ((I 11 x2.toNatClampNeg) < (I 11 x1.toNatClampNeg)) → Q (some (.int (-1))) h I L))))) ∧ (¬ (¬ (x3 < 0) ∧ (¬ (4 < x3))) → Q (some (.int (-1))) h I L))) ∧ (¬ (¬ (x2 < 0) ∧ (¬ ((I 7 0) ≤ x2))) → Q (some (.int (-1))) h I L))) ∧ (¬ (¬ (x1 < 0) ∧ (¬ ((I 7 0) ≤ x1))) → Q (some (.int (-1))) h I L))) :
    CT E mX11_parent (d + 2) 0 0 [.ref (eB E + 0), .int x1, .int x2, .int x3] h I L Q := by
  refine CT.of (by decide) [some (.ref (eB E + 0)), some (.int x1), some (.int x2), some (.int x3), none] rfl (Nat.le_of_ble_eq_true rfl) ?_
  refine J.aload_n dX11_parent_0 rfl rfl ?_
  refine J.getR (r := 1) fl_X11_12 rfl dX11_parent_1 (lt0 hs) (kk0 hs) (rr0_0 hs) ?_
  refine J.getR (r := 7) fl_X11_89 rfl dX11_parent_4 (lt1 hs) (kk1 hs) (rr1_2 hs) ?_
  refine J.astore (vs' := [some (.ref (eB E + 0)), some (.int x1), some (.int x2), some (.int x3), some (.ref (eB E + 7))]) dX11_parent_7 (by decide) rfl ?_
  refine J.aload dX11_parent_9 rfl ?_
  refine J.iload_n dX11_parent_11 rfl rfl ?_
  refine J.callV (M' := mX7_has) (index := 123) (bc := 0) (bs := 0) (bc' := 0) (bs' := 0) (st := []) [.int x1] ml_X11_123 cv_X7_has dX11_parent_12 (lt7 hs) (kk7 hs) (by decide) rfl rfl rfl rfl (Nat.le_of_ble_eq_true rfl) (kqi (w_X7_has (d := d + 1) (Q := qi h L (fun v I' => I' = I ∧ v = bI (¬ (x1 < 0) ∧ (¬ ((I 7 0) ≤ x1))))) hs x1 ⟨rfl, rfl, _, rfl, rfl, rfl⟩) (fun v1 I2 hv => ?_))
  rw [hv.1, hv.2]
  refine J.if_eq 34 dX11_parent_15 (by decide) (fun hc3 => ?_) (fun hc3 => ?_)
  · have hc3 := bI_0.mp hc3
    have hW := hW.2 hc3
    refine J.iconst (v := (-1)) dX11_parent_34 (by decide) ?_
    exact J.reti dX11_parent_35 rfl rfl hW
  · have hc3 := bI_n0.mp hc3
    have hW := hW.1 hc3
    refine J.aload dX11_parent_18 rfl ?_
    refine J.iload_n dX11_parent_20 rfl rfl ?_
    refine J.callV (M' := mX7_has) (index := 123) (bc := 0) (bs := 0) (bc' := 0) (bs' := 0) (st := []) [.int x2] ml_X11_123 cv_X7_has dX11_parent_21 (lt7 hs) (kk7 hs) (by decide) rfl rfl rfl rfl (Nat.le_of_ble_eq_true rfl) (kqi (w_X7_has (d := d + 1) (Q := qi h L (fun v I' => I' = I ∧ v = bI (¬ (x2 < 0) ∧ (¬ ((I 7 0) ≤ x2))))) hs x2 ⟨rfl, rfl, _, rfl, rfl, rfl⟩) (fun v4 I5 hv => ?_))
    rw [hv.1, hv.2]
    refine J.if_eq 34 dX11_parent_24 (by decide) (fun hc6 => ?_) (fun hc6 => ?_)
    · have hc6 := bI_0.mp hc6
      have hW := hW.2 hc6
      refine J.iconst (v := (-1)) dX11_parent_34 (by decide) ?_
      exact J.reti dX11_parent_35 rfl rfl hW
    · have hc6 := bI_n0.mp hc6
      have hW := hW.1 hc6
      refine J.iload_n dX11_parent_27 rfl rfl ?_
      refine J.callS (M' := mX11_isVillage) (index := 67) (bc := 0) (bs := 0) (bc' := 0) (bs' := 0) (st := []) [.int x3] ml_X11_67 cv_X11_isVillage dX11_parent_28 rfl rfl (Nat.le_of_ble_eq_true rfl) (kqi (w_X11_isVillage (d := d) (Q := qi h L (fun v I' => I' = I ∧ v = bI (¬ (x3 < 0) ∧ (¬ (4 < x3))))) hs x3 ⟨rfl, rfl, _, rfl, rfl, rfl⟩) (fun v7 I8 hv => ?_))
      rw [hv.1, hv.2]
      refine J.if_ne 36 dX11_parent_31 (by decide) (fun hc9 => ?_) (fun hc9 => ?_)
      · have hc9 := bI_n0.mp hc9
        have hW := hW.1 hc9
        refine J.aload dX11_parent_36 rfl ?_
        refine J.getR (r := 11) fl_X11_124 rfl dX11_parent_38 (lt7 hs) (kk7 hs) (rr7_4 hs) ?_
        refine J.iload_n dX11_parent_41 rfl rfl ?_
        obtain ⟨hb10, hW⟩ := hW
        refine J.iald (x := I 11 x2.toNatClampNeg) dX11_parent_42 (lt11 hs) (kk11 hs) hb10 rfl ?_
        refine J.aload dX11_parent_43 rfl ?_
        refine J.getR (r := 11) fl_X11_124 rfl dX11_parent_45 (lt7 hs) (kk7 hs) (rr7_4 hs) ?_
        refine J.iload_n dX11_parent_48 rfl rfl ?_
        obtain ⟨hb11, hW⟩ := hW
        refine J.iald (x := I 11 x1.toNatClampNeg) dX11_parent_49 (lt11 hs) (kk11 hs) hb11 rfl ?_
        refine J.ic_lt 55 dX11_parent_50 (by decide) (fun hc12 => ?_) (fun hc12 => ?_)
        · have hW := hW.1 hc12
          refine J.aload_n dX11_parent_55 rfl rfl ?_
          refine J.getR (r := 56) fl_X11_32 rfl dX11_parent_56 (lt0 hs) (kk0 hs) (rr0_3 hs) ?_
          refine J.callV (M' := mX3_forget) (index := 108) (bc := 0) (bs := 0) (bc' := 0) (bs' := 0) (st := []) [] ml_X11_108 cv_X3_forget dX11_parent_59 (lt56 hs) (kk56 hs) (by decide) rfl rfl rfl rfl (Nat.le_of_ble_eq_true rfl) (kqv hW (fun I13 hW => ?_))
          refine J.aload_n dX11_parent_62 rfl rfl ?_
          refine J.getR (r := 1) fl_X11_12 rfl dX11_parent_63 (lt0 hs) (kk0 hs) (rr0_0 hs) ?_
          refine J.getR (r := 17) fl_X11_98 rfl dX11_parent_66 (lt1 hs) (kk1 hs) (rr1_3 hs) ?_
          refine J.iload_n dX11_parent_69 rfl rfl ?_
          refine J.iload_n dX11_parent_70 rfl rfl ?_
          refine J.iload_n dX11_parent_71 rfl rfl ?_
          refine J.aload_n dX11_parent_72 rfl rfl ?_
          refine J.getR (r := 1) fl_X11_12 rfl dX11_parent_73 (lt0 hs) (kk0 hs) (rr0_0 hs) ?_
          refine J.getI (x := I13 1 0) fl_X11_85 rfl dX11_parent_76 (lt1 hs) (kk1 hs) rfl ?_
          refine J.callV (M' := mX5_add) (index := 127) (bc := 0) (bs := 0) (bc' := 0) (bs' := 0) (st := []) [.int x1, .int x2, .int x3, .int (I13 1 0)] ml_X11_127 cv_X5_add dX11_parent_79 (lt17 hs) (kk17 hs) (by decide) rfl rfl rfl rfl (Nat.le_of_ble_eq_true rfl) (kqi hW (fun r15 I14 hW => ?_))
          exact J.reti dX11_parent_82 rfl rfl hW
        · have hW := hW.2 hc12
          refine J.iconst (v := (-1)) dX11_parent_53 (by decide) ?_
          exact J.reti dX11_parent_54 rfl rfl hW
      · have hc9 := bI_0.mp hc9
        have hW := hW.2 hc9
        refine J.iconst (v := (-1)) dX11_parent_34 (by decide) ?_
        exact J.reti dX11_parent_35 rfl rfl hW
set_option maxRecDepth 100000 in
set_option maxHeartbeats 4000000 in
theorem w_X11_heard {E : Envt} {d : Nat} {Q : Pst} {h : mS} {I : mI} {L : mL} (hs : SL h) (x1 : Int32) (x2 : Int32) 
    (hW : (((¬ (x1 < 0) ∧ (¬ ((I 17 0) ≤ x1))) → (((¬ (x2 < 0) ∧ (¬ (4 < x2))) → (CT E mX5_yearIn (d + 1) 0 0 [.ref (eB E + 17), .int x1, .int x2] h I L (qi h L fun r8 I7 => Q (some (.int r8)) h I7 L))) ∧ (¬ (¬ (x2 < 0) ∧ (¬ (4 < x2))) → Q (some (.int (-1))) h I L))) ∧ (¬ (¬ (x1 < 0) ∧ (¬ ((I 17 0) ≤ x1))) → Q (some (.int (-1))) h I L))) :
    CT E mX11_heard (d + 2) 0 0 [.ref (eB E + 0), .int x1, .int x2] h I L Q := by
  refine CT.of (by decide) [some (.ref (eB E + 0)), some (.int x1), some (.int x2)] rfl (Nat.le_of_ble_eq_true rfl) ?_
  refine J.aload_n dX11_heard_0 rfl rfl ?_
  refine J.getR (r := 1) fl_X11_12 rfl dX11_heard_1 (lt0 hs) (kk0 hs) (rr0_0 hs) ?_
  refine J.getR (r := 17) fl_X11_98 rfl dX11_heard_4 (lt1 hs) (kk1 hs) (rr1_3 hs) ?_
  refine J.iload_n dX11_heard_7 rfl rfl ?_
  refine J.callV (M' := mX5_has) (index := 128) (bc := 0) (bs := 0) (bc' := 0) (bs' := 0) (st := []) [.int x1] ml_X11_128 cv_X5_has dX11_heard_8 (lt17 hs) (kk17 hs) (by decide) rfl rfl rfl rfl (Nat.le_of_ble_eq_true rfl) (kqi (w_X5_has (d := d + 1) (Q := qi h L (fun v I' => I' = I ∧ v = bI (¬ (x1 < 0) ∧ (¬ ((I 17 0) ≤ x1))))) hs x1 ⟨rfl, rfl, _, rfl, rfl, rfl⟩) (fun v1 I2 hv => ?_))
  rw [hv.1, hv.2]
  refine J.if_eq 21 dX11_heard_11 (by decide) (fun hc3 => ?_) (fun hc3 => ?_)
  · have hc3 := bI_0.mp hc3
    have hW := hW.2 hc3
    refine J.iconst (v := (-1)) dX11_heard_21 (by decide) ?_
    exact J.reti dX11_heard_22 rfl rfl hW
  · have hc3 := bI_n0.mp hc3
    have hW := hW.1 hc3
    refine J.iload_n dX11_heard_14 rfl rfl ?_
    refine J.callS (M' := mX11_isVillage) (index := 67) (bc := 0) (bs := 0) (bc' := 0) (bs' := 0) (st := []) [.int x2] ml_X11_67 cv_X11_isVillage dX11_heard_15 rfl rfl (Nat.le_of_ble_eq_true rfl) (kqi (w_X11_isVillage (d := d) (Q := qi h L (fun v I' => I' = I ∧ v = bI (¬ (x2 < 0) ∧ (¬ (4 < x2))))) hs x2 ⟨rfl, rfl, _, rfl, rfl, rfl⟩) (fun v4 I5 hv => ?_))
    rw [hv.1, hv.2]
    refine J.if_ne 23 dX11_heard_18 (by decide) (fun hc6 => ?_) (fun hc6 => ?_)
    · have hc6 := bI_n0.mp hc6
      have hW := hW.1 hc6
      refine J.aload_n dX11_heard_23 rfl rfl ?_
      refine J.getR (r := 1) fl_X11_12 rfl dX11_heard_24 (lt0 hs) (kk0 hs) (rr0_0 hs) ?_
      refine J.getR (r := 17) fl_X11_98 rfl dX11_heard_27 (lt1 hs) (kk1 hs) (rr1_3 hs) ?_
      refine J.iload_n dX11_heard_30 rfl rfl ?_
      refine J.iload_n dX11_heard_31 rfl rfl ?_
      refine J.callV (M' := mX5_yearIn) (index := 129) (bc := 0) (bs := 0) (bc' := 0) (bs' := 0) (st := []) [.int x1, .int x2] ml_X11_129 cv_X5_yearIn dX11_heard_32 (lt17 hs) (kk17 hs) (by decide) rfl rfl rfl rfl (Nat.le_of_ble_eq_true rfl) (kqi hW (fun r8 I7 hW => ?_))
      exact J.reti dX11_heard_35 rfl rfl hW
    · have hc6 := bI_0.mp hc6
      have hW := hW.2 hc6
      refine J.iconst (v := (-1)) dX11_heard_21 (by decide) ?_
      exact J.reti dX11_heard_22 rfl rfl hW
set_option maxRecDepth 100000 in
set_option maxHeartbeats 4000000 in
theorem w_X11_closeMatch {E : Envt} {d : Nat} {Q : Pst} {h : mS} {I : mI} {L : mL} (hs : SL h) (x1 : Int32) (x2 : Int32) 
    (hW : (vp_in x1 30 ∧ (vp_in (I 25 x1.toNatClampNeg) 20 ∧ (vp_in (I 26 x1.toNatClampNeg) 20 ∧ (CT E mX4_stand d 0 0 [.ref (eB E + 24), .int x1, .int x2, .int (I 1 0)] h (uI (uI I 13 ((I 25 x1.toNatClampNeg).toNatClampNeg) (-1)) 13 ((I 26 x1.toNatClampNeg).toNatClampNeg) (-1)) L (qv h L fun I4 => Q none h I4 L)))))) :
    CT E mX11_closeMatch (d + 1) 0 0 [.ref (eB E + 0), .int x1, .int x2] h I L Q := by
  refine CT.of (by decide) [some (.ref (eB E + 0)), some (.int x1), some (.int x2)] rfl (Nat.le_of_ble_eq_true rfl) ?_
  refine J.aload_n dX11_closeMatch_0 rfl rfl ?_
  refine J.getR (r := 1) fl_X11_12 rfl dX11_closeMatch_1 (lt0 hs) (kk0 hs) (rr0_0 hs) ?_
  refine J.getR (r := 7) fl_X11_89 rfl dX11_closeMatch_4 (lt1 hs) (kk1 hs) (rr1_2 hs) ?_
  refine J.getR (r := 13) fl_X11_137 rfl dX11_closeMatch_7 (lt7 hs) (kk7 hs) (rr7_6 hs) ?_
  refine J.aload_n dX11_closeMatch_10 rfl rfl ?_
  refine J.getR (r := 1) fl_X11_12 rfl dX11_closeMatch_11 (lt0 hs) (kk0 hs) (rr0_0 hs) ?_
  refine J.getR (r := 24) fl_X11_140 rfl dX11_closeMatch_14 (lt1 hs) (kk1 hs) (rr1_4 hs) ?_
  refine J.getR (r := 25) fl_X11_289 rfl dX11_closeMatch_17 (lt24 hs) (kk24 hs) (rr24_1 hs) ?_
  refine J.iload_n dX11_closeMatch_20 rfl rfl ?_
  obtain ⟨hb1, hW⟩ := hW
  refine J.iald (x := I 25 x1.toNatClampNeg) dX11_closeMatch_21 (lt25 hs) (kk25 hs) hb1 rfl ?_
  refine J.iconst (v := (-1)) dX11_closeMatch_22 (by decide) ?_
  obtain ⟨hb2, hW⟩ := hW
  refine J.iast dX11_closeMatch_23 (lt13 hs) (kk13 hs) hb2 ?_
  refine J.aload_n dX11_closeMatch_24 rfl rfl ?_
  refine J.getR (r := 1) fl_X11_12 rfl dX11_closeMatch_25 (lt0 hs) (kk0 hs) (rr0_0 hs) ?_
  refine J.getR (r := 7) fl_X11_89 rfl dX11_closeMatch_28 (lt1 hs) (kk1 hs) (rr1_2 hs) ?_
  refine J.getR (r := 13) fl_X11_137 rfl dX11_closeMatch_31 (lt7 hs) (kk7 hs) (rr7_6 hs) ?_
  refine J.aload_n dX11_closeMatch_34 rfl rfl ?_
  refine J.getR (r := 1) fl_X11_12 rfl dX11_closeMatch_35 (lt0 hs) (kk0 hs) (rr0_0 hs) ?_
  refine J.getR (r := 24) fl_X11_140 rfl dX11_closeMatch_38 (lt1 hs) (kk1 hs) (rr1_4 hs) ?_
  refine J.getR (r := 26) fl_X11_292 rfl dX11_closeMatch_41 (lt24 hs) (kk24 hs) (rr24_2 hs) ?_
  refine J.iload_n dX11_closeMatch_44 rfl rfl ?_
  refine J.iald (x := I 26 x1.toNatClampNeg) dX11_closeMatch_45 (lt26 hs) (kk26 hs) hb1 rfl ?_
  refine J.iconst (v := (-1)) dX11_closeMatch_46 (by decide) ?_
  obtain ⟨hb3, hW⟩ := hW
  refine J.iast dX11_closeMatch_47 (lt13 hs) (kk13 hs) hb3 ?_
  refine J.aload_n dX11_closeMatch_48 rfl rfl ?_
  refine J.getR (r := 1) fl_X11_12 rfl dX11_closeMatch_49 (lt0 hs) (kk0 hs) (rr0_0 hs) ?_
  refine J.getR (r := 24) fl_X11_140 rfl dX11_closeMatch_52 (lt1 hs) (kk1 hs) (rr1_4 hs) ?_
  refine J.iload_n dX11_closeMatch_55 rfl rfl ?_
  refine J.iload_n dX11_closeMatch_56 rfl rfl ?_
  refine J.aload_n dX11_closeMatch_57 rfl rfl ?_
  refine J.getR (r := 1) fl_X11_12 rfl dX11_closeMatch_58 (lt0 hs) (kk0 hs) (rr0_0 hs) ?_
  refine J.getI (x := I 1 0) fl_X11_85 rfl dX11_closeMatch_61 (lt1 hs) (kk1 hs) rfl ?_
  refine J.callV (M' := mX4_stand) (index := 286) (bc := 0) (bs := 0) (bc' := 0) (bs' := 0) (st := []) [.int x1, .int x2, .int (I 1 0)] ml_X11_286 cv_X4_stand dX11_closeMatch_64 (lt24 hs) (kk24 hs) (by decide) rfl rfl rfl rfl (Nat.le_of_ble_eq_true rfl) (kqv hW (fun I4 hW => ?_))
  exact J.retv dX11_closeMatch_67 rfl hW
set_option maxRecDepth 100000 in
set_option maxHeartbeats 4000000 in
theorem w_X11_die {E : Envt} {d : Nat} {Q : Pst} {h : mS} {I : mI} {L : mL} (hs : SL h) (x1 : Int32) 
    (hW : (((¬ (x1 < 0) ∧ (¬ ((I 7 0) ≤ x1))) → (vp_in x1 20 ∧ ((((I 14 x1.toNatClampNeg) = 0) → Q (some (.int 0)) h I L) ∧ (¬ ((I 14 x1.toNatClampNeg) = 0) → (∀ y6 : Int32, y6 = I 13 x1.toNatClampNeg → (((¬ (y6 < 0) ∧ (¬ ((I 24 0) ≤ y6))) → vp_in y6 30) ∧ (((((¬ (y6 < 0) ∧ (¬ ((I 24 0) ≤ y6))) ∧ ((I 27 y6.toNatClampNeg) = 0)) ∨ ((¬ (y6 < 0) ∧ (¬ ((I 24 0) ≤ y6))) ∧ ((I 27 y6.toNatClampNeg) = 1))) → (CT E mX11_closeMatch (d + 2) 0 0 [.ref (eB E + 0), .int y6, .int 4] h I L (qv h L fun I12 => (CT E mX7_bury (d + 2) 0 0 [.ref (eB E + 7), .int x1] h I12 L (qv h L fun I13 => Q (some (.int 1)) h I13 L))))) ∧ (¬ (((¬ (y6 < 0) ∧ (¬ ((I 24 0) ≤ y6))) ∧ ((I 27 y6.toNatClampNeg) = 0)) ∨ ((¬ (y6 < 0) ∧ (¬ ((I 24 0) ≤ y6))) ∧ ((I 27 y6.toNatClampNeg) = 1))) → (CT E mX7_bury (d + 2) 0 0 [.ref (eB E + 7), .int x1] h I L (qv h L fun I11 => Q (some (.int 1)) h I11 L)))))))))) ∧ (¬ (¬ (x1 < 0) ∧ (¬ ((I 7 0) ≤ x1))) → Q (some (.int 0)) h I L))) :
    CT E mX11_die (d + 3) 0 0 [.ref (eB E + 0), .int x1] h I L Q := by
  refine CT.of (by decide) [some (.ref (eB E + 0)), some (.int x1), none, none] rfl (Nat.le_of_ble_eq_true rfl) ?_
  refine J.aload_n dX11_die_0 rfl rfl ?_
  refine J.getR (r := 1) fl_X11_12 rfl dX11_die_1 (lt0 hs) (kk0 hs) (rr0_0 hs) ?_
  refine J.getR (r := 7) fl_X11_89 rfl dX11_die_4 (lt1 hs) (kk1 hs) (rr1_2 hs) ?_
  refine J.astore_n (vs' := [some (.ref (eB E + 0)), some (.int x1), some (.ref (eB E + 7)), none]) dX11_die_7 rfl (by decide) rfl ?_
  refine J.aload_n dX11_die_8 rfl rfl ?_
  refine J.iload_n dX11_die_9 rfl rfl ?_
  refine J.callV (M' := mX7_has) (index := 123) (bc := 0) (bs := 0) (bc' := 0) (bs' := 0) (st := []) [.int x1] ml_X11_123 cv_X7_has dX11_die_10 (lt7 hs) (kk7 hs) (by decide) rfl rfl rfl rfl (Nat.le_of_ble_eq_true rfl) (kqi (w_X7_has (d := d + 2) (Q := qi h L (fun v I' => I' = I ∧ v = bI (¬ (x1 < 0) ∧ (¬ ((I 7 0) ≤ x1))))) hs x1 ⟨rfl, rfl, _, rfl, rfl, rfl⟩) (fun v1 I2 hv => ?_))
  rw [hv.1, hv.2]
  refine J.if_eq 25 dX11_die_13 (by decide) (fun hc3 => ?_) (fun hc3 => ?_)
  · have hc3 := bI_0.mp hc3
    have hW := hW.2 hc3
    refine J.iconst (v := 0) dX11_die_25 (by decide) ?_
    exact J.reti dX11_die_26 rfl (bz_nar (Or.inl rfl)) hW
  · have hc3 := bI_n0.mp hc3
    have hW := hW.1 hc3
    refine J.aload_n dX11_die_16 rfl rfl ?_
    refine J.getR (r := 14) fl_X11_133 rfl dX11_die_17 (lt7 hs) (kk7 hs) (rr7_7 hs) ?_
    refine J.iload_n dX11_die_20 rfl rfl ?_
    obtain ⟨hb4, hW⟩ := hW
    refine J.zald (x := I 14 x1.toNatClampNeg) dX11_die_21 (lt14 hs) (kk14 hs) hb4 rfl ?_
    refine J.if_ne 27 dX11_die_22 (by decide) (fun hc5 => ?_) (fun hc5 => ?_)
    · have hW := hW.2 hc5
      refine J.aload_n dX11_die_27 rfl rfl ?_
      refine J.getR (r := 13) fl_X11_137 rfl dX11_die_28 (lt7 hs) (kk7 hs) (rr7_6 hs) ?_
      refine J.iload_n dX11_die_31 rfl rfl ?_
      refine J.iald (x := I 13 x1.toNatClampNeg) dX11_die_32 (lt13 hs) (kk13 hs) hb4 rfl ?_
      refine J.topi (fun y6 hyy6 => ?_)
      have hW := hW y6 hyy6
      refine J.istore_n (vs' := [some (.ref (eB E + 0)), some (.int x1), some (.ref (eB E + 7)), some (.int y6)]) dX11_die_33 rfl (by decide) rfl ?_
      refine J.aload_n dX11_die_34 rfl rfl ?_
      refine J.getR (r := 1) fl_X11_12 rfl dX11_die_35 (lt0 hs) (kk0 hs) (rr0_0 hs) ?_
      refine J.getR (r := 24) fl_X11_140 rfl dX11_die_38 (lt1 hs) (kk1 hs) (rr1_4 hs) ?_
      refine J.iload_n dX11_die_41 rfl rfl ?_
      obtain ⟨hb7, hW⟩ := hW
      refine J.callV (M' := mX4_isOpen) (index := 144) (bc := 0) (bs := 0) (bc' := 0) (bs' := 0) (st := []) [.int y6] ml_X11_144 cv_X4_isOpen dX11_die_42 (lt24 hs) (kk24 hs) (by decide) rfl rfl rfl rfl (Nat.le_of_ble_eq_true rfl) (kqi (w_X4_isOpen (d := d) (Q := qi h L (fun v I' => I' = I ∧ v = bI (((¬ (y6 < 0) ∧ (¬ ((I 24 0) ≤ y6))) ∧ ((I 27 y6.toNatClampNeg) = 0)) ∨ ((¬ (y6 < 0) ∧ (¬ ((I 24 0) ≤ y6))) ∧ ((I 27 y6.toNatClampNeg) = 1))))) hs y6 ⟨hb7, rfl, rfl, _, rfl, rfl, rfl⟩) (fun v8 I9 hv => ?_))
      rw [hv.1, hv.2]
      refine J.if_eq 54 dX11_die_45 (by decide) (fun hc10 => ?_) (fun hc10 => ?_)
      · have hc10 := bI_0.mp hc10
        have hW := hW.2 hc10
        refine J.aload_n dX11_die_54 rfl rfl ?_
        refine J.iload_n dX11_die_55 rfl rfl ?_
        refine J.callV (M' := mX7_bury) (index := 153) (bc := 0) (bs := 0) (bc' := 0) (bs' := 0) (st := []) [.int x1] ml_X11_153 cv_X7_bury dX11_die_56 (lt7 hs) (kk7 hs) (by decide) rfl rfl rfl rfl (Nat.le_of_ble_eq_true rfl) (kqv hW (fun I11 hW => ?_))
        refine J.iconst (v := 1) dX11_die_59 (by decide) ?_
        exact J.reti dX11_die_60 rfl (bz_nar (Or.inr rfl)) hW
      · have hc10 := bI_n0.mp hc10
        have hW := hW.1 hc10
        refine J.aload_n dX11_die_48 rfl rfl ?_
        refine J.iload_n dX11_die_49 rfl rfl ?_
        refine J.iconst (v := 4) dX11_die_50 (by decide) ?_
        refine J.callV (M' := mX11_closeMatch) (index := 149) (bc := 0) (bs := 0) (bc' := 0) (bs' := 0) (st := []) [.int y6, .int 4] ml_X11_149 cv_X11_closeMatch dX11_die_51 (lt0 hs) (kk0 hs) (by decide) rfl rfl rfl rfl (Nat.le_of_ble_eq_true rfl) (kqv hW (fun I12 hW => ?_))
        refine J.aload_n dX11_die_54 rfl rfl ?_
        refine J.iload_n dX11_die_55 rfl rfl ?_
        refine J.callV (M' := mX7_bury) (index := 153) (bc := 0) (bs := 0) (bc' := 0) (bs' := 0) (st := []) [.int x1] ml_X11_153 cv_X7_bury dX11_die_56 (lt7 hs) (kk7 hs) (by decide) rfl rfl rfl rfl (Nat.le_of_ble_eq_true rfl) (kqv hW (fun I13 hW => ?_))
        refine J.iconst (v := 1) dX11_die_59 (by decide) ?_
        exact J.reti dX11_die_60 rfl (bz_nar (Or.inr rfl)) hW
    · have hW := hW.1 hc5
      refine J.iconst (v := 0) dX11_die_25 (by decide) ?_
      exact J.reti dX11_die_26 rfl (bz_nar (Or.inl rfl)) hW
