set_option maxRecDepth 100000 in
set_option maxHeartbeats 4000000 in
theorem w_X11_year {E : Envt} {d : Nat} {Q : Pst} {h : mS} {I : mI} {L : mL} (hs : SL h)  
    (hW : ((((I 1 0) < 300) → Q (some (.int ((I 1 0) + 1))) h (uI I 1 0 ((I 1 0) + 1)) L) ∧ (¬ ((I 1 0) < 300) → Q (some (.int (-1))) h I L))) :
    CT E mX11_year d 0 0 [.ref (eB E + 0)] h I L Q := by
  refine CT.of (by decide) [some (.ref (eB E + 0))] rfl (Nat.le_of_ble_eq_true rfl) ?_
  refine J.aload_n dX11_year_0 rfl rfl ?_
  refine J.getR (r := 1) fl_X11_12 rfl dX11_year_1 (lt0 hs) (kk0 hs) (rr0_0 hs) ?_
  refine J.getI (x := I 1 0) fl_X11_85 rfl dX11_year_4 (lt1 hs) (kk1 hs) rfl ?_
  refine J.sipush (v := 300) dX11_year_7 (by decide) ?_
  refine J.ic_lt 15 dX11_year_10 (by decide) (fun hc1 => ?_) (fun hc1 => ?_)
  · have hW := hW.1 hc1
    refine J.aload_n dX11_year_15 rfl rfl ?_
    refine J.getR (r := 1) fl_X11_12 rfl dX11_year_16 (lt0 hs) (kk0 hs) (rr0_0 hs) ?_
    refine J.dup dX11_year_19 rfl ?_
    refine J.getI (x := I 1 0) fl_X11_85 rfl dX11_year_20 (lt1 hs) (kk1 hs) rfl ?_
    refine J.iconst (v := 1) dX11_year_23 (by decide) ?_
    refine J.iadd dX11_year_24 ?_
    refine J.putI fw_X11_85 rfl dX11_year_25 (lt1 hs) (kk1 hs) ?_
    refine J.aload_n dX11_year_28 rfl rfl ?_
    refine J.getR (r := 1) fl_X11_12 rfl dX11_year_29 (lt0 hs) (kk0 hs) (rr0_0 hs) ?_
    refine J.getI (x := (I 1 0) + 1) fl_X11_85 rfl dX11_year_32 (lt1 hs) (kk1 hs) (by simp [uI]) ?_
    exact J.reti dX11_year_35 rfl rfl hW
  · have hW := hW.2 hc1
    refine J.iconst (v := (-1)) dX11_year_13 (by decide) ?_
    exact J.reti dX11_year_14 rfl rfl hW
set_option maxRecDepth 100000 in
set_option maxHeartbeats 4000000 in
theorem w_X11_isKinAsked {E : Envt} {d : Nat} {Q : Pst} {h : mS} {I : mI} {L : mL} (hs : SL h) (x1 : Int32) (x2 : Int32) (x3 : Int32) (x4 : Int32) 
    (hW : Q (some (.int (bI ((¬ (x1 < 0) ∧ (¬ ((I 7 0) ≤ x1))) ∧ ((¬ (x2 < 0) ∧ (¬ ((I 7 0) ≤ x2))) ∧ ((¬ (x3 < 0) ∧ (¬ (4 < x3))) ∧ (¬ (x4 < 0) ∧ (¬ (300 < x4))))))))) h I L) :
    CT E mX11_isKinAsked (d + 2) 0 0 [.ref (eB E + 0), .int x1, .int x2, .int x3, .int x4] h I L Q := by
  refine CT.of (by decide) [some (.ref (eB E + 0)), some (.int x1), some (.int x2), some (.int x3), some (.int x4)] rfl (Nat.le_of_ble_eq_true rfl) ?_
  refine J.aload_n dX11_isKinAsked_0 rfl rfl ?_
  refine J.getR (r := 1) fl_X11_12 rfl dX11_isKinAsked_1 (lt0 hs) (kk0 hs) (rr0_0 hs) ?_
  refine J.getR (r := 7) fl_X11_89 rfl dX11_isKinAsked_4 (lt1 hs) (kk1 hs) (rr1_2 hs) ?_
  refine J.iload_n dX11_isKinAsked_7 rfl rfl ?_
  refine J.callV (M' := mX7_has) (index := 123) (bc := 0) (bs := 0) (bc' := 0) (bs' := 0) (st := []) [.int x1] ml_X11_123 cv_X7_has dX11_isKinAsked_8 (lt7 hs) (kk7 hs) (by decide) rfl rfl rfl rfl (Nat.le_of_ble_eq_true rfl) (kqi (w_X7_has (d := d + 1) (Q := qi h L (fun v I' => I' = I ∧ v = bI (¬ (x1 < 0) ∧ (¬ ((I 7 0) ≤ x1))))) hs x1 ⟨rfl, rfl, _, rfl, rfl, rfl⟩) (fun v1 I2 hv => ?_))
  rw [hv.1, hv.2]
  have hj : J E mX11_isKinAsked (d + 2) Q 0 0 52 [some (.ref (eB E + 0)), some (.int x1), some (.int x2), some (.int x3), some (.int x4)] [.int (bI ((¬ (x1 < 0) ∧ (¬ ((I 7 0) ≤ x1))) ∧ ((¬ (x2 < 0) ∧ (¬ ((I 7 0) ≤ x2))) ∧ ((¬ (x3 < 0) ∧ (¬ (4 < x3))) ∧ (¬ (x4 < 0) ∧ (¬ (300 < x4)))))))] h I L := by
    exact J.reti dX11_isKinAsked_52 rfl (bz_nar (bI_bz _)) hW
  refine J.if_eq 51 dX11_isKinAsked_11 (by decide) (fun hc3 => ?_) (fun hc3 => ?_)
  · have hc3 := bI_0.mp hc3
    refine J.iconst (v := 0) dX11_isKinAsked_51 (by decide) ?_
    rw [show bI ((¬ (x1 < 0) ∧ (¬ ((I 7 0) ≤ x1))) ∧ ((¬ (x2 < 0) ∧ (¬ ((I 7 0) ≤ x2))) ∧ ((¬ (x3 < 0) ∧ (¬ (4 < x3))) ∧ (¬ (x4 < 0) ∧ (¬ (300 < x4)))))) = 0 from bI_f (by simp only [eq_false hc3, and_true, true_and, and_false, false_and, or_true, true_or, or_false, false_or, not_true_eq_false, not_false_eq_true])] at hj
    exact hj
  · have hc3 := bI_n0.mp hc3
    refine J.aload_n dX11_isKinAsked_14 rfl rfl ?_
    refine J.getR (r := 1) fl_X11_12 rfl dX11_isKinAsked_15 (lt0 hs) (kk0 hs) (rr0_0 hs) ?_
    refine J.getR (r := 7) fl_X11_89 rfl dX11_isKinAsked_18 (lt1 hs) (kk1 hs) (rr1_2 hs) ?_
    refine J.iload_n dX11_isKinAsked_21 rfl rfl ?_
    refine J.callV (M' := mX7_has) (index := 123) (bc := 0) (bs := 0) (bc' := 0) (bs' := 0) (st := []) [.int x2] ml_X11_123 cv_X7_has dX11_isKinAsked_22 (lt7 hs) (kk7 hs) (by decide) rfl rfl rfl rfl (Nat.le_of_ble_eq_true rfl) (kqi (w_X7_has (d := d + 1) (Q := qi h L (fun v I' => I' = I ∧ v = bI (¬ (x2 < 0) ∧ (¬ ((I 7 0) ≤ x2))))) hs x2 ⟨rfl, rfl, _, rfl, rfl, rfl⟩) (fun v4 I5 hv => ?_))
    rw [hv.1, hv.2]
    refine J.if_eq 51 dX11_isKinAsked_25 (by decide) (fun hc6 => ?_) (fun hc6 => ?_)
    · have hc6 := bI_0.mp hc6
      refine J.iconst (v := 0) dX11_isKinAsked_51 (by decide) ?_
      rw [show bI ((¬ (x1 < 0) ∧ (¬ ((I 7 0) ≤ x1))) ∧ ((¬ (x2 < 0) ∧ (¬ ((I 7 0) ≤ x2))) ∧ ((¬ (x3 < 0) ∧ (¬ (4 < x3))) ∧ (¬ (x4 < 0) ∧ (¬ (300 < x4)))))) = 0 from bI_f (by simp only [eq_true hc3, eq_false hc6, and_true, true_and, and_false, false_and, or_true, true_or, or_false, false_or, not_true_eq_false, not_false_eq_true])] at hj
      exact hj
    · have hc6 := bI_n0.mp hc6
      refine J.iload_n dX11_isKinAsked_28 rfl rfl ?_
      refine J.callS (M' := mX11_isVillage) (index := 67) (bc := 0) (bs := 0) (bc' := 0) (bs' := 0) (st := []) [.int x3] ml_X11_67 cv_X11_isVillage dX11_isKinAsked_29 rfl rfl (Nat.le_of_ble_eq_true rfl) (kqi (w_X11_isVillage (d := d) (Q := qi h L (fun v I' => I' = I ∧ v = bI (¬ (x3 < 0) ∧ (¬ (4 < x3))))) hs x3 ⟨rfl, rfl, _, rfl, rfl, rfl⟩) (fun v7 I8 hv => ?_))
      rw [hv.1, hv.2]
      refine J.if_eq 51 dX11_isKinAsked_32 (by decide) (fun hc9 => ?_) (fun hc9 => ?_)
      · have hc9 := bI_0.mp hc9
        refine J.iconst (v := 0) dX11_isKinAsked_51 (by decide) ?_
        rw [show bI ((¬ (x1 < 0) ∧ (¬ ((I 7 0) ≤ x1))) ∧ ((¬ (x2 < 0) ∧ (¬ ((I 7 0) ≤ x2))) ∧ ((¬ (x3 < 0) ∧ (¬ (4 < x3))) ∧ (¬ (x4 < 0) ∧ (¬ (300 < x4)))))) = 0 from bI_f (by simp only [eq_true hc3, eq_true hc6, eq_false hc9, and_true, true_and, and_false, false_and, or_true, true_or, or_false, false_or, not_true_eq_false, not_false_eq_true])] at hj
        exact hj
      · have hc9 := bI_n0.mp hc9
        refine J.iload dX11_isKinAsked_35 rfl ?_
        refine J.iconst (v := 0) dX11_isKinAsked_37 (by decide) ?_
        refine J.sipush (v := 300) dX11_isKinAsked_38 (by decide) ?_
        refine J.callS (M' := mX11_within) (index := 63) (bc := 0) (bs := 0) (bc' := 0) (bs' := 0) (st := []) [.int x4, .int 0, .int 300] ml_X11_63 cv_X11_within dX11_isKinAsked_41 rfl rfl (Nat.le_of_ble_eq_true rfl) (kqi (w_X11_within (d := d + 1) (Q := qi h L (fun v I' => I' = I ∧ v = bI (¬ (x4 < 0) ∧ (¬ (300 < x4))))) hs x4 0 300 ⟨rfl, rfl, _, rfl, rfl, rfl⟩) (fun v10 I11 hv => ?_))
        rw [hv.1, hv.2]
        refine J.if_eq 51 dX11_isKinAsked_44 (by decide) (fun hc12 => ?_) (fun hc12 => ?_)
        · have hc12 := bI_0.mp hc12
          refine J.iconst (v := 0) dX11_isKinAsked_51 (by decide) ?_
          rw [show bI ((¬ (x1 < 0) ∧ (¬ ((I 7 0) ≤ x1))) ∧ ((¬ (x2 < 0) ∧ (¬ ((I 7 0) ≤ x2))) ∧ ((¬ (x3 < 0) ∧ (¬ (4 < x3))) ∧ (¬ (x4 < 0) ∧ (¬ (300 < x4)))))) = 0 from bI_f (by simp only [eq_true hc3, eq_true hc6, eq_true hc9, eq_false hc12, and_true, true_and, and_false, false_and, or_true, true_or, or_false, false_or, not_true_eq_false, not_false_eq_true])] at hj
          exact hj
        · have hc12 := bI_n0.mp hc12
          refine J.iconst (v := 1) dX11_isKinAsked_47 (by decide) ?_
          refine J.goto 52 dX11_isKinAsked_48 (by decide) ?_
          rw [show bI ((¬ (x1 < 0) ∧ (¬ ((I 7 0) ≤ x1))) ∧ ((¬ (x2 < 0) ∧ (¬ ((I 7 0) ≤ x2))) ∧ ((¬ (x3 < 0) ∧ (¬ (4 < x3))) ∧ (¬ (x4 < 0) ∧ (¬ (300 < x4)))))) = 1 from bI_t (by simp only [eq_true hc3, eq_true hc6, eq_true hc9, eq_true hc12, and_true, true_and, and_false, false_and, or_true, true_or, or_false, false_or, not_true_eq_false, not_false_eq_true])] at hj
          exact hj
set_option maxRecDepth 100000 in
set_option maxHeartbeats 4000000 in
theorem w_X11_kin {E : Envt} {d : Nat} {Q : Pst} {h : mS} {I : mI} {L : mL} (hs : SL h) (x1 : Int32) (x2 : Int32) (x3 : Int32) (x4 : Int32) 
    (hW : ((((¬ (x1 < 0) ∧ (¬ ((I 7 0) ≤ x1))) ∧ ((¬ (x2 < 0) ∧ (¬ ((I 7 0) ≤ x2))) ∧ ((¬ (x3 < 0) ∧ (¬ (4 < x3))) ∧ (¬ (x4 < 0) ∧ (¬ (300 < x4)))))) → (CT E mX3_steps (d + 3) 0 0 [.ref (eB E + 56), .int x1, .int x2, .int x3, .int x4] h I L (qi h L fun r5 I4 => Q (some (.int r5)) h I4 L))) ∧ (¬ ((¬ (x1 < 0) ∧ (¬ ((I 7 0) ≤ x1))) ∧ ((¬ (x2 < 0) ∧ (¬ ((I 7 0) ≤ x2))) ∧ ((¬ (x3 < 0) ∧ (¬ (4 < x3))) ∧ (¬ (x4 < 0) ∧ (¬ (300 < x4)))))) → Q (some (.int (-1))) h I L))) :
    CT E mX11_kin (d + 4) 0 0 [.ref (eB E + 0), .int x1, .int x2, .int x3, .int x4] h I L Q := by
  refine CT.of (by decide) [some (.ref (eB E + 0)), some (.int x1), some (.int x2), some (.int x3), some (.int x4)] rfl (Nat.le_of_ble_eq_true rfl) ?_
  refine J.aload_n dX11_kin_0 rfl rfl ?_
  refine J.iload_n dX11_kin_1 rfl rfl ?_
  refine J.iload_n dX11_kin_2 rfl rfl ?_
  refine J.iload_n dX11_kin_3 rfl rfl ?_
  refine J.iload dX11_kin_4 rfl ?_
  refine J.callV (M' := mX11_isKinAsked) (index := 157) (bc := 0) (bs := 0) (bc' := 0) (bs' := 0) (st := []) [.int x1, .int x2, .int x3, .int x4] ml_X11_157 cv_X11_isKinAsked dX11_kin_6 (lt0 hs) (kk0 hs) (by decide) rfl rfl rfl rfl (Nat.le_of_ble_eq_true rfl) (kqi (w_X11_isKinAsked (d := d + 1) (Q := qi h L (fun v I' => I' = I ∧ v = bI ((¬ (x1 < 0) ∧ (¬ ((I 7 0) ≤ x1))) ∧ ((¬ (x2 < 0) ∧ (¬ ((I 7 0) ≤ x2))) ∧ ((¬ (x3 < 0) ∧ (¬ (4 < x3))) ∧ (¬ (x4 < 0) ∧ (¬ (300 < x4)))))))) hs x1 x2 x3 x4 ⟨rfl, rfl, _, rfl, rfl, rfl⟩) (fun v1 I2 hv => ?_))
  rw [hv.1, hv.2]
  refine J.if_ne 14 dX11_kin_9 (by decide) (fun hc3 => ?_) (fun hc3 => ?_)
  · have hc3 := bI_n0.mp hc3
    have hW := hW.1 hc3
    refine J.aload_n dX11_kin_14 rfl rfl ?_
    refine J.getR (r := 56) fl_X11_32 rfl dX11_kin_15 (lt0 hs) (kk0 hs) (rr0_3 hs) ?_
    refine J.iload_n dX11_kin_18 rfl rfl ?_
    refine J.iload_n dX11_kin_19 rfl rfl ?_
    refine J.iload_n dX11_kin_20 rfl rfl ?_
    refine J.iload dX11_kin_21 rfl ?_
    refine J.callV (M' := mX3_steps) (index := 161) (bc := 0) (bs := 0) (bc' := 0) (bs' := 0) (st := []) [.int x1, .int x2, .int x3, .int x4] ml_X11_161 cv_X3_steps dX11_kin_23 (lt56 hs) (kk56 hs) (by decide) rfl rfl rfl rfl (Nat.le_of_ble_eq_true rfl) (kqi hW (fun r5 I4 hW => ?_))
    exact J.reti dX11_kin_26 rfl rfl hW
  · have hc3 := bI_0.mp hc3
    have hW := hW.2 hc3
    refine J.iconst (v := (-1)) dX11_kin_12 (by decide) ?_
    exact J.reti dX11_kin_13 rfl rfl hW
set_option maxRecDepth 100000 in
set_option maxHeartbeats 4000000 in
theorem w_X11_chain {E : Envt} {d : Nat} {Q : Pst} {h : mS} {I : mI} {L : mL} (hs : SL h) (x1 : Int32) (x2 : Int32) (x3 : Int32) (x4 : Int32) (x5 : Int32) 
    (hW : ((((¬ (x1 < 0) ∧ (¬ ((I 7 0) ≤ x1))) ∧ ((¬ (x2 < 0) ∧ (¬ ((I 7 0) ≤ x2))) ∧ ((¬ (x3 < 0) ∧ (¬ (4 < x3))) ∧ (¬ (x4 < 0) ∧ (¬ (300 < x4)))))) → (CT E mX3_link (d + 3) 0 0 [.ref (eB E + 56), .int x1, .int x2, .int x3, .int x4, .int x5] h I L (qi h L fun r5 I4 => Q (some (.int r5)) h I4 L))) ∧ (¬ ((¬ (x1 < 0) ∧ (¬ ((I 7 0) ≤ x1))) ∧ ((¬ (x2 < 0) ∧ (¬ ((I 7 0) ≤ x2))) ∧ ((¬ (x3 < 0) ∧ (¬ (4 < x3))) ∧ (¬ (x4 < 0) ∧ (¬ (300 < x4)))))) → Q (some (.int (-1))) h I L))) :
    CT E mX11_chain (d + 4) 0 0 [.ref (eB E + 0), .int x1, .int x2, .int x3, .int x4, .int x5] h I L Q := by
  refine CT.of (by decide) [some (.ref (eB E + 0)), some (.int x1), some (.int x2), some (.int x3), some (.int x4), some (.int x5)] rfl (Nat.le_of_ble_eq_true rfl) ?_
  refine J.aload_n dX11_chain_0 rfl rfl ?_
  refine J.iload_n dX11_chain_1 rfl rfl ?_
  refine J.iload_n dX11_chain_2 rfl rfl ?_
  refine J.iload_n dX11_chain_3 rfl rfl ?_
  refine J.iload dX11_chain_4 rfl ?_
  refine J.callV (M' := mX11_isKinAsked) (index := 157) (bc := 0) (bs := 0) (bc' := 0) (bs' := 0) (st := []) [.int x1, .int x2, .int x3, .int x4] ml_X11_157 cv_X11_isKinAsked dX11_chain_6 (lt0 hs) (kk0 hs) (by decide) rfl rfl rfl rfl (Nat.le_of_ble_eq_true rfl) (kqi (w_X11_isKinAsked (d := d + 1) (Q := qi h L (fun v I' => I' = I ∧ v = bI ((¬ (x1 < 0) ∧ (¬ ((I 7 0) ≤ x1))) ∧ ((¬ (x2 < 0) ∧ (¬ ((I 7 0) ≤ x2))) ∧ ((¬ (x3 < 0) ∧ (¬ (4 < x3))) ∧ (¬ (x4 < 0) ∧ (¬ (300 < x4)))))))) hs x1 x2 x3 x4 ⟨rfl, rfl, _, rfl, rfl, rfl⟩) (fun v1 I2 hv => ?_))
  rw [hv.1, hv.2]
  refine J.if_ne 14 dX11_chain_9 (by decide) (fun hc3 => ?_) (fun hc3 => ?_)
  · have hc3 := bI_n0.mp hc3
    have hW := hW.1 hc3
    refine J.aload_n dX11_chain_14 rfl rfl ?_
    refine J.getR (r := 56) fl_X11_32 rfl dX11_chain_15 (lt0 hs) (kk0 hs) (rr0_3 hs) ?_
    refine J.iload_n dX11_chain_18 rfl rfl ?_
    refine J.iload_n dX11_chain_19 rfl rfl ?_
    refine J.iload_n dX11_chain_20 rfl rfl ?_
    refine J.iload dX11_chain_21 rfl ?_
    refine J.iload dX11_chain_23 rfl ?_
    refine J.callV (M' := mX3_link) (index := 164) (bc := 0) (bs := 0) (bc' := 0) (bs' := 0) (st := []) [.int x1, .int x2, .int x3, .int x4, .int x5] ml_X11_164 cv_X3_link dX11_chain_25 (lt56 hs) (kk56 hs) (by decide) rfl rfl rfl rfl (Nat.le_of_ble_eq_true rfl) (kqi hW (fun r5 I4 hW => ?_))
    exact J.reti dX11_chain_28 rfl rfl hW
  · have hc3 := bI_0.mp hc3
    have hW := hW.2 hc3
    refine J.iconst (v := (-1)) dX11_chain_12 (by decide) ?_
    exact J.reti dX11_chain_13 rfl rfl hW
set_option maxRecDepth 100000 in
set_option maxHeartbeats 4000000 in
theorem w_X11_tell {E : Envt} {d : Nat} {Q : Pst} {h : mS} {I : mI} {L : mL} (hs : SL h) (x1 : Int32) (x2 : Int32) 
    (hW : (((¬ (x1 < 0) ∧ (¬ ((I 7 0) ≤ x1))) → ((x2 = 0 → (vp_in x1 20 ∧ Q (some (.int (I 8 x1.toNatClampNeg))) h I L)) ∧ (x2 = 1 → (vp_in x1 20 ∧ Q (some (.int (I 9 x1.toNatClampNeg))) h I L)) ∧ (x2 = 2 → (vp_in x1 20 ∧ Q (some (.int (I 10 x1.toNatClampNeg))) h I L)) ∧ (x2 = 3 → (vp_in x1 20 ∧ Q (some (.int (I 11 x1.toNatClampNeg))) h I L)) ∧ (x2 = 4 → (vp_in x1 20 ∧ Q (some (.int ((I 1 0) - (I 11 x1.toNatClampNeg)))) h I L)) ∧ (x2 = 5 → (vp_in x1 20 ∧ Q (some (.int (bI (¬ ((I 14 x1.toNatClampNeg) = 0))))) h I L)) ∧ (x2 = 6 → (vp_in x1 20 ∧ Q (some (.int (I 12 x1.toNatClampNeg))) h I L)) ∧ (x2 = 7 → (vp_in x1 20 ∧ Q (some (.int (bI (¬ ((I 15 x1.toNatClampNeg) = 0))))) h I L)) ∧ (x2 = 8 → (vp_in x1 20 ∧ Q (some (.int (I 13 x1.toNatClampNeg))) h I L)) ∧ (x2 = 9 → ((vp_in x1 20) ∧ Q (some (.int (bI (¬ ((bI (¬ ((I 14 x1.toNatClampNeg) = 0) ∧ (((I 12 x1.toNatClampNeg) = (-1)) ∧ ((I 13 x1.toNatClampNeg) = (-1))))) = 0))))) h I L)) ∧ (¬ x2 = 0 → ¬ x2 = 1 → ¬ x2 = 2 → ¬ x2 = 3 → ¬ x2 = 4 → ¬ x2 = 5 → ¬ x2 = 6 → ¬ x2 = 7 → ¬ x2 = 8 → ¬ x2 = 9 → Q (some (.int (-100))) h I L))) ∧ (¬ (¬ (x1 < 0) ∧ (¬ ((I 7 0) ≤ x1))) → Q (some (.int (-100))) h I L))) :
    CT E mX11_tell (d + 1) 0 0 [.ref (eB E + 0), .int x1, .int x2] h I L Q := by
  refine CT.of (by decide) [some (.ref (eB E + 0)), some (.int x1), some (.int x2), none] rfl (Nat.le_of_ble_eq_true rfl) ?_
  refine J.aload_n dX11_tell_0 rfl rfl ?_
  refine J.getR (r := 1) fl_X11_12 rfl dX11_tell_1 (lt0 hs) (kk0 hs) (rr0_0 hs) ?_
  refine J.getR (r := 7) fl_X11_89 rfl dX11_tell_4 (lt1 hs) (kk1 hs) (rr1_2 hs) ?_
  refine J.astore_n (vs' := [some (.ref (eB E + 0)), some (.int x1), some (.int x2), some (.ref (eB E + 7))]) dX11_tell_7 rfl (by decide) rfl ?_
  refine J.aload_n dX11_tell_8 rfl rfl ?_
  refine J.iload_n dX11_tell_9 rfl rfl ?_
  refine J.callV (M' := mX7_has) (index := 123) (bc := 0) (bs := 0) (bc' := 0) (bs' := 0) (st := []) [.int x1] ml_X11_123 cv_X7_has dX11_tell_10 (lt7 hs) (kk7 hs) (by decide) rfl rfl rfl rfl (Nat.le_of_ble_eq_true rfl) (kqi (w_X7_has (d := d) (Q := qi h L (fun v I' => I' = I ∧ v = bI (¬ (x1 < 0) ∧ (¬ ((I 7 0) ≤ x1))))) hs x1 ⟨rfl, rfl, _, rfl, rfl, rfl⟩) (fun v1 I2 hv => ?_))
  rw [hv.1, hv.2]
  refine J.if_ne 19 dX11_tell_13 (by decide) (fun hc3 => ?_) (fun hc3 => ?_)
  · have hc3 := bI_n0.mp hc3
    have hW := hW.1 hc3
    refine J.iload_n dX11_tell_19 rfl rfl ?_
    by_cases hk22 : x2 = 0
    · have hW := hW.1 hk22
      refine J.tableIn (off := 56) 76 dX11_tell_20 (by rw [hk22] <;> decide) (by rw [hk22] <;> decide) (by rw [hk22] <;> rfl) (by decide) ?_
      refine J.aload_n dX11_tell_76 rfl rfl ?_
      refine J.getR (r := 8) fl_X11_168 rfl dX11_tell_77 (lt7 hs) (kk7 hs) (rr7_1 hs) ?_
      refine J.iload_n dX11_tell_80 rfl rfl ?_
      obtain ⟨hb4, hW⟩ := hW
      refine J.iald (x := I 8 x1.toNatClampNeg) dX11_tell_81 (lt8 hs) (kk8 hs) hb4 rfl ?_
      exact J.reti dX11_tell_82 rfl rfl hW
    by_cases hk23 : x2 = 1
    · have hW := hW.2.1 hk23
      refine J.tableIn (off := 63) 83 dX11_tell_20 (by rw [hk23] <;> decide) (by rw [hk23] <;> decide) (by rw [hk23] <;> rfl) (by decide) ?_
      refine J.aload_n dX11_tell_83 rfl rfl ?_
      refine J.getR (r := 9) fl_X11_171 rfl dX11_tell_84 (lt7 hs) (kk7 hs) (rr7_2 hs) ?_
      refine J.iload_n dX11_tell_87 rfl rfl ?_
      obtain ⟨hb5, hW⟩ := hW
      refine J.iald (x := I 9 x1.toNatClampNeg) dX11_tell_88 (lt9 hs) (kk9 hs) hb5 rfl ?_
      exact J.reti dX11_tell_89 rfl rfl hW
    by_cases hk24 : x2 = 2
    · have hW := hW.2.2.1 hk24
      refine J.tableIn (off := 70) 90 dX11_tell_20 (by rw [hk24] <;> decide) (by rw [hk24] <;> decide) (by rw [hk24] <;> rfl) (by decide) ?_
      refine J.aload_n dX11_tell_90 rfl rfl ?_
      refine J.getR (r := 10) fl_X11_174 rfl dX11_tell_91 (lt7 hs) (kk7 hs) (rr7_3 hs) ?_
      refine J.iload_n dX11_tell_94 rfl rfl ?_
      obtain ⟨hb6, hW⟩ := hW
      refine J.iald (x := I 10 x1.toNatClampNeg) dX11_tell_95 (lt10 hs) (kk10 hs) hb6 rfl ?_
      exact J.reti dX11_tell_96 rfl rfl hW
    by_cases hk25 : x2 = 3
    · have hW := hW.2.2.2.1 hk25
      refine J.tableIn (off := 77) 97 dX11_tell_20 (by rw [hk25] <;> decide) (by rw [hk25] <;> decide) (by rw [hk25] <;> rfl) (by decide) ?_
      refine J.aload_n dX11_tell_97 rfl rfl ?_
      refine J.getR (r := 11) fl_X11_124 rfl dX11_tell_98 (lt7 hs) (kk7 hs) (rr7_4 hs) ?_
      refine J.iload_n dX11_tell_101 rfl rfl ?_
      obtain ⟨hb7, hW⟩ := hW
      refine J.iald (x := I 11 x1.toNatClampNeg) dX11_tell_102 (lt11 hs) (kk11 hs) hb7 rfl ?_
      exact J.reti dX11_tell_103 rfl rfl hW
    by_cases hk26 : x2 = 4
    · have hW := hW.2.2.2.2.1 hk26
      refine J.tableIn (off := 84) 104 dX11_tell_20 (by rw [hk26] <;> decide) (by rw [hk26] <;> decide) (by rw [hk26] <;> rfl) (by decide) ?_
      refine J.aload_n dX11_tell_104 rfl rfl ?_
      refine J.getR (r := 1) fl_X11_12 rfl dX11_tell_105 (lt0 hs) (kk0 hs) (rr0_0 hs) ?_
      refine J.getI (x := I 1 0) fl_X11_85 rfl dX11_tell_108 (lt1 hs) (kk1 hs) rfl ?_
      refine J.aload_n dX11_tell_111 rfl rfl ?_
      refine J.getR (r := 11) fl_X11_124 rfl dX11_tell_112 (lt7 hs) (kk7 hs) (rr7_4 hs) ?_
      refine J.iload_n dX11_tell_115 rfl rfl ?_
      obtain ⟨hb8, hW⟩ := hW
      refine J.iald (x := I 11 x1.toNatClampNeg) dX11_tell_116 (lt11 hs) (kk11 hs) hb8 rfl ?_
      refine J.isub dX11_tell_117 ?_
      exact J.reti dX11_tell_118 rfl rfl hW
    by_cases hk27 : x2 = 5
    · have hW := hW.2.2.2.2.2.1 hk27
      refine J.tableIn (off := 99) 119 dX11_tell_20 (by rw [hk27] <;> decide) (by rw [hk27] <;> decide) (by rw [hk27] <;> rfl) (by decide) ?_
      refine J.aload_n dX11_tell_119 rfl rfl ?_
      refine J.getR (r := 14) fl_X11_133 rfl dX11_tell_120 (lt7 hs) (kk7 hs) (rr7_7 hs) ?_
      refine J.iload_n dX11_tell_123 rfl rfl ?_
      obtain ⟨hb9, hW⟩ := hW
      refine J.zald (x := I 14 x1.toNatClampNeg) dX11_tell_124 (lt14 hs) (kk14 hs) hb9 rfl ?_
      refine J.callS (M' := mX11_bit) (index := 177) (bc := 0) (bs := 0) (bc' := 0) (bs' := 0) (st := []) [.int (I 14 x1.toNatClampNeg)] ml_X11_177 cv_X11_bit dX11_tell_125 rfl rfl (Nat.le_of_ble_eq_true rfl) (kqi (w_X11_bit (d := d) (Q := qi h L (fun v I' => I' = I ∧ v = bI (¬ ((I 14 x1.toNatClampNeg) = 0)))) hs (I 14 x1.toNatClampNeg) ⟨rfl, rfl, _, rfl, rfl, rfl⟩) (fun v10 I11 hv => ?_))
      rw [hv.1, hv.2]
      exact J.reti dX11_tell_128 rfl rfl hW
    by_cases hk28 : x2 = 6
    · have hW := hW.2.2.2.2.2.2.1 hk28
      refine J.tableIn (off := 109) 129 dX11_tell_20 (by rw [hk28] <;> decide) (by rw [hk28] <;> decide) (by rw [hk28] <;> rfl) (by decide) ?_
      refine J.aload_n dX11_tell_129 rfl rfl ?_
      refine J.getR (r := 12) fl_X11_181 rfl dX11_tell_130 (lt7 hs) (kk7 hs) (rr7_5 hs) ?_
      refine J.iload_n dX11_tell_133 rfl rfl ?_
      obtain ⟨hb12, hW⟩ := hW
      refine J.iald (x := I 12 x1.toNatClampNeg) dX11_tell_134 (lt12 hs) (kk12 hs) hb12 rfl ?_
      exact J.reti dX11_tell_135 rfl rfl hW
    by_cases hk29 : x2 = 7
    · have hW := hW.2.2.2.2.2.2.2.1 hk29
      refine J.tableIn (off := 116) 136 dX11_tell_20 (by rw [hk29] <;> decide) (by rw [hk29] <;> decide) (by rw [hk29] <;> rfl) (by decide) ?_
      refine J.aload_n dX11_tell_136 rfl rfl ?_
      refine J.getR (r := 15) fl_X11_184 rfl dX11_tell_137 (lt7 hs) (kk7 hs) (rr7_8 hs) ?_
      refine J.iload_n dX11_tell_140 rfl rfl ?_
      obtain ⟨hb13, hW⟩ := hW
      refine J.zald (x := I 15 x1.toNatClampNeg) dX11_tell_141 (lt15 hs) (kk15 hs) hb13 rfl ?_
      refine J.callS (M' := mX11_bit) (index := 177) (bc := 0) (bs := 0) (bc' := 0) (bs' := 0) (st := []) [.int (I 15 x1.toNatClampNeg)] ml_X11_177 cv_X11_bit dX11_tell_142 rfl rfl (Nat.le_of_ble_eq_true rfl) (kqi (w_X11_bit (d := d) (Q := qi h L (fun v I' => I' = I ∧ v = bI (¬ ((I 15 x1.toNatClampNeg) = 0)))) hs (I 15 x1.toNatClampNeg) ⟨rfl, rfl, _, rfl, rfl, rfl⟩) (fun v14 I15 hv => ?_))
      rw [hv.1, hv.2]
      exact J.reti dX11_tell_145 rfl rfl hW
    by_cases hk30 : x2 = 8
    · have hW := hW.2.2.2.2.2.2.2.2.1 hk30
      refine J.tableIn (off := 126) 146 dX11_tell_20 (by rw [hk30] <;> decide) (by rw [hk30] <;> decide) (by rw [hk30] <;> rfl) (by decide) ?_
      refine J.aload_n dX11_tell_146 rfl rfl ?_
      refine J.getR (r := 13) fl_X11_137 rfl dX11_tell_147 (lt7 hs) (kk7 hs) (rr7_6 hs) ?_
      refine J.iload_n dX11_tell_150 rfl rfl ?_
      obtain ⟨hb16, hW⟩ := hW
      refine J.iald (x := I 13 x1.toNatClampNeg) dX11_tell_151 (lt13 hs) (kk13 hs) hb16 rfl ?_
      exact J.reti dX11_tell_152 rfl rfl hW
    by_cases hk31 : x2 = 9
    · have hW := hW.2.2.2.2.2.2.2.2.2.1 hk31
      refine J.tableIn (off := 133) 153 dX11_tell_20 (by rw [hk31] <;> decide) (by rw [hk31] <;> decide) (by rw [hk31] <;> rfl) (by decide) ?_
      refine J.aload_n dX11_tell_153 rfl rfl ?_
      refine J.iload_n dX11_tell_154 rfl rfl ?_
      obtain ⟨hb17, hW⟩ := hW
      refine J.callV (M' := mX7_isFree) (index := 187) (bc := 0) (bs := 0) (bc' := 0) (bs' := 0) (st := []) [.int x1] ml_X11_187 cv_X7_isFree dX11_tell_155 (lt7 hs) (kk7 hs) (by decide) rfl rfl rfl rfl (Nat.le_of_ble_eq_true rfl) (kqi (w_X7_isFree (d := d) (Q := qi h L (fun v I' => I' = I ∧ v = bI (¬ ((I 14 x1.toNatClampNeg) = 0) ∧ (((I 12 x1.toNatClampNeg) = (-1)) ∧ ((I 13 x1.toNatClampNeg) = (-1)))))) hs x1 ⟨hb17, rfl, rfl, _, rfl, rfl, rfl⟩) (fun v18 I19 hv => ?_))
      rw [hv.1, hv.2]
      refine J.callS (M' := mX11_bit) (index := 177) (bc := 0) (bs := 0) (bc' := 0) (bs' := 0) (st := []) [.int (bI (¬ ((I 14 x1.toNatClampNeg) = 0) ∧ (((I 12 x1.toNatClampNeg) = (-1)) ∧ ((I 13 x1.toNatClampNeg) = (-1)))))] ml_X11_177 cv_X11_bit dX11_tell_158 rfl rfl (Nat.le_of_ble_eq_true rfl) (kqi (w_X11_bit (d := d) (Q := qi h L (fun v I' => I' = I ∧ v = bI (¬ ((bI (¬ ((I 14 x1.toNatClampNeg) = 0) ∧ (((I 12 x1.toNatClampNeg) = (-1)) ∧ ((I 13 x1.toNatClampNeg) = (-1))))) = 0)))) hs (bI (¬ ((I 14 x1.toNatClampNeg) = 0) ∧ (((I 12 x1.toNatClampNeg) = (-1)) ∧ ((I 13 x1.toNatClampNeg) = (-1))))) ⟨rfl, rfl, _, rfl, rfl, rfl⟩) (fun v20 I21 hv => ?_))
      rw [hv.1, hv.2]
      exact J.reti dX11_tell_161 rfl rfl hW
    have hW := hW.2.2.2.2.2.2.2.2.2.2 hk22 hk23 hk24 hk25 hk26 hk27 hk28 hk29 hk30 hk31
    refine J.tableOut 162 dX11_tell_20 (by have := toInt_ne (k := 0) (by decide) hk22; have := toInt_ne (k := 1) (by decide) hk23; have := toInt_ne (k := 2) (by decide) hk24; have := toInt_ne (k := 3) (by decide) hk25; have := toInt_ne (k := 4) (by decide) hk26; have := toInt_ne (k := 5) (by decide) hk27; have := toInt_ne (k := 6) (by decide) hk28; have := toInt_ne (k := 7) (by decide) hk29; have := toInt_ne (k := 8) (by decide) hk30; have := toInt_ne (k := 9) (by decide) hk31; omega) (by decide) ?_
    refine J.bipush (v := (-100)) dX11_tell_162 (by decide) ?_
    exact J.reti dX11_tell_164 rfl rfl hW
  · have hc3 := bI_0.mp hc3
    have hW := hW.2 hc3
    refine J.bipush (v := (-100)) dX11_tell_16 (by decide) ?_
    exact J.reti dX11_tell_18 rfl rfl hW
set_option maxRecDepth 100000 in
set_option maxHeartbeats 4000000 in
theorem w_X11_about {E : Envt} {d : Nat} {Q : Pst} {h : mS} {I : mI} {L : mL} (hs : SL h) (x1 : Int32) (x2 : Int32) 
    (hW : (((¬ (x1 < 0) ∧ (¬ ((I 2 0) ≤ x1))) → ((x2 = 0 → (vp_in x1 8 ∧ Q (some (.int (I 3 x1.toNatClampNeg))) h I L)) ∧ (x2 = 1 → (vp_in x1 8 ∧ Q (some (.int (I 4 x1.toNatClampNeg))) h I L)) ∧ (x2 = 2 → (vp_in x1 8 ∧ Q (some (.int (I 5 x1.toNatClampNeg))) h I L)) ∧ (x2 = 3 → (vp_in x1 8 ∧ Q (some (.int (I 6 x1.toNatClampNeg))) h I L)) ∧ (x2 = 4 → (CT E mX7_livingIn d 0 0 [.ref (eB E + 7), .int x1] h I L (qi h L fun r9 I8 => Q (some (.int r9)) h I8 L))) ∧ (¬ x2 = 0 → ¬ x2 = 1 → ¬ x2 = 2 → ¬ x2 = 3 → ¬ x2 = 4 → Q (some (.int (-1))) h I L))) ∧ (¬ (¬ (x1 < 0) ∧ (¬ ((I 2 0) ≤ x1))) → Q (some (.int (-1))) h I L))) :
    CT E mX11_about (d + 1) 0 0 [.ref (eB E + 0), .int x1, .int x2] h I L Q := by
  refine CT.of (by decide) [some (.ref (eB E + 0)), some (.int x1), some (.int x2), none] rfl (Nat.le_of_ble_eq_true rfl) ?_
  refine J.aload_n dX11_about_0 rfl rfl ?_
  refine J.getR (r := 1) fl_X11_12 rfl dX11_about_1 (lt0 hs) (kk0 hs) (rr0_0 hs) ?_
  refine J.getR (r := 2) fl_X11_72 rfl dX11_about_4 (lt1 hs) (kk1 hs) (rr1_1 hs) ?_
  refine J.astore_n (vs' := [some (.ref (eB E + 0)), some (.int x1), some (.int x2), some (.ref (eB E + 2))]) dX11_about_7 rfl (by decide) rfl ?_
  refine J.aload_n dX11_about_8 rfl rfl ?_
  refine J.iload_n dX11_about_9 rfl rfl ?_
  refine J.callV (M' := mX1_has) (index := 82) (bc := 0) (bs := 0) (bc' := 0) (bs' := 0) (st := []) [.int x1] ml_X11_82 cv_X1_has dX11_about_10 (lt2 hs) (kk2 hs) (by decide) rfl rfl rfl rfl (Nat.le_of_ble_eq_true rfl) (kqi (w_X1_has (d := d) (Q := qi h L (fun v I' => I' = I ∧ v = bI (¬ (x1 < 0) ∧ (¬ ((I 2 0) ≤ x1))))) hs x1 ⟨rfl, rfl, _, rfl, rfl, rfl⟩) (fun v1 I2 hv => ?_))
  rw [hv.1, hv.2]
  refine J.if_ne 18 dX11_about_13 (by decide) (fun hc3 => ?_) (fun hc3 => ?_)
  · have hc3 := bI_n0.mp hc3
    have hW := hW.1 hc3
    refine J.iload_n dX11_about_18 rfl rfl ?_
    by_cases hk10 : x2 = 0
    · have hW := hW.1 hk10
      refine J.tableIn (off := 33) 52 dX11_about_19 (by rw [hk10] <;> decide) (by rw [hk10] <;> decide) (by rw [hk10] <;> rfl) (by decide) ?_
      refine J.aload_n dX11_about_52 rfl rfl ?_
      refine J.getR (r := 3) fl_X11_190 rfl dX11_about_53 (lt2 hs) (kk2 hs) (rr2_1 hs) ?_
      refine J.iload_n dX11_about_56 rfl rfl ?_
      obtain ⟨hb4, hW⟩ := hW
      refine J.iald (x := I 3 x1.toNatClampNeg) dX11_about_57 (lt3 hs) (kk3 hs) hb4 rfl ?_
      exact J.reti dX11_about_58 rfl rfl hW
    by_cases hk11 : x2 = 1
    · have hW := hW.2.1 hk11
      refine J.tableIn (off := 40) 59 dX11_about_19 (by rw [hk11] <;> decide) (by rw [hk11] <;> decide) (by rw [hk11] <;> rfl) (by decide) ?_
      refine J.aload_n dX11_about_59 rfl rfl ?_
      refine J.getR (r := 4) fl_X11_193 rfl dX11_about_60 (lt2 hs) (kk2 hs) (rr2_2 hs) ?_
      refine J.iload_n dX11_about_63 rfl rfl ?_
      obtain ⟨hb5, hW⟩ := hW
      refine J.iald (x := I 4 x1.toNatClampNeg) dX11_about_64 (lt4 hs) (kk4 hs) hb5 rfl ?_
      exact J.reti dX11_about_65 rfl rfl hW
    by_cases hk12 : x2 = 2
    · have hW := hW.2.2.1 hk12
      refine J.tableIn (off := 47) 66 dX11_about_19 (by rw [hk12] <;> decide) (by rw [hk12] <;> decide) (by rw [hk12] <;> rfl) (by decide) ?_
      refine J.aload_n dX11_about_66 rfl rfl ?_
      refine J.getR (r := 5) fl_X11_119 rfl dX11_about_67 (lt2 hs) (kk2 hs) (rr2_3 hs) ?_
      refine J.iload_n dX11_about_70 rfl rfl ?_
      obtain ⟨hb6, hW⟩ := hW
      refine J.iald (x := I 5 x1.toNatClampNeg) dX11_about_71 (lt5 hs) (kk5 hs) hb6 rfl ?_
      exact J.reti dX11_about_72 rfl rfl hW
    by_cases hk13 : x2 = 3
    · have hW := hW.2.2.2.1 hk13
      refine J.tableIn (off := 54) 73 dX11_about_19 (by rw [hk13] <;> decide) (by rw [hk13] <;> decide) (by rw [hk13] <;> rfl) (by decide) ?_
      refine J.aload_n dX11_about_73 rfl rfl ?_
      refine J.getR (r := 6) fl_X11_196 rfl dX11_about_74 (lt2 hs) (kk2 hs) (rr2_4 hs) ?_
      refine J.iload_n dX11_about_77 rfl rfl ?_
      obtain ⟨hb7, hW⟩ := hW
      refine J.iald (x := I 6 x1.toNatClampNeg) dX11_about_78 (lt6 hs) (kk6 hs) hb7 rfl ?_
      exact J.reti dX11_about_79 rfl rfl hW
    by_cases hk14 : x2 = 4
    · have hW := hW.2.2.2.2.1 hk14
      refine J.tableIn (off := 61) 80 dX11_about_19 (by rw [hk14] <;> decide) (by rw [hk14] <;> decide) (by rw [hk14] <;> rfl) (by decide) ?_
      refine J.aload_n dX11_about_80 rfl rfl ?_
      refine J.getR (r := 1) fl_X11_12 rfl dX11_about_81 (lt0 hs) (kk0 hs) (rr0_0 hs) ?_
      refine J.getR (r := 7) fl_X11_89 rfl dX11_about_84 (lt1 hs) (kk1 hs) (rr1_2 hs) ?_
      refine J.iload_n dX11_about_87 rfl rfl ?_
      refine J.callV (M' := mX7_livingIn) (index := 199) (bc := 0) (bs := 0) (bc' := 0) (bs' := 0) (st := []) [.int x1] ml_X11_199 cv_X7_livingIn dX11_about_88 (lt7 hs) (kk7 hs) (by decide) rfl rfl rfl rfl (Nat.le_of_ble_eq_true rfl) (kqi hW (fun r9 I8 hW => ?_))
      exact J.reti dX11_about_91 rfl rfl hW
    have hW := hW.2.2.2.2.2 hk10 hk11 hk12 hk13 hk14
    refine J.tableOut 92 dX11_about_19 (by have := toInt_ne (k := 0) (by decide) hk10; have := toInt_ne (k := 1) (by decide) hk11; have := toInt_ne (k := 2) (by decide) hk12; have := toInt_ne (k := 3) (by decide) hk13; have := toInt_ne (k := 4) (by decide) hk14; omega) (by decide) ?_
    refine J.iconst (v := (-1)) dX11_about_92 (by decide) ?_
    exact J.reti dX11_about_93 rfl rfl hW
  · have hc3 := bI_0.mp hc3
    have hW := hW.2 hc3
    refine J.iconst (v := (-1)) dX11_about_16 (by decide) ?_
    exact J.reti dX11_about_17 rfl rfl hW
set_option maxRecDepth 100000 in
set_option maxHeartbeats 4000000 in
theorem w_X11_feed {E : Envt} {d : Nat} {Q : Pst} {h : mS} {I : mI} {L : mL} (hs : SL h) (x1 : Int32) (x2 : Int32) (x3 : Int32) (x4 : Int32) (x5 : Int32) 
    (hW : ((((I 1 7) ≤ 480) → (CT E mX0_write d 0 0 [.ref (eB E + 1), .int x1] h I L (qv h L fun I2 => (CT E mX0_write d 0 0 [.ref (eB E + 1), .int x2] h I2 L (qv h L fun I3 => (CT E mX0_write d 0 0 [.ref (eB E + 1), .int x3] h I3 L (qv h L fun I4 => (CT E mX0_write d 0 0 [.ref (eB E + 1), .int x4] h I4 L (qv h L fun I5 => (CT E mX0_write d 0 0 [.ref (eB E + 1), .int x5] h I5 L (qv h L fun I6 => Q (some (.int (I6 1 7))) h I6 L))))))))))) ∧ (¬ ((I 1 7) ≤ 480) → Q (some (.int (-1))) h I L))) :
    CT E mX11_feed (d + 1) 0 0 [.ref (eB E + 0), .int x1, .int x2, .int x3, .int x4, .int x5] h I L Q := by
  refine CT.of (by decide) [some (.ref (eB E + 0)), some (.int x1), some (.int x2), some (.int x3), some (.int x4), some (.int x5)] rfl (Nat.le_of_ble_eq_true rfl) ?_
  refine J.aload_n dX11_feed_0 rfl rfl ?_
  refine J.getR (r := 1) fl_X11_12 rfl dX11_feed_1 (lt0 hs) (kk0 hs) (rr0_0 hs) ?_
  refine J.getI (x := I 1 7) fl_X11_203 rfl dX11_feed_4 (lt1 hs) (kk1 hs) rfl ?_
  refine J.sipush (v := 480) dX11_feed_7 (by decide) ?_
  refine J.ic_le 15 dX11_feed_10 (by decide) (fun hc1 => ?_) (fun hc1 => ?_)
  · have hW := hW.1 hc1
    refine J.aload_n dX11_feed_15 rfl rfl ?_
    refine J.getR (r := 1) fl_X11_12 rfl dX11_feed_16 (lt0 hs) (kk0 hs) (rr0_0 hs) ?_
    refine J.iload_n dX11_feed_19 rfl rfl ?_
    refine J.callV (M' := mX0_write) (index := 206) (bc := 0) (bs := 0) (bc' := 0) (bs' := 0) (st := []) [.int x1] ml_X11_206 cv_X0_write dX11_feed_20 (lt1 hs) (kk1 hs) (by decide) rfl rfl rfl rfl (Nat.le_of_ble_eq_true rfl) (kqv hW (fun I2 hW => ?_))
    refine J.aload_n dX11_feed_23 rfl rfl ?_
    refine J.getR (r := 1) fl_X11_12 rfl dX11_feed_24 (lt0 hs) (kk0 hs) (rr0_0 hs) ?_
    refine J.iload_n dX11_feed_27 rfl rfl ?_
    refine J.callV (M' := mX0_write) (index := 206) (bc := 0) (bs := 0) (bc' := 0) (bs' := 0) (st := []) [.int x2] ml_X11_206 cv_X0_write dX11_feed_28 (lt1 hs) (kk1 hs) (by decide) rfl rfl rfl rfl (Nat.le_of_ble_eq_true rfl) (kqv hW (fun I3 hW => ?_))
    refine J.aload_n dX11_feed_31 rfl rfl ?_
    refine J.getR (r := 1) fl_X11_12 rfl dX11_feed_32 (lt0 hs) (kk0 hs) (rr0_0 hs) ?_
    refine J.iload_n dX11_feed_35 rfl rfl ?_
    refine J.callV (M' := mX0_write) (index := 206) (bc := 0) (bs := 0) (bc' := 0) (bs' := 0) (st := []) [.int x3] ml_X11_206 cv_X0_write dX11_feed_36 (lt1 hs) (kk1 hs) (by decide) rfl rfl rfl rfl (Nat.le_of_ble_eq_true rfl) (kqv hW (fun I4 hW => ?_))
    refine J.aload_n dX11_feed_39 rfl rfl ?_
    refine J.getR (r := 1) fl_X11_12 rfl dX11_feed_40 (lt0 hs) (kk0 hs) (rr0_0 hs) ?_
    refine J.iload dX11_feed_43 rfl ?_
    refine J.callV (M' := mX0_write) (index := 206) (bc := 0) (bs := 0) (bc' := 0) (bs' := 0) (st := []) [.int x4] ml_X11_206 cv_X0_write dX11_feed_45 (lt1 hs) (kk1 hs) (by decide) rfl rfl rfl rfl (Nat.le_of_ble_eq_true rfl) (kqv hW (fun I5 hW => ?_))
    refine J.aload_n dX11_feed_48 rfl rfl ?_
    refine J.getR (r := 1) fl_X11_12 rfl dX11_feed_49 (lt0 hs) (kk0 hs) (rr0_0 hs) ?_
    refine J.iload dX11_feed_52 rfl ?_
    refine J.callV (M' := mX0_write) (index := 206) (bc := 0) (bs := 0) (bc' := 0) (bs' := 0) (st := []) [.int x5] ml_X11_206 cv_X0_write dX11_feed_54 (lt1 hs) (kk1 hs) (by decide) rfl rfl rfl rfl (Nat.le_of_ble_eq_true rfl) (kqv hW (fun I6 hW => ?_))
    refine J.aload_n dX11_feed_57 rfl rfl ?_
    refine J.getR (r := 1) fl_X11_12 rfl dX11_feed_58 (lt0 hs) (kk0 hs) (rr0_0 hs) ?_
    refine J.getI (x := I6 1 7) fl_X11_203 rfl dX11_feed_61 (lt1 hs) (kk1 hs) rfl ?_
    exact J.reti dX11_feed_64 rfl rfl hW
  · have hW := hW.2 hc1
    refine J.iconst (v := (-1)) dX11_feed_13 (by decide) ?_
    exact J.reti dX11_feed_14 rfl rfl hW
set_option maxRecDepth 100000 in
set_option maxHeartbeats 4000000 in
theorem w_X11_end {E : Envt} {d : Nat} {Q : Pst} {h : mS} {I : mI} {L : mL} (hs : SL h) (x1 : Int32) 
    (hW : (((¬ (x1 < 0) ∧ (¬ ((I 1 7) < x1))) → Q (some (.int x1)) h (uI I 1 7 x1) L) ∧ (¬ (¬ (x1 < 0) ∧ (¬ ((I 1 7) < x1))) → Q (some (.int (-1))) h I L))) :
    CT E mX11_end (d + 1) 0 0 [.ref (eB E + 0), .int x1] h I L Q := by
  refine CT.of (by decide) [some (.ref (eB E + 0)), some (.int x1)] rfl (Nat.le_of_ble_eq_true rfl) ?_
  refine J.iload_n dX11_end_0 rfl rfl ?_
  refine J.iconst (v := 0) dX11_end_1 (by decide) ?_
  refine J.aload_n dX11_end_2 rfl rfl ?_
  refine J.getR (r := 1) fl_X11_12 rfl dX11_end_3 (lt0 hs) (kk0 hs) (rr0_0 hs) ?_
  refine J.getI (x := I 1 7) fl_X11_203 rfl dX11_end_6 (lt1 hs) (kk1 hs) rfl ?_
  refine J.callS (M' := mX11_within) (index := 63) (bc := 0) (bs := 0) (bc' := 0) (bs' := 0) (st := []) [.int x1, .int 0, .int (I 1 7)] ml_X11_63 cv_X11_within dX11_end_9 rfl rfl (Nat.le_of_ble_eq_true rfl) (kqi (w_X11_within (d := d) (Q := qi h L (fun v I' => I' = I ∧ v = bI (¬ (x1 < 0) ∧ (¬ ((I 1 7) < x1))))) hs x1 0 (I 1 7) ⟨rfl, rfl, _, rfl, rfl, rfl⟩) (fun v1 I2 hv => ?_))
  rw [hv.1, hv.2]
  refine J.if_ne 17 dX11_end_12 (by decide) (fun hc3 => ?_) (fun hc3 => ?_)
  · have hc3 := bI_n0.mp hc3
    have hW := hW.1 hc3
    refine J.aload_n dX11_end_17 rfl rfl ?_
    refine J.getR (r := 1) fl_X11_12 rfl dX11_end_18 (lt0 hs) (kk0 hs) (rr0_0 hs) ?_
    refine J.iload_n dX11_end_21 rfl rfl ?_
    refine J.putI fw_X11_203 rfl dX11_end_22 (lt1 hs) (kk1 hs) ?_
    refine J.iload_n dX11_end_25 rfl rfl ?_
    exact J.reti dX11_end_26 rfl rfl hW
  · have hc3 := bI_0.mp hc3
    have hW := hW.2 hc3
    refine J.iconst (v := (-1)) dX11_end_15 (by decide) ?_
    exact J.reti dX11_end_16 rfl rfl hW
set_option maxRecDepth 100000 in
set_option maxHeartbeats 4000000 in
theorem w_X11_text {E : Envt} {d : Nat} {Q : Pst} {h : mS} {I : mI} {L : mL} (hs : SL h) (x1 : Int32) 
    (hW : (((¬ (x1 < 0) ∧ (¬ (6 < x1))) → (CT E mX8_take (d + 9) 0 0 [.ref (eB E + 47), .int (bI (¬ (x1 < 5)))] h I L (go E fun o9 h5 I6 L7 => SL h5 ∧ ((o9 = none → Q (some (.int (-1))) h5 (uI (uI (uI I6 1 7 0) 1 8 (I6 47 9)) 1 9 (I6 47 10)) L7) ∧ (∀ t11 : Nat, o9 = some t11 → (vp_in x1 7 ∧ (∃ nl14 nt15 : Nat, LT h5 t11 nl14 nt15 ∧ Q (some (.int ((uI (uI (uI I6 1 7 0) 1 8 (I6 47 9)) 1 9 (I6 47 10)) t11 0))) (uRh h5 36 x1.toNatClampNeg (some t11)) (uI (uI (uI I6 1 7 0) 1 8 (I6 47 9)) 1 9 (I6 47 10)) L7))))))) ∧ (¬ (¬ (x1 < 0) ∧ (¬ (6 < x1))) → Q (some (.int (-2))) h (uI (uI (uI I 1 7 0) 1 8 0) 1 9 (-1)) L))) :
    CT E mX11_text (d + 10) 0 0 [.ref (eB E + 0), .int x1] h I L Q := by
  refine CT.of (by decide) [some (.ref (eB E + 0)), some (.int x1), none] rfl (Nat.le_of_ble_eq_true rfl) ?_
  refine J.iload_n dX11_text_0 rfl rfl ?_
  refine J.iconst (v := 0) dX11_text_1 (by decide) ?_
  refine J.bipush (v := 6) dX11_text_2 (by decide) ?_
  refine J.callS (M' := mX11_within) (index := 63) (bc := 0) (bs := 0) (bc' := 0) (bs' := 0) (st := []) [.int x1, .int 0, .int 6] ml_X11_63 cv_X11_within dX11_text_4 rfl rfl (Nat.le_of_ble_eq_true rfl) (kqi (w_X11_within (d := d + 9) (Q := qi h L (fun v I' => I' = I ∧ v = bI (¬ (x1 < 0) ∧ (¬ (6 < x1))))) hs x1 0 6 ⟨rfl, rfl, _, rfl, rfl, rfl⟩) (fun v1 I2 hv => ?_))
  rw [hv.1, hv.2]
  refine J.if_ne 37 dX11_text_7 (by decide) (fun hc3 => ?_) (fun hc3 => ?_)
  · have hc3 := bI_n0.mp hc3
    have hW := hW.1 hc3
    refine J.aload_n dX11_text_37 rfl rfl ?_
    refine J.getR (r := 47) fl_X11_25 rfl dX11_text_38 (lt0 hs) (kk0 hs) (rr0_2 hs) ?_
    refine J.iload_n dX11_text_41 rfl rfl ?_
    refine J.iconst (v := 5) dX11_text_42 (by decide) ?_
    have hj : J E mX11_text (d + 10) Q 0 0 51 [some (.ref (eB E + 0)), some (.int x1), none] [.int (bI (¬ (x1 < 5))), .ref (eB E + 47)] h I L := by
      refine J.callV (M' := mX8_take) (index := 215) (bc := 0) (bs := 0) (bc' := 0) (bs' := 0) (st := []) [.int (bI (¬ (x1 < 5)))] ml_X11_215 cv_X8_take dX11_text_51 (lt47 hs) (kk47 hs) (by decide) rfl rfl rfl rfl (Nat.le_of_ble_eq_true rfl) (kgo hW (fun o9 h5 I6 L7 hW => ?_))
      obtain ⟨hs8, hW⟩ := hW
      rcases ho10 : o9 with _ | t11
      · have hW := hW.1 ho10
        rw [rlf_none]
        refine J.astore_nN (vs' := [some (.ref (eB E + 0)), some (.int x1), some (.null)]) dX11_text_54 rfl (by decide) rfl ?_
        refine J.aload_n dX11_text_55 rfl rfl ?_
        refine J.getR (r := 1) fl_X11_12 rfl dX11_text_56 (lt0 hs8) (kk0 hs8) (rr0_0 hs8) ?_
        refine J.iconst (v := 0) dX11_text_59 (by decide) ?_
        refine J.putI fw_X11_203 rfl dX11_text_60 (lt1 hs8) (kk1 hs8) ?_
        refine J.aload_n dX11_text_63 rfl rfl ?_
        refine J.getR (r := 1) fl_X11_12 rfl dX11_text_64 (lt0 hs8) (kk0 hs8) (rr0_0 hs8) ?_
        refine J.aload_n dX11_text_67 rfl rfl ?_
        refine J.getR (r := 47) fl_X11_25 rfl dX11_text_68 (lt0 hs8) (kk0 hs8) (rr0_2 hs8) ?_
        refine J.getI (x := I6 47 9) fl_X11_219 rfl dX11_text_71 (lt47 hs8) (kk47 hs8) rfl ?_
        refine J.putI fw_X11_209 rfl dX11_text_74 (lt1 hs8) (kk1 hs8) ?_
        refine J.aload_n dX11_text_77 rfl rfl ?_
        refine J.getR (r := 1) fl_X11_12 rfl dX11_text_78 (lt0 hs8) (kk0 hs8) (rr0_0 hs8) ?_
        refine J.aload_n dX11_text_81 rfl rfl ?_
        refine J.getR (r := 47) fl_X11_25 rfl dX11_text_82 (lt0 hs8) (kk0 hs8) (rr0_2 hs8) ?_
        refine J.getI (x := I6 47 10) fl_X11_220 rfl dX11_text_85 (lt47 hs8) (kk47 hs8) rfl ?_
        refine J.putI fw_X11_212 rfl dX11_text_88 (lt1 hs8) (kk1 hs8) ?_
        refine J.aload_nN dX11_text_91 rfl rfl ?_
        refine J.ifnonnullN dX11_text_92 ?_
        refine J.iconst (v := (-1)) dX11_text_95 (by decide) ?_
        exact J.reti dX11_text_96 rfl rfl hW
      · have hW := hW.2 t11 ho10
        rw [rlf_some]
        refine J.astore_n (vs' := [some (.ref (eB E + 0)), some (.int x1), some (.ref (eB E + t11))]) dX11_text_54 rfl (by decide) rfl ?_
        refine J.aload_n dX11_text_55 rfl rfl ?_
        refine J.getR (r := 1) fl_X11_12 rfl dX11_text_56 (lt0 hs8) (kk0 hs8) (rr0_0 hs8) ?_
        refine J.iconst (v := 0) dX11_text_59 (by decide) ?_
        refine J.putI fw_X11_203 rfl dX11_text_60 (lt1 hs8) (kk1 hs8) ?_
        refine J.aload_n dX11_text_63 rfl rfl ?_
        refine J.getR (r := 1) fl_X11_12 rfl dX11_text_64 (lt0 hs8) (kk0 hs8) (rr0_0 hs8) ?_
        refine J.aload_n dX11_text_67 rfl rfl ?_
        refine J.getR (r := 47) fl_X11_25 rfl dX11_text_68 (lt0 hs8) (kk0 hs8) (rr0_2 hs8) ?_
        refine J.getI (x := I6 47 9) fl_X11_219 rfl dX11_text_71 (lt47 hs8) (kk47 hs8) rfl ?_
        refine J.putI fw_X11_209 rfl dX11_text_74 (lt1 hs8) (kk1 hs8) ?_
        refine J.aload_n dX11_text_77 rfl rfl ?_
        refine J.getR (r := 1) fl_X11_12 rfl dX11_text_78 (lt0 hs8) (kk0 hs8) (rr0_0 hs8) ?_
        refine J.aload_n dX11_text_81 rfl rfl ?_
        refine J.getR (r := 47) fl_X11_25 rfl dX11_text_82 (lt0 hs8) (kk0 hs8) (rr0_2 hs8) ?_
        refine J.getI (x := I6 47 10) fl_X11_220 rfl dX11_text_85 (lt47 hs8) (kk47 hs8) rfl ?_
        refine J.putI fw_X11_212 rfl dX11_text_88 (lt1 hs8) (kk1 hs8) ?_
        refine J.aload_n dX11_text_91 rfl rfl ?_
        refine J.ifnonnull 97 dX11_text_92 (by decide) ?_
        refine J.aload_n dX11_text_97 rfl rfl ?_
        refine J.getR (r := 1) fl_X11_12 rfl dX11_text_98 (lt0 hs8) (kk0 hs8) (rr0_0 hs8) ?_
        refine J.getR (r := 36) fl_X11_221 rfl dX11_text_101 (lt1 hs8) (kk1 hs8) (rr1_5 hs8) ?_
        refine J.iload_n dX11_text_104 rfl rfl ?_
        refine J.aload_n dX11_text_105 rfl rfl ?_
        obtain ⟨hb12, hW⟩ := hW
        obtain ⟨nl14, nt15, ht13, hW⟩ := hW
        refine J.aastT dX11_text_106 (lt36 hs8) (kk36 hs8) hb12 ht13.l0 ht13.k0 ?_
        have hs16 : SL (uRh h5 36 x1.toNatClampNeg (some t11)) := SL_uR hs8 (by decide)
        have ht17 := LT_uR (a := 36) (i := x1.toNatClampNeg) (r := (some t11)) ht13 (LT_ne ht13 (kk36 hs8))
        refine J.aload_n dX11_text_107 rfl rfl ?_
        refine J.getI (x := (uI (uI (uI I6 1 7 0) 1 8 (I6 47 9)) 1 9 (I6 47 10)) t11 0) fl_X11_225 rfl dX11_text_108 ht17.l0 ht17.k0 rfl ?_
        exact J.reti dX11_text_111 rfl rfl hW
    refine J.ic_lt 50 dX11_text_43 (by decide) (fun hc4 => ?_) (fun hc4 => ?_)
    · refine J.iconst (v := 0) dX11_text_50 (by decide) ?_
      rw [show bI (¬ (x1 < 5)) = 0 from bI_f (by simp only [eq_true hc4, and_true, true_and, and_false, false_and, or_true, true_or, or_false, false_or, not_true_eq_false, not_false_eq_true])] at hj
      exact hj
    · refine J.iconst (v := 1) dX11_text_46 (by decide) ?_
      refine J.goto 51 dX11_text_47 (by decide) ?_
      rw [show bI (¬ (x1 < 5)) = 1 from bI_t (by simp only [eq_false hc4, and_true, true_and, and_false, false_and, or_true, true_or, or_false, false_or, not_true_eq_false, not_false_eq_true])] at hj
      exact hj
  · have hc3 := bI_0.mp hc3
    have hW := hW.2 hc3
    refine J.aload_n dX11_text_10 rfl rfl ?_
    refine J.getR (r := 1) fl_X11_12 rfl dX11_text_11 (lt0 hs) (kk0 hs) (rr0_0 hs) ?_
    refine J.iconst (v := 0) dX11_text_14 (by decide) ?_
    refine J.putI fw_X11_203 rfl dX11_text_15 (lt1 hs) (kk1 hs) ?_
    refine J.aload_n dX11_text_18 rfl rfl ?_
    refine J.getR (r := 1) fl_X11_12 rfl dX11_text_19 (lt0 hs) (kk0 hs) (rr0_0 hs) ?_
    refine J.iconst (v := 0) dX11_text_22 (by decide) ?_
    refine J.putI fw_X11_209 rfl dX11_text_23 (lt1 hs) (kk1 hs) ?_
    refine J.aload_n dX11_text_26 rfl rfl ?_
    refine J.getR (r := 1) fl_X11_12 rfl dX11_text_27 (lt0 hs) (kk0 hs) (rr0_0 hs) ?_
    refine J.iconst (v := (-1)) dX11_text_30 (by decide) ?_
    refine J.putI fw_X11_212 rfl dX11_text_31 (lt1 hs) (kk1 hs) ?_
    refine J.bipush (v := (-2)) dX11_text_34 (by decide) ?_
    exact J.reti dX11_text_36 rfl rfl hW
set_option maxRecDepth 100000 in
set_option maxHeartbeats 4000000 in
theorem w_X11_fault {E : Envt} {d : Nat} {Q : Pst} {h : mS} {I : mI} {L : mL} (hs : SL h) (x1 : Int32) 
    (hW : ((x1 = 0 → Q (some (.int (I 1 8))) h I L) ∧ (x1 = 1 → Q (some (.int (I 1 9))) h I L) ∧ (¬ x1 = 0 → ¬ x1 = 1 → Q (some (.int (-1))) h I L))) :
    CT E mX11_fault d 0 0 [.ref (eB E + 0), .int x1] h I L Q := by
  refine CT.of (by decide) [some (.ref (eB E + 0)), some (.int x1)] rfl (Nat.le_of_ble_eq_true rfl) ?_
  refine J.iload_n dX11_fault_0 rfl rfl ?_
  by_cases hk1 : x1 = 0
  · have hW := hW.1 hk1
    refine J.lookup (off := 27) 28 dX11_fault_1 (by decide) (by rw [hk1] <;> rfl) (by decide) ?_
    refine J.aload_n dX11_fault_28 rfl rfl ?_
    refine J.getR (r := 1) fl_X11_12 rfl dX11_fault_29 (lt0 hs) (kk0 hs) (rr0_0 hs) ?_
    refine J.getI (x := I 1 8) fl_X11_209 rfl dX11_fault_32 (lt1 hs) (kk1 hs) rfl ?_
    exact J.reti dX11_fault_35 rfl rfl hW
  by_cases hk2 : x1 = 1
  · have hW := hW.2.1 hk2
    refine J.lookup (off := 35) 36 dX11_fault_1 (by decide) (by rw [hk2] <;> rfl) (by decide) ?_
    refine J.aload_n dX11_fault_36 rfl rfl ?_
    refine J.getR (r := 1) fl_X11_12 rfl dX11_fault_37 (lt0 hs) (kk0 hs) (rr0_0 hs) ?_
    refine J.getI (x := I 1 9) fl_X11_212 rfl dX11_fault_40 (lt1 hs) (kk1 hs) rfl ?_
    exact J.reti dX11_fault_43 rfl rfl hW
  have hW := hW.2.2 hk1 hk2
  refine J.lookup (off := 43) 44 dX11_fault_1 (by decide) (by simp [Op.lookupswitch.offset, (toInt_ne (k := 0) (by decide) hk1).symm, (toInt_ne (k := 1) (by decide) hk2).symm]) (by decide) ?_
  refine J.iconst (v := (-1)) dX11_fault_44 (by decide) ?_
  exact J.reti dX11_fault_45 rfl rfl hW
set_option maxRecDepth 100000 in
set_option maxHeartbeats 4000000 in
theorem w_X11_isCouple {E : Envt} {d : Nat} {Q : Pst} {h : mS} {I : mI} {L : mL} (hs : SL h) (x1 : Int32) (x2 : Int32) 
    (hW : (((¬ (x1 < 0) ∧ (¬ ((I 7 0) ≤ x1))) → vp_in x1 20) ∧ ((((¬ (x1 < 0) ∧ (¬ ((I 7 0) ≤ x1))) ∧ ((I 9 x1.toNatClampNeg) = 0)) → ((¬ (x2 < 0) ∧ (¬ ((I 7 0) ≤ x2))) → vp_in x2 20)) ∧ Q (some (.int (bI (((¬ (x1 < 0) ∧ (¬ ((I 7 0) ≤ x1))) ∧ ((I 9 x1.toNatClampNeg) = 0)) ∧ ((¬ (x2 < 0) ∧ (¬ ((I 7 0) ≤ x2))) ∧ ((I 9 x2.toNatClampNeg) = 1)))))) h I L))) :
    CT E mX11_isCouple (d + 2) 0 0 [.ref (eB E + 0), .int x1, .int x2] h I L Q := by
  refine CT.of (by decide) [some (.ref (eB E + 0)), some (.int x1), some (.int x2)] rfl (Nat.le_of_ble_eq_true rfl) ?_
  refine J.aload_n dX11_isCouple_0 rfl rfl ?_
  refine J.getR (r := 1) fl_X11_12 rfl dX11_isCouple_1 (lt0 hs) (kk0 hs) (rr0_0 hs) ?_
  refine J.getR (r := 7) fl_X11_89 rfl dX11_isCouple_4 (lt1 hs) (kk1 hs) (rr1_2 hs) ?_
  refine J.iload_n dX11_isCouple_7 rfl rfl ?_
  refine J.iconst (v := 0) dX11_isCouple_8 (by decide) ?_
  obtain ⟨hb1, hW⟩ := hW
  refine J.callV (M' := mX7_isOf) (index := 392) (bc := 0) (bs := 0) (bc' := 0) (bs' := 0) (st := []) [.int x1, .int 0] ml_X11_392 cv_X7_isOf dX11_isCouple_9 (lt7 hs) (kk7 hs) (by decide) rfl rfl rfl rfl (Nat.le_of_ble_eq_true rfl) (kqi (w_X7_isOf (d := d) (Q := qi h L (fun v I' => I' = I ∧ v = bI ((¬ (x1 < 0) ∧ (¬ ((I 7 0) ≤ x1))) ∧ ((I 9 x1.toNatClampNeg) = 0)))) hs x1 0 ⟨hb1, rfl, rfl, _, rfl, rfl, rfl⟩) (fun v2 I3 hv => ?_))
  rw [hv.1, hv.2]
  obtain ⟨hq8, hW⟩ := hW
  have hj : J E mX11_isCouple (d + 2) Q 0 0 35 [some (.ref (eB E + 0)), some (.int x1), some (.int x2)] [.int (bI (((¬ (x1 < 0) ∧ (¬ ((I 7 0) ≤ x1))) ∧ ((I 9 x1.toNatClampNeg) = 0)) ∧ ((¬ (x2 < 0) ∧ (¬ ((I 7 0) ≤ x2))) ∧ ((I 9 x2.toNatClampNeg) = 1))))] h I L := by
    exact J.reti dX11_isCouple_35 rfl (bz_nar (bI_bz _)) hW
  refine J.if_eq 34 dX11_isCouple_12 (by decide) (fun hc4 => ?_) (fun hc4 => ?_)
  · have hc4 := bI_0.mp hc4
    refine J.iconst (v := 0) dX11_isCouple_34 (by decide) ?_
    rw [show bI (((¬ (x1 < 0) ∧ (¬ ((I 7 0) ≤ x1))) ∧ ((I 9 x1.toNatClampNeg) = 0)) ∧ ((¬ (x2 < 0) ∧ (¬ ((I 7 0) ≤ x2))) ∧ ((I 9 x2.toNatClampNeg) = 1))) = 0 from bI_f (by simp only [eq_false hc4, and_true, true_and, and_false, false_and, or_true, true_or, or_false, false_or, not_true_eq_false, not_false_eq_true])] at hj
    exact hj
  · have hc4 := bI_n0.mp hc4
    refine J.aload_n dX11_isCouple_15 rfl rfl ?_
    refine J.getR (r := 1) fl_X11_12 rfl dX11_isCouple_16 (lt0 hs) (kk0 hs) (rr0_0 hs) ?_
    refine J.getR (r := 7) fl_X11_89 rfl dX11_isCouple_19 (lt1 hs) (kk1 hs) (rr1_2 hs) ?_
    refine J.iload_n dX11_isCouple_22 rfl rfl ?_
    refine J.iconst (v := 1) dX11_isCouple_23 (by decide) ?_
    have hb5 := hq8 hc4
    refine J.callV (M' := mX7_isOf) (index := 392) (bc := 0) (bs := 0) (bc' := 0) (bs' := 0) (st := []) [.int x2, .int 1] ml_X11_392 cv_X7_isOf dX11_isCouple_24 (lt7 hs) (kk7 hs) (by decide) rfl rfl rfl rfl (Nat.le_of_ble_eq_true rfl) (kqi (w_X7_isOf (d := d) (Q := qi h L (fun v I' => I' = I ∧ v = bI ((¬ (x2 < 0) ∧ (¬ ((I 7 0) ≤ x2))) ∧ ((I 9 x2.toNatClampNeg) = 1)))) hs x2 1 ⟨hb5, rfl, rfl, _, rfl, rfl, rfl⟩) (fun v6 I7 hv => ?_))
    rw [hv.1, hv.2]
    refine J.if_eq 34 dX11_isCouple_27 (by decide) (fun hc9 => ?_) (fun hc9 => ?_)
    · have hc9 := bI_0.mp hc9
      refine J.iconst (v := 0) dX11_isCouple_34 (by decide) ?_
      rw [show bI (((¬ (x1 < 0) ∧ (¬ ((I 7 0) ≤ x1))) ∧ ((I 9 x1.toNatClampNeg) = 0)) ∧ ((¬ (x2 < 0) ∧ (¬ ((I 7 0) ≤ x2))) ∧ ((I 9 x2.toNatClampNeg) = 1))) = 0 from bI_f (by simp only [eq_true hc4, eq_false hc9, and_true, true_and, and_false, false_and, or_true, true_or, or_false, false_or, not_true_eq_false, not_false_eq_true])] at hj
      exact hj
    · have hc9 := bI_n0.mp hc9
      refine J.iconst (v := 1) dX11_isCouple_30 (by decide) ?_
      refine J.goto 35 dX11_isCouple_31 (by decide) ?_
      rw [show bI (((¬ (x1 < 0) ∧ (¬ ((I 7 0) ≤ x1))) ∧ ((I 9 x1.toNatClampNeg) = 0)) ∧ ((¬ (x2 < 0) ∧ (¬ ((I 7 0) ≤ x2))) ∧ ((I 9 x2.toNatClampNeg) = 1))) = 1 from bI_t (by simp only [eq_true hc4, eq_true hc9, and_true, true_and, and_false, false_and, or_true, true_or, or_false, false_or, not_true_eq_false, not_false_eq_true])] at hj
      exact hj
set_option maxRecDepth 100000 in
set_option maxHeartbeats 4000000 in
theorem w_X11_read {E : Envt} {d : Nat} {Q : Pst} {h : mS} {I : mI} {L : mL} (hs : SL h) (x1 : Int32) (x2 : Int32) (x3 : Int32) (x4 : Int32) 
    (hW : (((¬ (x1 < 0) ∧ (¬ ((I 7 0) ≤ x1))) → vp_in x1 20) ∧ ((((¬ (x1 < 0) ∧ (¬ ((I 7 0) ≤ x1))) ∧ ((I 9 x1.toNatClampNeg) = 0)) → ((¬ (x2 < 0) ∧ (¬ ((I 7 0) ≤ x2))) → vp_in x2 20)) ∧ (((((¬ (x1 < 0) ∧ (¬ ((I 7 0) ≤ x1))) ∧ ((I 9 x1.toNatClampNeg) = 0)) ∧ ((¬ (x2 < 0) ∧ (¬ ((I 7 0) ≤ x2))) ∧ ((I 9 x2.toNatClampNeg) = 1))) → (((¬ (x3 < 0) ∧ (¬ (4 < x3))) → (((¬ (x4 < 0) ∧ (¬ (3 < x4))) → (CT E mX2_face (d + 4) 0 0 [.ref (eB E + 63), .int x1, .int x2] h I L (qv h L fun I12 => (vp_in x3 7 ∧ (∃ t14 : Nat, h.2.1 36 x3.toNatClampNeg = some t14 ∧ (CT E mX2_readBy (d + 4) 0 0 [.ref (eB E + 63), .ref (eB E + t14), .int x3] h I12 L (qv h L fun I15 => ((x4 = 0 → Q (some (.int (bI (¬ ((bI (¬ ((I15 63 5) = (-1)))) = 0))))) h I15 L) ∧ (x4 = 1 → Q (some (.int (I15 63 5))) h I15 L) ∧ (x4 = 2 → Q (some (.int (I15 63 6))) h I15 L) ∧ (¬ x4 = 0 → ¬ x4 = 1 → ¬ x4 = 2 → Q (some (.int (I15 63 7))) h I15 L))))))))) ∧ (¬ (¬ (x4 < 0) ∧ (¬ (3 < x4))) → Q (some (.int (-100))) h I L))) ∧ (¬ (¬ (x3 < 0) ∧ (¬ (4 < x3))) → Q (some (.int (-100))) h I L))) ∧ (¬ (((¬ (x1 < 0) ∧ (¬ ((I 7 0) ≤ x1))) ∧ ((I 9 x1.toNatClampNeg) = 0)) ∧ ((¬ (x2 < 0) ∧ (¬ ((I 7 0) ≤ x2))) ∧ ((I 9 x2.toNatClampNeg) = 1))) → Q (some (.int (-100))) h I L))))) :
    CT E mX11_read (d + 5) 0 0 [.ref (eB E + 0), .int x1, .int x2, .int x3, .int x4] h I L Q := by
  refine CT.of (by decide) [some (.ref (eB E + 0)), some (.int x1), some (.int x2), some (.int x3), some (.int x4)] rfl (Nat.le_of_ble_eq_true rfl) ?_
  refine J.aload_n dX11_read_0 rfl rfl ?_
  refine J.iload_n dX11_read_1 rfl rfl ?_
  refine J.iload_n dX11_read_2 rfl rfl ?_
  obtain ⟨hb1, hW⟩ := hW
  obtain ⟨hb2, hW⟩ := hW
  refine J.callV (M' := mX11_isCouple) (index := 230) (bc := 0) (bs := 0) (bc' := 0) (bs' := 0) (st := []) [.int x1, .int x2] ml_X11_230 cv_X11_isCouple dX11_read_3 (lt0 hs) (kk0 hs) (by decide) rfl rfl rfl rfl (Nat.le_of_ble_eq_true rfl) (kqi (w_X11_isCouple (d := d + 2) (Q := qi h L (fun v I' => I' = I ∧ v = bI (((¬ (x1 < 0) ∧ (¬ ((I 7 0) ≤ x1))) ∧ ((I 9 x1.toNatClampNeg) = 0)) ∧ ((¬ (x2 < 0) ∧ (¬ ((I 7 0) ≤ x2))) ∧ ((I 9 x2.toNatClampNeg) = 1))))) hs x1 x2 ⟨hb1, hb2, rfl, rfl, _, rfl, rfl, rfl⟩) (fun v3 I4 hv => ?_))
  rw [hv.1, hv.2]
  refine J.if_eq 26 dX11_read_6 (by decide) (fun hc5 => ?_) (fun hc5 => ?_)
  · have hc5 := bI_0.mp hc5
    have hW := hW.2 hc5
    refine J.bipush (v := (-100)) dX11_read_26 (by decide) ?_
    exact J.reti dX11_read_28 rfl rfl hW
  · have hc5 := bI_n0.mp hc5
    have hW := hW.1 hc5
    refine J.iload_n dX11_read_9 rfl rfl ?_
    refine J.callS (M' := mX11_isVillage) (index := 67) (bc := 0) (bs := 0) (bc' := 0) (bs' := 0) (st := []) [.int x3] ml_X11_67 cv_X11_isVillage dX11_read_10 rfl rfl (Nat.le_of_ble_eq_true rfl) (kqi (w_X11_isVillage (d := d + 3) (Q := qi h L (fun v I' => I' = I ∧ v = bI (¬ (x3 < 0) ∧ (¬ (4 < x3))))) hs x3 ⟨rfl, rfl, _, rfl, rfl, rfl⟩) (fun v6 I7 hv => ?_))
    rw [hv.1, hv.2]
    refine J.if_eq 26 dX11_read_13 (by decide) (fun hc8 => ?_) (fun hc8 => ?_)
    · have hc8 := bI_0.mp hc8
      have hW := hW.2 hc8
      refine J.bipush (v := (-100)) dX11_read_26 (by decide) ?_
      exact J.reti dX11_read_28 rfl rfl hW
    · have hc8 := bI_n0.mp hc8
      have hW := hW.1 hc8
      refine J.iload dX11_read_16 rfl ?_
      refine J.iconst (v := 0) dX11_read_18 (by decide) ?_
      refine J.iconst (v := 3) dX11_read_19 (by decide) ?_
      refine J.callS (M' := mX11_within) (index := 63) (bc := 0) (bs := 0) (bc' := 0) (bs' := 0) (st := []) [.int x4, .int 0, .int 3] ml_X11_63 cv_X11_within dX11_read_20 rfl rfl (Nat.le_of_ble_eq_true rfl) (kqi (w_X11_within (d := d + 4) (Q := qi h L (fun v I' => I' = I ∧ v = bI (¬ (x4 < 0) ∧ (¬ (3 < x4))))) hs x4 0 3 ⟨rfl, rfl, _, rfl, rfl, rfl⟩) (fun v9 I10 hv => ?_))
      rw [hv.1, hv.2]
      refine J.if_ne 29 dX11_read_23 (by decide) (fun hc11 => ?_) (fun hc11 => ?_)
      · have hc11 := bI_n0.mp hc11
        have hW := hW.1 hc11
        refine J.aload_n dX11_read_29 rfl rfl ?_
        refine J.getR (r := 63) fl_X11_41 rfl dX11_read_30 (lt0 hs) (kk0 hs) (rr0_4 hs) ?_
        refine J.iload_n dX11_read_33 rfl rfl ?_
        refine J.iload_n dX11_read_34 rfl rfl ?_
        refine J.callV (M' := mX2_face) (index := 233) (bc := 0) (bs := 0) (bc' := 0) (bs' := 0) (st := []) [.int x1, .int x2] ml_X11_233 cv_X2_face dX11_read_35 (lt63 hs) (kk63 hs) (by decide) rfl rfl rfl rfl (Nat.le_of_ble_eq_true rfl) (kqv hW (fun I12 hW => ?_))
        refine J.aload_n dX11_read_38 rfl rfl ?_
        refine J.getR (r := 63) fl_X11_41 rfl dX11_read_39 (lt0 hs) (kk0 hs) (rr0_4 hs) ?_
        refine J.aload_n dX11_read_42 rfl rfl ?_
        refine J.getR (r := 1) fl_X11_12 rfl dX11_read_43 (lt0 hs) (kk0 hs) (rr0_0 hs) ?_
        refine J.getR (r := 36) fl_X11_221 rfl dX11_read_46 (lt1 hs) (kk1 hs) (rr1_5 hs) ?_
        refine J.iload_n dX11_read_49 rfl rfl ?_
        obtain ⟨hb13, hW⟩ := hW
        obtain ⟨t14, hot14, hW⟩ := hW
        refine J.aald (v := .ref (eB E + t14)) dX11_read_50 (lt36 hs) (kk36 hs) (by decide) hb13 (by rw [hot14]; rfl) ?_
        refine J.iload_n dX11_read_51 rfl rfl ?_
        refine J.callV (M' := mX2_readBy) (index := 236) (bc := 0) (bs := 0) (bc' := 0) (bs' := 0) (st := []) [.ref (eB E + t14), .int x3] ml_X11_236 cv_X2_readBy dX11_read_52 (lt63 hs) (kk63 hs) (by decide) rfl rfl rfl rfl (Nat.le_of_ble_eq_true rfl) (kqv hW (fun I15 hW => ?_))
        refine J.iload dX11_read_55 rfl ?_
        by_cases hk19 : x4 = 0
        · have hW := hW.1 hk19
          refine J.tableIn (off := 27) 84 dX11_read_57 (by rw [hk19] <;> decide) (by rw [hk19] <;> decide) (by rw [hk19] <;> rfl) (by decide) ?_
          refine J.aload_n dX11_read_84 rfl rfl ?_
          refine J.getR (r := 63) fl_X11_41 rfl dX11_read_85 (lt0 hs) (kk0 hs) (rr0_4 hs) ?_
          refine J.getI (x := I15 63 5) fl_X11_240 rfl dX11_read_88 (lt63 hs) (kk63 hs) rfl ?_
          refine J.iconst (v := (-1)) dX11_read_91 (by decide) ?_
          have hj : J E mX11_read (d + 5) Q 0 0 100 [some (.ref (eB E + 0)), some (.int x1), some (.int x2), some (.int x3), some (.int x4)] [.int (bI (¬ ((I15 63 5) = (-1))))] h I15 L := by
            refine J.callS (M' := mX11_bit) (index := 177) (bc := 0) (bs := 0) (bc' := 0) (bs' := 0) (st := []) [.int (bI (¬ ((I15 63 5) = (-1))))] ml_X11_177 cv_X11_bit dX11_read_100 rfl rfl (Nat.le_of_ble_eq_true rfl) (kqi (w_X11_bit (d := d + 4) (Q := qi h L (fun v I' => I' = I15 ∧ v = bI (¬ ((bI (¬ ((I15 63 5) = (-1)))) = 0)))) hs (bI (¬ ((I15 63 5) = (-1)))) ⟨rfl, rfl, _, rfl, rfl, rfl⟩) (fun v17 I18 hv => ?_))
            rw [hv.1, hv.2]
            exact J.reti dX11_read_103 rfl rfl hW
          refine J.ic_eq 99 dX11_read_92 (by decide) (fun hc16 => ?_) (fun hc16 => ?_)
          · refine J.iconst (v := 0) dX11_read_99 (by decide) ?_
            rw [show bI (¬ ((I15 63 5) = (-1))) = 0 from bI_f (by simp only [eq_true hc16, and_true, true_and, and_false, false_and, or_true, true_or, or_false, false_or, not_true_eq_false, not_false_eq_true])] at hj
            exact hj
          · refine J.iconst (v := 1) dX11_read_95 (by decide) ?_
            refine J.goto 100 dX11_read_96 (by decide) ?_
            rw [show bI (¬ ((I15 63 5) = (-1))) = 1 from bI_t (by simp only [eq_false hc16, and_true, true_and, and_false, false_and, or_true, true_or, or_false, false_or, not_true_eq_false, not_false_eq_true])] at hj
            exact hj
        by_cases hk20 : x4 = 1
        · have hW := hW.2.1 hk20
          refine J.tableIn (off := 47) 104 dX11_read_57 (by rw [hk20] <;> decide) (by rw [hk20] <;> decide) (by rw [hk20] <;> rfl) (by decide) ?_
          refine J.aload_n dX11_read_104 rfl rfl ?_
          refine J.getR (r := 63) fl_X11_41 rfl dX11_read_105 (lt0 hs) (kk0 hs) (rr0_4 hs) ?_
          refine J.getI (x := I15 63 5) fl_X11_240 rfl dX11_read_108 (lt63 hs) (kk63 hs) rfl ?_
          exact J.reti dX11_read_111 rfl rfl hW
        by_cases hk21 : x4 = 2
        · have hW := hW.2.2.1 hk21
          refine J.tableIn (off := 55) 112 dX11_read_57 (by rw [hk21] <;> decide) (by rw [hk21] <;> decide) (by rw [hk21] <;> rfl) (by decide) ?_
          refine J.aload_n dX11_read_112 rfl rfl ?_
          refine J.getR (r := 63) fl_X11_41 rfl dX11_read_113 (lt0 hs) (kk0 hs) (rr0_4 hs) ?_
          refine J.getI (x := I15 63 6) fl_X11_243 rfl dX11_read_116 (lt63 hs) (kk63 hs) rfl ?_
          exact J.reti dX11_read_119 rfl rfl hW
        have hW := hW.2.2.2 hk19 hk20 hk21
        refine J.tableOut 120 dX11_read_57 (by have := toInt_ne (k := 0) (by decide) hk19; have := toInt_ne (k := 1) (by decide) hk20; have := toInt_ne (k := 2) (by decide) hk21; omega) (by decide) ?_
        refine J.aload_n dX11_read_120 rfl rfl ?_
        refine J.getR (r := 63) fl_X11_41 rfl dX11_read_121 (lt0 hs) (kk0 hs) (rr0_4 hs) ?_
        refine J.getI (x := I15 63 7) fl_X11_246 rfl dX11_read_124 (lt63 hs) (kk63 hs) rfl ?_
        exact J.reti dX11_read_127 rfl rfl hW
      · have hc11 := bI_0.mp hc11
        have hW := hW.2 hc11
        refine J.bipush (v := (-100)) dX11_read_26 (by decide) ?_
        exact J.reti dX11_read_28 rfl rfl hW
