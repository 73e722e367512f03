set_option maxRecDepth 100000 in
set_option maxHeartbeats 4000000 in
theorem w_X11_may {E : Envt} {d : Nat} {Q : Pst} {h : mS} {I : mI} {L : mL} (hs : SL h) (x1 : Int32) (x2 : Int32) 
    (hW : (((¬ (x1 < 0) ∧ (¬ ((I 7 0) ≤ x1))) → vp_in x1 20) ∧ ((((¬ (x1 < 0) ∧ (¬ ((I 7 0) ≤ x1))) ∧ ((I 9 x1.toNatClampNeg) = 0)) → ((¬ (x2 < 0) ∧ (¬ ((I 7 0) ≤ x2))) → vp_in x2 20)) ∧ (((((¬ (x1 < 0) ∧ (¬ ((I 7 0) ≤ x1))) ∧ ((I 9 x1.toNatClampNeg) = 0)) ∧ ((¬ (x2 < 0) ∧ (¬ ((I 7 0) ≤ x2))) ∧ ((I 9 x2.toNatClampNeg) = 1))) → (CT E mX2_letsWed (d + 5) 0 0 [.ref (eB E + 63), .int x1, .int x2] h I L (qi h L fun r7 I6 => Q (some (.int (bI (¬ (r7 = 0))))) h I6 L))) ∧ (¬ (((¬ (x1 < 0) ∧ (¬ ((I 7 0) ≤ x1))) ∧ ((I 9 x1.toNatClampNeg) = 0)) ∧ ((¬ (x2 < 0) ∧ (¬ ((I 7 0) ≤ x2))) ∧ ((I 9 x2.toNatClampNeg) = 1))) → Q (some (.int 0)) h I L))))) :
    CT E mX11_may (d + 6) 0 0 [.ref (eB E + 0), .int x1, .int x2] h I L Q := by
  refine CT.of (by decide) [some (.ref (eB E + 0)), some (.int x1), some (.int x2)] rfl (Nat.le_of_ble_eq_true rfl) ?_
  refine J.aload_n dX11_may_0 rfl rfl ?_
  refine J.iload_n dX11_may_1 rfl rfl ?_
  refine J.iload_n dX11_may_2 rfl rfl ?_
  obtain ⟨hb1, hW⟩ := hW
  obtain ⟨hb2, hW⟩ := hW
  refine J.callV (M' := mX11_isCouple) (index := 230) (bc := 0) (bs := 0) (bc' := 0) (bs' := 0) (st := []) [.int x1, .int x2] ml_X11_230 cv_X11_isCouple dX11_may_3 (lt0 hs) (kk0 hs) (by decide) rfl rfl rfl rfl (Nat.le_of_ble_eq_true rfl) (kqi (w_X11_isCouple (d := d + 3) (Q := qi h L (fun v I' => I' = I ∧ v = bI (((¬ (x1 < 0) ∧ (¬ ((I 7 0) ≤ x1))) ∧ ((I 9 x1.toNatClampNeg) = 0)) ∧ ((¬ (x2 < 0) ∧ (¬ ((I 7 0) ≤ x2))) ∧ ((I 9 x2.toNatClampNeg) = 1))))) hs x1 x2 ⟨hb1, hb2, rfl, rfl, _, rfl, rfl, rfl⟩) (fun v3 I4 hv => ?_))
  rw [hv.1, hv.2]
  refine J.if_eq 25 dX11_may_6 (by decide) (fun hc5 => ?_) (fun hc5 => ?_)
  · have hc5 := bI_0.mp hc5
    have hW := hW.2 hc5
    refine J.iconst (v := 0) dX11_may_25 (by decide) ?_
    exact J.reti dX11_may_26 rfl (bz_nar (Or.inl rfl)) hW
  · have hc5 := bI_n0.mp hc5
    have hW := hW.1 hc5
    refine J.aload_n dX11_may_9 rfl rfl ?_
    refine J.getR (r := 63) fl_X11_41 rfl dX11_may_10 (lt0 hs) (kk0 hs) (rr0_4 hs) ?_
    refine J.iload_n dX11_may_13 rfl rfl ?_
    refine J.iload_n dX11_may_14 rfl rfl ?_
    refine J.callV (M' := mX2_letsWed) (index := 249) (bc := 0) (bs := 0) (bc' := 0) (bs' := 0) (st := []) [.int x1, .int x2] ml_X11_249 cv_X2_letsWed dX11_may_15 (lt63 hs) (kk63 hs) (by decide) rfl rfl rfl rfl (Nat.le_of_ble_eq_true rfl) (kqi hW (fun r7 I6 hW => ?_))
    have hj : J E mX11_may (d + 6) Q 0 0 26 [some (.ref (eB E + 0)), some (.int x1), some (.int x2)] [.int (bI (¬ (r7 = 0)))] h I6 L := by
      exact J.reti dX11_may_26 rfl (bz_nar (bI_bz _)) hW
    refine J.if_eq 25 dX11_may_18 (by decide) (fun hc8 => ?_) (fun hc8 => ?_)
    · refine J.iconst (v := 0) dX11_may_25 (by decide) ?_
      rw [show bI (¬ (r7 = 0)) = 0 from bI_f (by simp only [eq_true hc8, and_true, true_and, and_false, false_and, or_true, true_or, or_false, false_or, not_true_eq_false, not_false_eq_true])] at hj
      exact hj
    · refine J.iconst (v := 1) dX11_may_21 (by decide) ?_
      refine J.goto 26 dX11_may_22 (by decide) ?_
      rw [show bI (¬ (r7 = 0)) = 1 from bI_t (by simp only [eq_false hc8, and_true, true_and, and_false, false_and, or_true, true_or, or_false, false_or, not_true_eq_false, not_false_eq_true])] at hj
      exact hj
set_option maxRecDepth 100000 in
set_option maxHeartbeats 4000000 in
theorem w_X11_liking {E : Envt} {d : Nat} {Q : Pst} {h : mS} {I : mI} {L : mL} (hs : SL h) (x1 : Int32) (x2 : Int32) 
    (hW : (((¬ (x1 < 0) ∧ (¬ ((I 7 0) ≤ x1))) → (((¬ (x2 < 0) ∧ (¬ ((I 7 0) ≤ x2))) → (vp_in x1 20 ∧ (vp_in x2 20 ∧ ((((I 9 x1.toNatClampNeg) = (I 9 x2.toNatClampNeg)) → Q (some (.int (-1000000))) h I L) ∧ (¬ ((I 9 x1.toNatClampNeg) = (I 9 x2.toNatClampNeg)) → (CT E mX2_likes (d + 4) 0 0 [.ref (eB E + 63), .int x1, .int x2] h I L (qi h L fun r11 I10 => Q (some (.int r11)) h I10 L))))))) ∧ (¬ (¬ (x2 < 0) ∧ (¬ ((I 7 0) ≤ x2))) → Q (some (.int (-1000000))) h I L))) ∧ (¬ (¬ (x1 < 0) ∧ (¬ ((I 7 0) ≤ x1))) → Q (some (.int (-1000000))) h I L))) :
    CT E mX11_liking (d + 5) 0 0 [.ref (eB E + 0), .int x1, .int x2] h I L Q := by
  refine CT.of (by decide) [some (.ref (eB E + 0)), some (.int x1), some (.int x2), none] rfl (Nat.le_of_ble_eq_true rfl) ?_
  refine J.aload_n dX11_liking_0 rfl rfl ?_
  refine J.getR (r := 1) fl_X11_12 rfl dX11_liking_1 (lt0 hs) (kk0 hs) (rr0_0 hs) ?_
  refine J.getR (r := 7) fl_X11_89 rfl dX11_liking_4 (lt1 hs) (kk1 hs) (rr1_2 hs) ?_
  refine J.astore_n (vs' := [some (.ref (eB E + 0)), some (.int x1), some (.int x2), some (.ref (eB E + 7))]) dX11_liking_7 rfl (by decide) rfl ?_
  refine J.aload_n dX11_liking_8 rfl rfl ?_
  refine J.iload_n dX11_liking_9 rfl rfl ?_
  refine J.callV (M' := mX7_has) (index := 123) (bc := 0) (bs := 0) (bc' := 0) (bs' := 0) (st := []) [.int x1] ml_X11_123 cv_X7_has dX11_liking_10 (lt7 hs) (kk7 hs) (by decide) rfl rfl rfl rfl (Nat.le_of_ble_eq_true rfl) (kqi (w_X7_has (d := d + 4) (Q := qi h L (fun v I' => I' = I ∧ v = bI (¬ (x1 < 0) ∧ (¬ ((I 7 0) ≤ x1))))) hs x1 ⟨rfl, rfl, _, rfl, rfl, rfl⟩) (fun v1 I2 hv => ?_))
  rw [hv.1, hv.2]
  refine J.if_eq 39 dX11_liking_13 (by decide) (fun hc3 => ?_) (fun hc3 => ?_)
  · have hc3 := bI_0.mp hc3
    have hW := hW.2 hc3
    refine J.ldc (v := (-1000000)) ck_X11_252 dX11_liking_39 ?_
    exact J.reti dX11_liking_41 rfl rfl hW
  · have hc3 := bI_n0.mp hc3
    have hW := hW.1 hc3
    refine J.aload_n dX11_liking_16 rfl rfl ?_
    refine J.iload_n dX11_liking_17 rfl rfl ?_
    refine J.callV (M' := mX7_has) (index := 123) (bc := 0) (bs := 0) (bc' := 0) (bs' := 0) (st := []) [.int x2] ml_X11_123 cv_X7_has dX11_liking_18 (lt7 hs) (kk7 hs) (by decide) rfl rfl rfl rfl (Nat.le_of_ble_eq_true rfl) (kqi (w_X7_has (d := d + 4) (Q := qi h L (fun v I' => I' = I ∧ v = bI (¬ (x2 < 0) ∧ (¬ ((I 7 0) ≤ x2))))) hs x2 ⟨rfl, rfl, _, rfl, rfl, rfl⟩) (fun v4 I5 hv => ?_))
    rw [hv.1, hv.2]
    refine J.if_eq 39 dX11_liking_21 (by decide) (fun hc6 => ?_) (fun hc6 => ?_)
    · have hc6 := bI_0.mp hc6
      have hW := hW.2 hc6
      refine J.ldc (v := (-1000000)) ck_X11_252 dX11_liking_39 ?_
      exact J.reti dX11_liking_41 rfl rfl hW
    · have hc6 := bI_n0.mp hc6
      have hW := hW.1 hc6
      refine J.aload_n dX11_liking_24 rfl rfl ?_
      refine J.getR (r := 9) fl_X11_171 rfl dX11_liking_25 (lt7 hs) (kk7 hs) (rr7_2 hs) ?_
      refine J.iload_n dX11_liking_28 rfl rfl ?_
      obtain ⟨hb7, hW⟩ := hW
      refine J.iald (x := I 9 x1.toNatClampNeg) dX11_liking_29 (lt9 hs) (kk9 hs) hb7 rfl ?_
      refine J.aload_n dX11_liking_30 rfl rfl ?_
      refine J.getR (r := 9) fl_X11_171 rfl dX11_liking_31 (lt7 hs) (kk7 hs) (rr7_2 hs) ?_
      refine J.iload_n dX11_liking_34 rfl rfl ?_
      obtain ⟨hb8, hW⟩ := hW
      refine J.iald (x := I 9 x2.toNatClampNeg) dX11_liking_35 (lt9 hs) (kk9 hs) hb8 rfl ?_
      refine J.ic_ne 42 dX11_liking_36 (by decide) (fun hc9 => ?_) (fun hc9 => ?_)
      · have hW := hW.2 hc9
        refine J.aload_n dX11_liking_42 rfl rfl ?_
        refine J.getR (r := 63) fl_X11_41 rfl dX11_liking_43 (lt0 hs) (kk0 hs) (rr0_4 hs) ?_
        refine J.iload_n dX11_liking_46 rfl rfl ?_
        refine J.iload_n dX11_liking_47 rfl rfl ?_
        refine J.callV (M' := mX2_likes) (index := 253) (bc := 0) (bs := 0) (bc' := 0) (bs' := 0) (st := []) [.int x1, .int x2] ml_X11_253 cv_X2_likes dX11_liking_48 (lt63 hs) (kk63 hs) (by decide) rfl rfl rfl rfl (Nat.le_of_ble_eq_true rfl) (kqi hW (fun r11 I10 hW => ?_))
        exact J.reti dX11_liking_51 rfl rfl hW
      · have hW := hW.1 hc9
        refine J.ldc (v := (-1000000)) ck_X11_252 dX11_liking_39 ?_
        exact J.reti dX11_liking_41 rfl rfl hW
set_option maxRecDepth 100000 in
set_option maxHeartbeats 4000000 in
theorem w_X11_ask {E : Envt} {d : Nat} {Q : Pst} {h : mS} {I : mI} {L : mL} (hs : SL h) (x1 : Int32) (x2 : Int32) 
    (hW : (((¬ (x1 < 0) ∧ (¬ ((I 7 0) ≤ x1))) → vp_in x1 20) ∧ ((((¬ (x1 < 0) ∧ (¬ ((I 7 0) ≤ x1))) ∧ ((I 9 x1.toNatClampNeg) = 0)) → ((¬ (x2 < 0) ∧ (¬ ((I 7 0) ≤ x2))) → vp_in x2 20)) ∧ (((((¬ (x1 < 0) ∧ (¬ ((I 7 0) ≤ x1))) ∧ ((I 9 x1.toNatClampNeg) = 0)) ∧ ((¬ (x2 < 0) ∧ (¬ ((I 7 0) ≤ x2))) ∧ ((I 9 x2.toNatClampNeg) = 1))) → ((vp_in x1 20) ∧ (((¬ ((I 14 x1.toNatClampNeg) = 0) ∧ (((I 12 x1.toNatClampNeg) = (-1)) ∧ ((I 13 x1.toNatClampNeg) = (-1)))) → ((vp_in x2 20) ∧ (((¬ ((I 14 x2.toNatClampNeg) = 0) ∧ (((I 12 x2.toNatClampNeg) = (-1)) ∧ ((I 13 x2.toNatClampNeg) = (-1)))) → (((¬ ((I 24 0) < 30)) → Q (some (.int (-1))) h I L) ∧ (¬ (¬ ((I 24 0) < 30)) → (CT E mX2_letsWed (d + 5) 0 0 [.ref (eB E + 63), .int x1, .int x2] h I L (qi h L fun r18 I17 => (((r18 = 0) → Q (some (.int (-1))) h I17 L) ∧ (¬ (r18 = 0) → (CT E mX4_add (d + 5) 0 0 [.ref (eB E + 24), .int x1, .int x2, .int (I17 1 0)] h I17 L (qi h L fun r21 I20 => (vp_in r21 30 ∧ (vp_in x1 20 ∧ (vp_in x2 20 ∧ Q (some (.int r21)) h (uI (uI (uI (uI I20 28 r21.toNatClampNeg (I20 63 8)) 29 r21.toNatClampNeg (I20 63 9)) 13 x1.toNatClampNeg r21) 13 x2.toNatClampNeg r21) L)))))))))))) ∧ (¬ (¬ ((I 14 x2.toNatClampNeg) = 0) ∧ (((I 12 x2.toNatClampNeg) = (-1)) ∧ ((I 13 x2.toNatClampNeg) = (-1)))) → Q (some (.int (-1))) h I L)))) ∧ (¬ (¬ ((I 14 x1.toNatClampNeg) = 0) ∧ (((I 12 x1.toNatClampNeg) = (-1)) ∧ ((I 13 x1.toNatClampNeg) = (-1)))) → Q (some (.int (-1))) h I L)))) ∧ (¬ (((¬ (x1 < 0) ∧ (¬ ((I 7 0) ≤ x1))) ∧ ((I 9 x1.toNatClampNeg) = 0)) ∧ ((¬ (x2 < 0) ∧ (¬ ((I 7 0) ≤ x2))) ∧ ((I 9 x2.toNatClampNeg) = 1))) → Q (some (.int (-1))) h I L))))) :
    CT E mX11_ask (d + 6) 0 0 [.ref (eB E + 0), .int x1, .int x2] h I L Q := by
  refine CT.of (by decide) [some (.ref (eB E + 0)), some (.int x1), some (.int x2), none] rfl (Nat.le_of_ble_eq_true rfl) ?_
  refine J.aload_n dX11_ask_0 rfl rfl ?_
  refine J.iload_n dX11_ask_1 rfl rfl ?_
  refine J.iload_n dX11_ask_2 rfl rfl ?_
  obtain ⟨hb1, hW⟩ := hW
  obtain ⟨hb2, hW⟩ := hW
  refine J.callV (M' := mX11_isCouple) (index := 230) (bc := 0) (bs := 0) (bc' := 0) (bs' := 0) (st := []) [.int x1, .int x2] ml_X11_230 cv_X11_isCouple dX11_ask_3 (lt0 hs) (kk0 hs) (by decide) rfl rfl rfl rfl (Nat.le_of_ble_eq_true rfl) (kqi (w_X11_isCouple (d := d + 3) (Q := qi h L (fun v I' => I' = I ∧ v = bI (((¬ (x1 < 0) ∧ (¬ ((I 7 0) ≤ x1))) ∧ ((I 9 x1.toNatClampNeg) = 0)) ∧ ((¬ (x2 < 0) ∧ (¬ ((I 7 0) ≤ x2))) ∧ ((I 9 x2.toNatClampNeg) = 1))))) hs x1 x2 ⟨hb1, hb2, rfl, rfl, _, rfl, rfl, rfl⟩) (fun v3 I4 hv => ?_))
  rw [hv.1, hv.2]
  refine J.if_eq 37 dX11_ask_6 (by decide) (fun hc5 => ?_) (fun hc5 => ?_)
  · have hc5 := bI_0.mp hc5
    have hW := hW.2 hc5
    refine J.iconst (v := (-1)) dX11_ask_37 (by decide) ?_
    exact J.reti dX11_ask_38 rfl rfl hW
  · have hc5 := bI_n0.mp hc5
    have hW := hW.1 hc5
    refine J.aload_n dX11_ask_9 rfl rfl ?_
    refine J.getR (r := 1) fl_X11_12 rfl dX11_ask_10 (lt0 hs) (kk0 hs) (rr0_0 hs) ?_
    refine J.getR (r := 7) fl_X11_89 rfl dX11_ask_13 (lt1 hs) (kk1 hs) (rr1_2 hs) ?_
    refine J.iload_n dX11_ask_16 rfl rfl ?_
    obtain ⟨hb6, hW⟩ := hW
    refine J.callV (M' := mX7_isFree) (index := 187) (bc := 0) (bs := 0) (bc' := 0) (bs' := 0) (st := []) [.int x1] ml_X11_187 cv_X7_isFree dX11_ask_17 (lt7 hs) (kk7 hs) (by decide) rfl rfl rfl rfl (Nat.le_of_ble_eq_true rfl) (kqi (w_X7_isFree (d := d + 5) (Q := qi h L (fun v I' => I' = I ∧ v = bI (¬ ((I 14 x1.toNatClampNeg) = 0) ∧ (((I 12 x1.toNatClampNeg) = (-1)) ∧ ((I 13 x1.toNatClampNeg) = (-1)))))) hs x1 ⟨hb6, rfl, rfl, _, rfl, rfl, rfl⟩) (fun v7 I8 hv => ?_))
    rw [hv.1, hv.2]
    refine J.if_eq 37 dX11_ask_20 (by decide) (fun hc9 => ?_) (fun hc9 => ?_)
    · have hc9 := bI_0.mp hc9
      have hW := hW.2 hc9
      refine J.iconst (v := (-1)) dX11_ask_37 (by decide) ?_
      exact J.reti dX11_ask_38 rfl rfl hW
    · have hc9 := bI_n0.mp hc9
      have hW := hW.1 hc9
      refine J.aload_n dX11_ask_23 rfl rfl ?_
      refine J.getR (r := 1) fl_X11_12 rfl dX11_ask_24 (lt0 hs) (kk0 hs) (rr0_0 hs) ?_
      refine J.getR (r := 7) fl_X11_89 rfl dX11_ask_27 (lt1 hs) (kk1 hs) (rr1_2 hs) ?_
      refine J.iload_n dX11_ask_30 rfl rfl ?_
      obtain ⟨hb10, hW⟩ := hW
      refine J.callV (M' := mX7_isFree) (index := 187) (bc := 0) (bs := 0) (bc' := 0) (bs' := 0) (st := []) [.int x2] ml_X11_187 cv_X7_isFree dX11_ask_31 (lt7 hs) (kk7 hs) (by decide) rfl rfl rfl rfl (Nat.le_of_ble_eq_true rfl) (kqi (w_X7_isFree (d := d + 5) (Q := qi h L (fun v I' => I' = I ∧ v = bI (¬ ((I 14 x2.toNatClampNeg) = 0) ∧ (((I 12 x2.toNatClampNeg) = (-1)) ∧ ((I 13 x2.toNatClampNeg) = (-1)))))) hs x2 ⟨hb10, rfl, rfl, _, rfl, rfl, rfl⟩) (fun v11 I12 hv => ?_))
      rw [hv.1, hv.2]
      refine J.if_ne 39 dX11_ask_34 (by decide) (fun hc13 => ?_) (fun hc13 => ?_)
      · have hc13 := bI_n0.mp hc13
        have hW := hW.1 hc13
        refine J.aload_n dX11_ask_39 rfl rfl ?_
        refine J.getR (r := 1) fl_X11_12 rfl dX11_ask_40 (lt0 hs) (kk0 hs) (rr0_0 hs) ?_
        refine J.getR (r := 24) fl_X11_140 rfl dX11_ask_43 (lt1 hs) (kk1 hs) (rr1_4 hs) ?_
        refine J.callV (M' := mX4_isFull) (index := 256) (bc := 0) (bs := 0) (bc' := 0) (bs' := 0) (st := []) [] ml_X11_256 cv_X4_isFull dX11_ask_46 (lt24 hs) (kk24 hs) (by decide) rfl rfl rfl rfl (Nat.le_of_ble_eq_true rfl) (kqi (w_X4_isFull (d := d + 5) (Q := qi h L (fun v I' => I' = I ∧ v = bI (¬ ((I 24 0) < 30)))) hs  ⟨rfl, rfl, _, rfl, rfl, rfl⟩) (fun v14 I15 hv => ?_))
        rw [hv.1, hv.2]
        refine J.if_ne 64 dX11_ask_49 (by decide) (fun hc16 => ?_) (fun hc16 => ?_)
        · have hc16 := bI_n0.mp hc16
          have hW := hW.1 hc16
          refine J.iconst (v := (-1)) dX11_ask_64 (by decide) ?_
          exact J.reti dX11_ask_65 rfl rfl hW
        · have hc16 := bI_0.mp hc16
          have hW := hW.2 hc16
          refine J.aload_n dX11_ask_52 rfl rfl ?_
          refine J.getR (r := 63) fl_X11_41 rfl dX11_ask_53 (lt0 hs) (kk0 hs) (rr0_4 hs) ?_
          refine J.iload_n dX11_ask_56 rfl rfl ?_
          refine J.iload_n dX11_ask_57 rfl rfl ?_
          refine J.callV (M' := mX2_letsWed) (index := 249) (bc := 0) (bs := 0) (bc' := 0) (bs' := 0) (st := []) [.int x1, .int x2] ml_X11_249 cv_X2_letsWed dX11_ask_58 (lt63 hs) (kk63 hs) (by decide) rfl rfl rfl rfl (Nat.le_of_ble_eq_true rfl) (kqi hW (fun r18 I17 hW => ?_))
          refine J.if_ne 66 dX11_ask_61 (by decide) (fun hc19 => ?_) (fun hc19 => ?_)
          · have hW := hW.2 hc19
            refine J.aload_n dX11_ask_66 rfl rfl ?_
            refine J.getR (r := 1) fl_X11_12 rfl dX11_ask_67 (lt0 hs) (kk0 hs) (rr0_0 hs) ?_
            refine J.getR (r := 24) fl_X11_140 rfl dX11_ask_70 (lt1 hs) (kk1 hs) (rr1_4 hs) ?_
            refine J.iload_n dX11_ask_73 rfl rfl ?_
            refine J.iload_n dX11_ask_74 rfl rfl ?_
            refine J.aload_n dX11_ask_75 rfl rfl ?_
            refine J.getR (r := 1) fl_X11_12 rfl dX11_ask_76 (lt0 hs) (kk0 hs) (rr0_0 hs) ?_
            refine J.getI (x := I17 1 0) fl_X11_85 rfl dX11_ask_79 (lt1 hs) (kk1 hs) rfl ?_
            refine J.callV (M' := mX4_add) (index := 260) (bc := 0) (bs := 0) (bc' := 0) (bs' := 0) (st := []) [.int x1, .int x2, .int (I17 1 0)] ml_X11_260 cv_X4_add dX11_ask_82 (lt24 hs) (kk24 hs) (by decide) rfl rfl rfl rfl (Nat.le_of_ble_eq_true rfl) (kqi hW (fun r21 I20 hW => ?_))
            refine J.istore_n (vs' := [some (.ref (eB E + 0)), some (.int x1), some (.int x2), some (.int r21)]) dX11_ask_85 rfl (by decide) rfl ?_
            refine J.aload_n dX11_ask_86 rfl rfl ?_
            refine J.getR (r := 1) fl_X11_12 rfl dX11_ask_87 (lt0 hs) (kk0 hs) (rr0_0 hs) ?_
            refine J.getR (r := 24) fl_X11_140 rfl dX11_ask_90 (lt1 hs) (kk1 hs) (rr1_4 hs) ?_
            refine J.getR (r := 28) fl_X11_261 rfl dX11_ask_93 (lt24 hs) (kk24 hs) (rr24_4 hs) ?_
            refine J.iload_n dX11_ask_96 rfl rfl ?_
            refine J.aload_n dX11_ask_97 rfl rfl ?_
            refine J.getR (r := 63) fl_X11_41 rfl dX11_ask_98 (lt0 hs) (kk0 hs) (rr0_4 hs) ?_
            refine J.getI (x := I20 63 8) fl_X11_263 rfl dX11_ask_101 (lt63 hs) (kk63 hs) rfl ?_
            obtain ⟨hb22, hW⟩ := hW
            refine J.iast dX11_ask_104 (lt28 hs) (kk28 hs) hb22 ?_
            refine J.aload_n dX11_ask_105 rfl rfl ?_
            refine J.getR (r := 1) fl_X11_12 rfl dX11_ask_106 (lt0 hs) (kk0 hs) (rr0_0 hs) ?_
            refine J.getR (r := 24) fl_X11_140 rfl dX11_ask_109 (lt1 hs) (kk1 hs) (rr1_4 hs) ?_
            refine J.getR (r := 29) fl_X11_266 rfl dX11_ask_112 (lt24 hs) (kk24 hs) (rr24_5 hs) ?_
            refine J.iload_n dX11_ask_115 rfl rfl ?_
            refine J.aload_n dX11_ask_116 rfl rfl ?_
            refine J.getR (r := 63) fl_X11_41 rfl dX11_ask_117 (lt0 hs) (kk0 hs) (rr0_4 hs) ?_
            refine J.getI (x := I20 63 9) fl_X11_268 rfl dX11_ask_120 (lt63 hs) (kk63 hs) rfl ?_
            refine J.iast dX11_ask_123 (lt29 hs) (kk29 hs) hb22 ?_
            refine J.aload_n dX11_ask_124 rfl rfl ?_
            refine J.getR (r := 1) fl_X11_12 rfl dX11_ask_125 (lt0 hs) (kk0 hs) (rr0_0 hs) ?_
            refine J.getR (r := 7) fl_X11_89 rfl dX11_ask_128 (lt1 hs) (kk1 hs) (rr1_2 hs) ?_
            refine J.getR (r := 13) fl_X11_137 rfl dX11_ask_131 (lt7 hs) (kk7 hs) (rr7_6 hs) ?_
            refine J.iload_n dX11_ask_134 rfl rfl ?_
            refine J.iload_n dX11_ask_135 rfl rfl ?_
            obtain ⟨hb23, hW⟩ := hW
            refine J.iast dX11_ask_136 (lt13 hs) (kk13 hs) hb23 ?_
            refine J.aload_n dX11_ask_137 rfl rfl ?_
            refine J.getR (r := 1) fl_X11_12 rfl dX11_ask_138 (lt0 hs) (kk0 hs) (rr0_0 hs) ?_
            refine J.getR (r := 7) fl_X11_89 rfl dX11_ask_141 (lt1 hs) (kk1 hs) (rr1_2 hs) ?_
            refine J.getR (r := 13) fl_X11_137 rfl dX11_ask_144 (lt7 hs) (kk7 hs) (rr7_6 hs) ?_
            refine J.iload_n dX11_ask_147 rfl rfl ?_
            refine J.iload_n dX11_ask_148 rfl rfl ?_
            obtain ⟨hb24, hW⟩ := hW
            refine J.iast dX11_ask_149 (lt13 hs) (kk13 hs) hb24 ?_
            refine J.iload_n dX11_ask_150 rfl rfl ?_
            exact J.reti dX11_ask_151 rfl rfl hW
          · have hW := hW.1 hc19
            refine J.iconst (v := (-1)) dX11_ask_64 (by decide) ?_
            exact J.reti dX11_ask_65 rfl rfl hW
      · have hc13 := bI_0.mp hc13
        have hW := hW.2 hc13
        refine J.iconst (v := (-1)) dX11_ask_37 (by decide) ?_
        exact J.reti dX11_ask_38 rfl rfl hW
set_option maxRecDepth 100000 in
set_option maxHeartbeats 4000000 in
theorem w_X11_hisHouse {E : Envt} {d : Nat} {Q : Pst} {h : mS} {I : mI} {L : mL} (hs : SL h) (x1 : Int32) 
    (hW : (vp_in x1 30 ∧ (vp_in (I 26 x1.toNatClampNeg) 20 ∧ Q (some (.int (I 8 ((I 26 x1.toNatClampNeg).toNatClampNeg)))) h I L))) :
    CT E mX11_hisHouse d 0 0 [.ref (eB E + 0), .int x1] h I L Q := by
  refine CT.of (by decide) [some (.ref (eB E + 0)), some (.int x1)] rfl (Nat.le_of_ble_eq_true rfl) ?_
  refine J.aload_n dX11_hisHouse_0 rfl rfl ?_
  refine J.getR (r := 1) fl_X11_12 rfl dX11_hisHouse_1 (lt0 hs) (kk0 hs) (rr0_0 hs) ?_
  refine J.getR (r := 7) fl_X11_89 rfl dX11_hisHouse_4 (lt1 hs) (kk1 hs) (rr1_2 hs) ?_
  refine J.getR (r := 8) fl_X11_168 rfl dX11_hisHouse_7 (lt7 hs) (kk7 hs) (rr7_1 hs) ?_
  refine J.aload_n dX11_hisHouse_10 rfl rfl ?_
  refine J.getR (r := 1) fl_X11_12 rfl dX11_hisHouse_11 (lt0 hs) (kk0 hs) (rr0_0 hs) ?_
  refine J.getR (r := 24) fl_X11_140 rfl dX11_hisHouse_14 (lt1 hs) (kk1 hs) (rr1_4 hs) ?_
  refine J.getR (r := 26) fl_X11_292 rfl dX11_hisHouse_17 (lt24 hs) (kk24 hs) (rr24_2 hs) ?_
  refine J.iload_n dX11_hisHouse_20 rfl rfl ?_
  obtain ⟨hb1, hW⟩ := hW
  refine J.iald (x := I 26 x1.toNatClampNeg) dX11_hisHouse_21 (lt26 hs) (kk26 hs) hb1 rfl ?_
  obtain ⟨hb2, hW⟩ := hW
  refine J.iald (x := I 8 ((I 26 x1.toNatClampNeg).toNatClampNeg)) dX11_hisHouse_22 (lt8 hs) (kk8 hs) hb2 rfl ?_
  exact J.reti dX11_hisHouse_23 rfl rfl hW
set_option maxRecDepth 100000 in
set_option maxHeartbeats 4000000 in
theorem w_X11_herHouse {E : Envt} {d : Nat} {Q : Pst} {h : mS} {I : mI} {L : mL} (hs : SL h) (x1 : Int32) 
    (hW : (vp_in x1 30 ∧ (vp_in (I 25 x1.toNatClampNeg) 20 ∧ Q (some (.int (I 8 ((I 25 x1.toNatClampNeg).toNatClampNeg)))) h I L))) :
    CT E mX11_herHouse d 0 0 [.ref (eB E + 0), .int x1] h I L Q := by
  refine CT.of (by decide) [some (.ref (eB E + 0)), some (.int x1)] rfl (Nat.le_of_ble_eq_true rfl) ?_
  refine J.aload_n dX11_herHouse_0 rfl rfl ?_
  refine J.getR (r := 1) fl_X11_12 rfl dX11_herHouse_1 (lt0 hs) (kk0 hs) (rr0_0 hs) ?_
  refine J.getR (r := 7) fl_X11_89 rfl dX11_herHouse_4 (lt1 hs) (kk1 hs) (rr1_2 hs) ?_
  refine J.getR (r := 8) fl_X11_168 rfl dX11_herHouse_7 (lt7 hs) (kk7 hs) (rr7_1 hs) ?_
  refine J.aload_n dX11_herHouse_10 rfl rfl ?_
  refine J.getR (r := 1) fl_X11_12 rfl dX11_herHouse_11 (lt0 hs) (kk0 hs) (rr0_0 hs) ?_
  refine J.getR (r := 24) fl_X11_140 rfl dX11_herHouse_14 (lt1 hs) (kk1 hs) (rr1_4 hs) ?_
  refine J.getR (r := 25) fl_X11_289 rfl dX11_herHouse_17 (lt24 hs) (kk24 hs) (rr24_1 hs) ?_
  refine J.iload_n dX11_herHouse_20 rfl rfl ?_
  obtain ⟨hb1, hW⟩ := hW
  refine J.iald (x := I 25 x1.toNatClampNeg) dX11_herHouse_21 (lt25 hs) (kk25 hs) hb1 rfl ?_
  obtain ⟨hb2, hW⟩ := hW
  refine J.iald (x := I 8 ((I 25 x1.toNatClampNeg).toNatClampNeg)) dX11_herHouse_22 (lt8 hs) (kk8 hs) hb2 rfl ?_
  exact J.reti dX11_herHouse_23 rfl rfl hW
set_option maxRecDepth 100000 in
set_option maxHeartbeats 4000000 in
theorem w_X11_promise {E : Envt} {d : Nat} {Q : Pst} {h : mS} {I : mI} {L : mL} (hs : SL h) (x1 : Int32) 
    (hW : (((¬ (x1 < 0) ∧ (¬ ((I 24 0) ≤ x1))) → vp_in x1 30) ∧ ((((¬ (x1 < 0) ∧ (¬ ((I 24 0) ≤ x1))) ∧ ((I 27 x1.toNatClampNeg) = 0)) → (vp_in x1 30 ∧ (∀ y6 : Int32, y6 = (I 28 x1.toNatClampNeg) / 2 → ((vp_in x1 30) ∧ ((vp_in (I 26 x1.toNatClampNeg) 20) ∧ ((vp_in (I 25 x1.toNatClampNeg) 20) ∧ (CT E mX1_pay (d + 1) 0 0 [.ref (eB E + 2), .int (I 8 ((I 26 x1.toNatClampNeg).toNatClampNeg)), .int (I 8 ((I 25 x1.toNatClampNeg).toNatClampNeg)), .int y6] h I L (qi h L fun r15 I14 => (((r15 = 0) → Q (some (.int 0)) h I14 L) ∧ (¬ (r15 = 0) → (CT E mX4_stand (d + 1) 0 0 [.ref (eB E + 24), .int x1, .int 1, .int (I14 1 0)] h (uI I14 30 x1.toNatClampNeg y6) L (qv h L fun I17 => Q (some (.int 1)) h I17 L)))))))))))) ∧ (¬ ((¬ (x1 < 0) ∧ (¬ ((I 24 0) ≤ x1))) ∧ ((I 27 x1.toNatClampNeg) = 0)) → Q (some (.int 0)) h I L)))) :
    CT E mX11_promise (d + 2) 0 0 [.ref (eB E + 0), .int x1] h I L Q := by
  refine CT.of (by decide) [some (.ref (eB E + 0)), some (.int x1), none, none] rfl (Nat.le_of_ble_eq_true rfl) ?_
  refine J.aload_n dX11_promise_0 rfl rfl ?_
  refine J.getR (r := 1) fl_X11_12 rfl dX11_promise_1 (lt0 hs) (kk0 hs) (rr0_0 hs) ?_
  refine J.getR (r := 24) fl_X11_140 rfl dX11_promise_4 (lt1 hs) (kk1 hs) (rr1_4 hs) ?_
  refine J.astore_n (vs' := [some (.ref (eB E + 0)), some (.int x1), some (.ref (eB E + 24)), none]) dX11_promise_7 rfl (by decide) rfl ?_
  refine J.aload_n dX11_promise_8 rfl rfl ?_
  refine J.iload_n dX11_promise_9 rfl rfl ?_
  refine J.iconst (v := 0) dX11_promise_10 (by decide) ?_
  obtain ⟨hb1, hW⟩ := hW
  refine J.callV (M' := mX4_standsAs) (index := 271) (bc := 0) (bs := 0) (bc' := 0) (bs' := 0) (st := []) [.int x1, .int 0] ml_X11_271 cv_X4_standsAs dX11_promise_11 (lt24 hs) (kk24 hs) (by decide) rfl rfl rfl rfl (Nat.le_of_ble_eq_true rfl) (kqi (w_X4_standsAs (d := d) (Q := qi h L (fun v I' => I' = I ∧ v = bI ((¬ (x1 < 0) ∧ (¬ ((I 24 0) ≤ x1))) ∧ ((I 27 x1.toNatClampNeg) = 0)))) hs x1 0 ⟨hb1, rfl, rfl, _, rfl, rfl, rfl⟩) (fun v2 I3 hv => ?_))
  rw [hv.1, hv.2]
  refine J.if_ne 19 dX11_promise_14 (by decide) (fun hc4 => ?_) (fun hc4 => ?_)
  · have hc4 := bI_n0.mp hc4
    have hW := hW.1 hc4
    refine J.aload_n dX11_promise_19 rfl rfl ?_
    refine J.getR (r := 28) fl_X11_261 rfl dX11_promise_20 (lt24 hs) (kk24 hs) (rr24_4 hs) ?_
    refine J.iload_n dX11_promise_23 rfl rfl ?_
    obtain ⟨hb5, hW⟩ := hW
    refine J.iald (x := I 28 x1.toNatClampNeg) dX11_promise_24 (lt28 hs) (kk28 hs) hb5 rfl ?_
    refine J.iconst (v := 2) dX11_promise_25 (by decide) ?_
    refine J.idiv dX11_promise_26 (by decide) ?_
    refine J.topi (fun y6 hyy6 => ?_)
    have hW := hW y6 hyy6
    refine J.istore_n (vs' := [some (.ref (eB E + 0)), some (.int x1), some (.ref (eB E + 24)), some (.int y6)]) dX11_promise_27 rfl (by decide) rfl ?_
    refine J.aload_n dX11_promise_28 rfl rfl ?_
    refine J.getR (r := 1) fl_X11_12 rfl dX11_promise_29 (lt0 hs) (kk0 hs) (rr0_0 hs) ?_
    refine J.getR (r := 2) fl_X11_72 rfl dX11_promise_32 (lt1 hs) (kk1 hs) (rr1_1 hs) ?_
    refine J.aload_n dX11_promise_35 rfl rfl ?_
    refine J.iload_n dX11_promise_36 rfl rfl ?_
    obtain ⟨hb7, hW⟩ := hW
    obtain ⟨hb8, hW⟩ := hW
    refine J.callV (M' := mX11_hisHouse) (index := 274) (bc := 0) (bs := 0) (bc' := 0) (bs' := 0) (st := [.ref (eB E + 2)]) [.int x1] ml_X11_274 cv_X11_hisHouse dX11_promise_37 (lt0 hs) (kk0 hs) (by decide) rfl rfl rfl rfl (Nat.le_of_ble_eq_true rfl) (kqi (w_X11_hisHouse (d := d + 1) (Q := qi h L (fun v I' => I' = I ∧ v = I 8 ((I 26 x1.toNatClampNeg).toNatClampNeg))) hs x1 ⟨hb7, hb8, rfl, rfl, _, rfl, rfl, rfl⟩) (fun v9 I10 hv => ?_))
    rw [hv.1, hv.2]
    refine J.aload_n dX11_promise_40 rfl rfl ?_
    refine J.iload_n dX11_promise_41 rfl rfl ?_
    obtain ⟨hb11, hW⟩ := hW
    refine J.callV (M' := mX11_herHouse) (index := 277) (bc := 0) (bs := 0) (bc' := 0) (bs' := 0) (st := [.int (I 8 ((I 26 x1.toNatClampNeg).toNatClampNeg)), .ref (eB E + 2)]) [.int x1] ml_X11_277 cv_X11_herHouse dX11_promise_42 (lt0 hs) (kk0 hs) (by decide) rfl rfl rfl rfl (Nat.le_of_ble_eq_true rfl) (kqi (w_X11_herHouse (d := d + 1) (Q := qi h L (fun v I' => I' = I ∧ v = I 8 ((I 25 x1.toNatClampNeg).toNatClampNeg))) hs x1 ⟨hb7, hb11, rfl, rfl, _, rfl, rfl, rfl⟩) (fun v12 I13 hv => ?_))
    rw [hv.1, hv.2]
    refine J.iload_n dX11_promise_45 rfl rfl ?_
    refine J.callV (M' := mX1_pay) (index := 280) (bc := 0) (bs := 0) (bc' := 0) (bs' := 0) (st := []) [.int (I 8 ((I 26 x1.toNatClampNeg).toNatClampNeg)), .int (I 8 ((I 25 x1.toNatClampNeg).toNatClampNeg)), .int y6] ml_X11_280 cv_X1_pay dX11_promise_46 (lt2 hs) (kk2 hs) (by decide) rfl rfl rfl rfl (Nat.le_of_ble_eq_true rfl) (kqi hW (fun r15 I14 hW => ?_))
    refine J.if_ne 54 dX11_promise_49 (by decide) (fun hc16 => ?_) (fun hc16 => ?_)
    · have hW := hW.2 hc16
      refine J.aload_n dX11_promise_54 rfl rfl ?_
      refine J.getR (r := 30) fl_X11_283 rfl dX11_promise_55 (lt24 hs) (kk24 hs) (rr24_6 hs) ?_
      refine J.iload_n dX11_promise_58 rfl rfl ?_
      refine J.iload_n dX11_promise_59 rfl rfl ?_
      refine J.iast dX11_promise_60 (lt30 hs) (kk30 hs) hb5 ?_
      refine J.aload_n dX11_promise_61 rfl rfl ?_
      refine J.iload_n dX11_promise_62 rfl rfl ?_
      refine J.iconst (v := 1) dX11_promise_63 (by decide) ?_
      refine J.aload_n dX11_promise_64 rfl rfl ?_
      refine J.getR (r := 1) fl_X11_12 rfl dX11_promise_65 (lt0 hs) (kk0 hs) (rr0_0 hs) ?_
      refine J.getI (x := I14 1 0) fl_X11_85 rfl dX11_promise_68 (lt1 hs) (kk1 hs) rfl ?_
      refine J.callV (M' := mX4_stand) (index := 286) (bc := 0) (bs := 0) (bc' := 0) (bs' := 0) (st := []) [.int x1, .int 1, .int (I14 1 0)] ml_X11_286 cv_X4_stand dX11_promise_71 (lt24 hs) (kk24 hs) (by decide) rfl rfl rfl rfl (Nat.le_of_ble_eq_true rfl) (kqv hW (fun I17 hW => ?_))
      refine J.iconst (v := 1) dX11_promise_74 (by decide) ?_
      exact J.reti dX11_promise_75 rfl (bz_nar (Or.inr rfl)) hW
    · have hW := hW.1 hc16
      refine J.iconst (v := 0) dX11_promise_52 (by decide) ?_
      exact J.reti dX11_promise_53 rfl (bz_nar (Or.inl rfl)) hW
  · have hc4 := bI_0.mp hc4
    have hW := hW.2 hc4
    refine J.iconst (v := 0) dX11_promise_17 (by decide) ?_
    exact J.reti dX11_promise_18 rfl (bz_nar (Or.inl rfl)) hW
set_option maxRecDepth 100000 in
set_option maxHeartbeats 4000000 in
theorem w_X11_wed {E : Envt} {d : Nat} {Q : Pst} {h : mS} {I : mI} {L : mL} (hs : SL h) (x1 : Int32) 
    (hW : (((¬ (x1 < 0) ∧ (¬ ((I 24 0) ≤ x1))) → vp_in x1 30) ∧ ((((¬ (x1 < 0) ∧ (¬ ((I 24 0) ≤ x1))) ∧ ((I 27 x1.toNatClampNeg) = 1)) → (vp_in x1 30 ∧ (∀ y6 : Int32, y6 = I 25 x1.toNatClampNeg → (∀ y7 : Int32, y7 = I 26 x1.toNatClampNeg → (∀ y8 : Int32, y8 = (I 28 x1.toNatClampNeg) - (I 30 x1.toNatClampNeg) → ((vp_in x1 30) ∧ ((vp_in (I 25 x1.toNatClampNeg) 20) ∧ (∀ y13 : Int32, y13 = I 8 ((I 25 x1.toNatClampNeg).toNatClampNeg) → ((vp_in (I 26 x1.toNatClampNeg) 20) ∧ (∀ y17 : Int32, y17 = I 8 ((I 26 x1.toNatClampNeg).toNatClampNeg) → (CT E mX2_letsWed (d + 5) 0 0 [.ref (eB E + 63), .int y6, .int y7] h I L (qi h L fun r19 I18 => (((r19 = 0) → Q (some (.int 0)) h I18 L) ∧ (¬ (r19 = 0) → (CT E mX1_pay (d + 5) 0 0 [.ref (eB E + 2), .int y17, .int y13, .int y8] h I18 L (qi h L fun r22 I21 => (((r22 = 0) → Q (some (.int 0)) h I21 L) ∧ (¬ (r22 = 0) → (CT E mX0_customOf (d + 5) 0 0 [.ref (eB E + 1), .int y13] h I21 L (qt E h L fun t25 I24 => (CT E mX0_customOf (d + 5) 0 0 [.ref (eB E + 1), .int y17] h I24 L (qt E h L fun t27 I26 => (CT E mX4_keepDay (d + 5) 0 0 [.ref (eB E + 24), .int x1, .ref (eB E + 64), .ref (eB E + t25), .ref (eB E + t27)] h I26 L (gv fun h28 I29 L30 => SL h28 ∧ (CT E mX1_setFeud (d + 5) 0 0 [.ref (eB E + 2), .int y13, .int y17, .int 0] h28 (uI I29 30 x1.toNatClampNeg (I29 28 x1.toNatClampNeg)) L30 (qv h28 L30 fun I32 => (CT E mX11_closeMatch (d + 5) 0 0 [.ref (eB E + 0), .int x1, .int 2] h28 I32 L30 (qv h28 L30 fun I33 => (CT E mX7_marry (d + 5) 0 0 [.ref (eB E + 7), .int y6, .int y7] h28 I33 L30 (qv h28 L30 fun I34 => Q (some (.int 1)) h28 I34 L30)))))))))))))))))))))))))))))) ∧ (¬ ((¬ (x1 < 0) ∧ (¬ ((I 24 0) ≤ x1))) ∧ ((I 27 x1.toNatClampNeg) = 1)) → Q (some (.int 0)) h I L)))) :
    CT E mX11_wed (d + 6) 0 0 [.ref (eB E + 0), .int x1] h I L Q := by
  refine CT.of (by decide) [some (.ref (eB E + 0)), some (.int x1), none, none, none, none, none, none] rfl (Nat.le_of_ble_eq_true rfl) ?_
  refine J.aload_n dX11_wed_0 rfl rfl ?_
  refine J.getR (r := 1) fl_X11_12 rfl dX11_wed_1 (lt0 hs) (kk0 hs) (rr0_0 hs) ?_
  refine J.getR (r := 24) fl_X11_140 rfl dX11_wed_4 (lt1 hs) (kk1 hs) (rr1_4 hs) ?_
  refine J.astore_n (vs' := [some (.ref (eB E + 0)), some (.int x1), some (.ref (eB E + 24)), none, none, none, none, none]) dX11_wed_7 rfl (by decide) rfl ?_
  refine J.aload_n dX11_wed_8 rfl rfl ?_
  refine J.iload_n dX11_wed_9 rfl rfl ?_
  refine J.iconst (v := 1) dX11_wed_10 (by decide) ?_
  obtain ⟨hb1, hW⟩ := hW
  refine J.callV (M' := mX4_standsAs) (index := 271) (bc := 0) (bs := 0) (bc' := 0) (bs' := 0) (st := []) [.int x1, .int 1] ml_X11_271 cv_X4_standsAs dX11_wed_11 (lt24 hs) (kk24 hs) (by decide) rfl rfl rfl rfl (Nat.le_of_ble_eq_true rfl) (kqi (w_X4_standsAs (d := d + 4) (Q := qi h L (fun v I' => I' = I ∧ v = bI ((¬ (x1 < 0) ∧ (¬ ((I 24 0) ≤ x1))) ∧ ((I 27 x1.toNatClampNeg) = 1)))) hs x1 1 ⟨hb1, rfl, rfl, _, rfl, rfl, rfl⟩) (fun v2 I3 hv => ?_))
  rw [hv.1, hv.2]
  refine J.if_ne 19 dX11_wed_14 (by decide) (fun hc4 => ?_) (fun hc4 => ?_)
  · have hc4 := bI_n0.mp hc4
    have hW := hW.1 hc4
    refine J.aload_n dX11_wed_19 rfl rfl ?_
    refine J.getR (r := 25) fl_X11_289 rfl dX11_wed_20 (lt24 hs) (kk24 hs) (rr24_1 hs) ?_
    refine J.iload_n dX11_wed_23 rfl rfl ?_
    obtain ⟨hb5, hW⟩ := hW
    refine J.iald (x := I 25 x1.toNatClampNeg) dX11_wed_24 (lt25 hs) (kk25 hs) hb5 rfl ?_
    refine J.topi (fun y6 hyy6 => ?_)
    have hW := hW y6 hyy6
    refine J.istore_n (vs' := [some (.ref (eB E + 0)), some (.int x1), some (.ref (eB E + 24)), some (.int y6), none, none, none, none]) dX11_wed_25 rfl (by decide) rfl ?_
    refine J.aload_n dX11_wed_26 rfl rfl ?_
    refine J.getR (r := 26) fl_X11_292 rfl dX11_wed_27 (lt24 hs) (kk24 hs) (rr24_2 hs) ?_
    refine J.iload_n dX11_wed_30 rfl rfl ?_
    refine J.iald (x := I 26 x1.toNatClampNeg) dX11_wed_31 (lt26 hs) (kk26 hs) hb5 rfl ?_
    refine J.topi (fun y7 hyy7 => ?_)
    have hW := hW y7 hyy7
    refine J.istore (vs' := [some (.ref (eB E + 0)), some (.int x1), some (.ref (eB E + 24)), some (.int y6), some (.int y7), none, none, none]) dX11_wed_32 (by decide) rfl ?_
    refine J.aload_n dX11_wed_34 rfl rfl ?_
    refine J.getR (r := 28) fl_X11_261 rfl dX11_wed_35 (lt24 hs) (kk24 hs) (rr24_4 hs) ?_
    refine J.iload_n dX11_wed_38 rfl rfl ?_
    refine J.iald (x := I 28 x1.toNatClampNeg) dX11_wed_39 (lt28 hs) (kk28 hs) hb5 rfl ?_
    refine J.aload_n dX11_wed_40 rfl rfl ?_
    refine J.getR (r := 30) fl_X11_283 rfl dX11_wed_41 (lt24 hs) (kk24 hs) (rr24_6 hs) ?_
    refine J.iload_n dX11_wed_44 rfl rfl ?_
    refine J.iald (x := I 30 x1.toNatClampNeg) dX11_wed_45 (lt30 hs) (kk30 hs) hb5 rfl ?_
    refine J.isub dX11_wed_46 ?_
    refine J.topi (fun y8 hyy8 => ?_)
    have hW := hW y8 hyy8
    refine J.istore (vs' := [some (.ref (eB E + 0)), some (.int x1), some (.ref (eB E + 24)), some (.int y6), some (.int y7), some (.int y8), none, none]) dX11_wed_47 (by decide) rfl ?_
    refine J.aload_n dX11_wed_49 rfl rfl ?_
    refine J.iload_n dX11_wed_50 rfl rfl ?_
    obtain ⟨hb9, hW⟩ := hW
    obtain ⟨hb10, hW⟩ := hW
    refine J.callV (M' := mX11_herHouse) (index := 277) (bc := 0) (bs := 0) (bc' := 0) (bs' := 0) (st := []) [.int x1] ml_X11_277 cv_X11_herHouse dX11_wed_51 (lt0 hs) (kk0 hs) (by decide) rfl rfl rfl rfl (Nat.le_of_ble_eq_true rfl) (kqi (w_X11_herHouse (d := d + 5) (Q := qi h L (fun v I' => I' = I ∧ v = I 8 ((I 25 x1.toNatClampNeg).toNatClampNeg))) hs x1 ⟨hb9, hb10, rfl, rfl, _, rfl, rfl, rfl⟩) (fun v11 I12 hv => ?_))
    rw [hv.1, hv.2]
    refine J.topi (fun y13 hyy13 => ?_)
    have hW := hW y13 hyy13
    refine J.istore (vs' := [some (.ref (eB E + 0)), some (.int x1), some (.ref (eB E + 24)), some (.int y6), some (.int y7), some (.int y8), some (.int y13), none]) dX11_wed_54 (by decide) rfl ?_
    refine J.aload_n dX11_wed_56 rfl rfl ?_
    refine J.iload_n dX11_wed_57 rfl rfl ?_
    obtain ⟨hb14, hW⟩ := hW
    refine J.callV (M' := mX11_hisHouse) (index := 274) (bc := 0) (bs := 0) (bc' := 0) (bs' := 0) (st := []) [.int x1] ml_X11_274 cv_X11_hisHouse dX11_wed_58 (lt0 hs) (kk0 hs) (by decide) rfl rfl rfl rfl (Nat.le_of_ble_eq_true rfl) (kqi (w_X11_hisHouse (d := d + 5) (Q := qi h L (fun v I' => I' = I ∧ v = I 8 ((I 26 x1.toNatClampNeg).toNatClampNeg))) hs x1 ⟨hb9, hb14, rfl, rfl, _, rfl, rfl, rfl⟩) (fun v15 I16 hv => ?_))
    rw [hv.1, hv.2]
    refine J.topi (fun y17 hyy17 => ?_)
    have hW := hW y17 hyy17
    refine J.istore (vs' := [some (.ref (eB E + 0)), some (.int x1), some (.ref (eB E + 24)), some (.int y6), some (.int y7), some (.int y8), some (.int y13), some (.int y17)]) dX11_wed_61 (by decide) rfl ?_
    refine J.aload_n dX11_wed_63 rfl rfl ?_
    refine J.getR (r := 63) fl_X11_41 rfl dX11_wed_64 (lt0 hs) (kk0 hs) (rr0_4 hs) ?_
    refine J.iload_n dX11_wed_67 rfl rfl ?_
    refine J.iload dX11_wed_68 rfl ?_
    refine J.callV (M' := mX2_letsWed) (index := 249) (bc := 0) (bs := 0) (bc' := 0) (bs' := 0) (st := []) [.int y6, .int y7] ml_X11_249 cv_X2_letsWed dX11_wed_70 (lt63 hs) (kk63 hs) (by decide) rfl rfl rfl rfl (Nat.le_of_ble_eq_true rfl) (kqi hW (fun r19 I18 hW => ?_))
    refine J.if_eq 95 dX11_wed_73 (by decide) (fun hc20 => ?_) (fun hc20 => ?_)
    · have hW := hW.1 hc20
      refine J.iconst (v := 0) dX11_wed_95 (by decide) ?_
      exact J.reti dX11_wed_96 rfl (bz_nar (Or.inl rfl)) hW
    · have hW := hW.2 hc20
      refine J.aload_n dX11_wed_76 rfl rfl ?_
      refine J.getR (r := 1) fl_X11_12 rfl dX11_wed_77 (lt0 hs) (kk0 hs) (rr0_0 hs) ?_
      refine J.getR (r := 2) fl_X11_72 rfl dX11_wed_80 (lt1 hs) (kk1 hs) (rr1_1 hs) ?_
      refine J.iload dX11_wed_83 rfl ?_
      refine J.iload dX11_wed_85 rfl ?_
      refine J.iload dX11_wed_87 rfl ?_
      refine J.callV (M' := mX1_pay) (index := 280) (bc := 0) (bs := 0) (bc' := 0) (bs' := 0) (st := []) [.int y17, .int y13, .int y8] ml_X11_280 cv_X1_pay dX11_wed_89 (lt2 hs) (kk2 hs) (by decide) rfl rfl rfl rfl (Nat.le_of_ble_eq_true rfl) (kqi hW (fun r22 I21 hW => ?_))
      refine J.if_ne 97 dX11_wed_92 (by decide) (fun hc23 => ?_) (fun hc23 => ?_)
      · have hW := hW.2 hc23
        refine J.aload_n dX11_wed_97 rfl rfl ?_
        refine J.iload_n dX11_wed_98 rfl rfl ?_
        refine J.aload_n dX11_wed_99 rfl rfl ?_
        refine J.getR (r := 63) fl_X11_41 rfl dX11_wed_100 (lt0 hs) (kk0 hs) (rr0_4 hs) ?_
        refine J.getR (r := 64) fl_X11_295 rfl dX11_wed_103 (lt63 hs) (kk63 hs) (rr63_4 hs) ?_
        refine J.aload_n dX11_wed_106 rfl rfl ?_
        refine J.getR (r := 1) fl_X11_12 rfl dX11_wed_107 (lt0 hs) (kk0 hs) (rr0_0 hs) ?_
        refine J.iload dX11_wed_110 rfl ?_
        refine J.callV (M' := mX0_customOf) (index := 298) (bc := 0) (bs := 0) (bc' := 0) (bs' := 0) (st := [.ref (eB E + 64), .int x1, .ref (eB E + 24)]) [.int y13] ml_X11_298 cv_X0_customOf dX11_wed_112 (lt1 hs) (kk1 hs) (by decide) rfl rfl rfl rfl (Nat.le_of_ble_eq_true rfl) (kqt hW (fun t25 I24 hW => ?_))
        refine J.aload_n dX11_wed_115 rfl rfl ?_
        refine J.getR (r := 1) fl_X11_12 rfl dX11_wed_116 (lt0 hs) (kk0 hs) (rr0_0 hs) ?_
        refine J.iload dX11_wed_119 rfl ?_
        refine J.callV (M' := mX0_customOf) (index := 298) (bc := 0) (bs := 0) (bc' := 0) (bs' := 0) (st := [.ref (eB E + t25), .ref (eB E + 64), .int x1, .ref (eB E + 24)]) [.int y17] ml_X11_298 cv_X0_customOf dX11_wed_121 (lt1 hs) (kk1 hs) (by decide) rfl rfl rfl rfl (Nat.le_of_ble_eq_true rfl) (kqt hW (fun t27 I26 hW => ?_))
        refine J.callV (M' := mX4_keepDay) (index := 302) (bc := 0) (bs := 0) (bc' := 0) (bs' := 0) (st := []) [.int x1, .ref (eB E + 64), .ref (eB E + t25), .ref (eB E + t27)] ml_X11_302 cv_X4_keepDay dX11_wed_124 (lt24 hs) (kk24 hs) (by decide) rfl rfl rfl rfl (Nat.le_of_ble_eq_true rfl) (kgv hW (fun h28 I29 L30 hW => ?_))
        obtain ⟨hs31, hW⟩ := hW
        refine J.aload_n dX11_wed_127 rfl rfl ?_
        refine J.getR (r := 30) fl_X11_283 rfl dX11_wed_128 (lt24 hs31) (kk24 hs31) (rr24_6 hs31) ?_
        refine J.iload_n dX11_wed_131 rfl rfl ?_
        refine J.aload_n dX11_wed_132 rfl rfl ?_
        refine J.getR (r := 28) fl_X11_261 rfl dX11_wed_133 (lt24 hs31) (kk24 hs31) (rr24_4 hs31) ?_
        refine J.iload_n dX11_wed_136 rfl rfl ?_
        refine J.iald (x := I29 28 x1.toNatClampNeg) dX11_wed_137 (lt28 hs31) (kk28 hs31) hb5 rfl ?_
        refine J.iast dX11_wed_138 (lt30 hs31) (kk30 hs31) hb5 ?_
        refine J.aload_n dX11_wed_139 rfl rfl ?_
        refine J.getR (r := 1) fl_X11_12 rfl dX11_wed_140 (lt0 hs31) (kk0 hs31) (rr0_0 hs31) ?_
        refine J.getR (r := 2) fl_X11_72 rfl dX11_wed_143 (lt1 hs31) (kk1 hs31) (rr1_1 hs31) ?_
        refine J.iload dX11_wed_146 rfl ?_
        refine J.iload dX11_wed_148 rfl ?_
        refine J.iconst (v := 0) dX11_wed_150 (by decide) ?_
        refine J.callV (M' := mX1_setFeud) (index := 115) (bc := 0) (bs := 0) (bc' := 0) (bs' := 0) (st := []) [.int y13, .int y17, .int 0] ml_X11_115 cv_X1_setFeud dX11_wed_151 (lt2 hs31) (kk2 hs31) (by decide) rfl rfl rfl rfl (Nat.le_of_ble_eq_true rfl) (kqv hW (fun I32 hW => ?_))
        refine J.aload_n dX11_wed_154 rfl rfl ?_
        refine J.iload_n dX11_wed_155 rfl rfl ?_
        refine J.iconst (v := 2) dX11_wed_156 (by decide) ?_
        refine J.callV (M' := mX11_closeMatch) (index := 149) (bc := 0) (bs := 0) (bc' := 0) (bs' := 0) (st := []) [.int x1, .int 2] ml_X11_149 cv_X11_closeMatch dX11_wed_157 (lt0 hs31) (kk0 hs31) (by decide) rfl rfl rfl rfl (Nat.le_of_ble_eq_true rfl) (kqv hW (fun I33 hW => ?_))
        refine J.aload_n dX11_wed_160 rfl rfl ?_
        refine J.getR (r := 1) fl_X11_12 rfl dX11_wed_161 (lt0 hs31) (kk0 hs31) (rr0_0 hs31) ?_
        refine J.getR (r := 7) fl_X11_89 rfl dX11_wed_164 (lt1 hs31) (kk1 hs31) (rr1_2 hs31) ?_
        refine J.iload_n dX11_wed_167 rfl rfl ?_
        refine J.iload dX11_wed_168 rfl ?_
        refine J.callV (M' := mX7_marry) (index := 306) (bc := 0) (bs := 0) (bc' := 0) (bs' := 0) (st := []) [.int y6, .int y7] ml_X11_306 cv_X7_marry dX11_wed_170 (lt7 hs31) (kk7 hs31) (by decide) rfl rfl rfl rfl (Nat.le_of_ble_eq_true rfl) (kqv hW (fun I34 hW => ?_))
        refine J.iconst (v := 1) dX11_wed_173 (by decide) ?_
        exact J.reti dX11_wed_174 rfl (bz_nar (Or.inr rfl)) hW
      · have hW := hW.1 hc23
        refine J.iconst (v := 0) dX11_wed_95 (by decide) ?_
        exact J.reti dX11_wed_96 rfl (bz_nar (Or.inl rfl)) hW
  · have hc4 := bI_0.mp hc4
    have hW := hW.2 hc4
    refine J.iconst (v := 0) dX11_wed_17 (by decide) ?_
    exact J.reti dX11_wed_18 rfl (bz_nar (Or.inl rfl)) hW
set_option maxRecDepth 100000 in
set_option maxHeartbeats 4000000 in
theorem w_X11_breaks {E : Envt} {d : Nat} {Q : Pst} {h : mS} {I : mI} {L : mL} (hs : SL h) (x1 : Int32) (x2 : Int32) 
    (hW : (((¬ (x1 < 0) ∧ (¬ ((I 24 0) ≤ x1))) → vp_in x1 30) ∧ (((((¬ (x1 < 0) ∧ (¬ ((I 24 0) ≤ x1))) ∧ ((I 27 x1.toNatClampNeg) = 0)) ∨ ((¬ (x1 < 0) ∧ (¬ ((I 24 0) ≤ x1))) ∧ ((I 27 x1.toNatClampNeg) = 1))) → (((x2 = 0) → (CT E mX11_closeMatch (d + 2) 0 0 [.ref (eB E + 0), .int x1, .int 3] h I L (qv h L fun I6 => Q (some (.int 1)) h I6 L))) ∧ (¬ (x2 = 0) → (vp_in x1 30 ∧ ((((I 27 x1.toNatClampNeg) = 1) → (∀ y10 : Int32, y10 = I 30 x1.toNatClampNeg → (∀ y11 : Int32, y11 = y10 + ((y10 * (I 29 x1.toNatClampNeg)) / 100) → ((vp_in x1 30) ∧ ((vp_in (I 25 x1.toNatClampNeg) 20) ∧ ((vp_in (I 26 x1.toNatClampNeg) 20) ∧ (CT E mX1_pay (d + 2) 0 0 [.ref (eB E + 2), .int (I 8 ((I 25 x1.toNatClampNeg).toNatClampNeg)), .int (I 8 ((I 26 x1.toNatClampNeg).toNatClampNeg)), .int y11] h I L (qi h L fun r20 I19 => (((r20 = 0) → Q (some (.int 0)) h I19 L) ∧ (¬ (r20 = 0) → (CT E mX11_closeMatch (d + 2) 0 0 [.ref (eB E + 0), .int x1, .int 3] h (uI I19 30 x1.toNatClampNeg 0) L (qv h L fun I22 => Q (some (.int 1)) h I22 L)))))))))))) ∧ (¬ ((I 27 x1.toNatClampNeg) = 1) → (CT E mX11_closeMatch (d + 2) 0 0 [.ref (eB E + 0), .int x1, .int 3] h I L (qv h L fun I9 => Q (some (.int 1)) h I9 L)))))))) ∧ (¬ (((¬ (x1 < 0) ∧ (¬ ((I 24 0) ≤ x1))) ∧ ((I 27 x1.toNatClampNeg) = 0)) ∨ ((¬ (x1 < 0) ∧ (¬ ((I 24 0) ≤ x1))) ∧ ((I 27 x1.toNatClampNeg) = 1))) → Q (some (.int 0)) h I L)))) :
    CT E mX11_breaks (d + 3) 0 0 [.ref (eB E + 0), .int x1, .int x2] h I L Q := by
  refine CT.of (by decide) [some (.ref (eB E + 0)), some (.int x1), some (.int x2), none, none, none] rfl (Nat.le_of_ble_eq_true rfl) ?_
  refine J.aload_n dX11_breaks_0 rfl rfl ?_
  refine J.getR (r := 1) fl_X11_12 rfl dX11_breaks_1 (lt0 hs) (kk0 hs) (rr0_0 hs) ?_
  refine J.getR (r := 24) fl_X11_140 rfl dX11_breaks_4 (lt1 hs) (kk1 hs) (rr1_4 hs) ?_
  refine J.astore_n (vs' := [some (.ref (eB E + 0)), some (.int x1), some (.int x2), some (.ref (eB E + 24)), none, none]) dX11_breaks_7 rfl (by decide) rfl ?_
  refine J.aload_n dX11_breaks_8 rfl rfl ?_
  refine J.iload_n dX11_breaks_9 rfl rfl ?_
  obtain ⟨hb1, hW⟩ := hW
  refine J.callV (M' := mX4_isOpen) (index := 144) (bc := 0) (bs := 0) (bc' := 0) (bs' := 0) (st := []) [.int x1] ml_X11_144 cv_X4_isOpen dX11_breaks_10 (lt24 hs) (kk24 hs) (by decide) rfl rfl rfl rfl (Nat.le_of_ble_eq_true rfl) (kqi (w_X4_isOpen (d := d) (Q := qi h L (fun v I' => I' = I ∧ v = bI (((¬ (x1 < 0) ∧ (¬ ((I 24 0) ≤ x1))) ∧ ((I 27 x1.toNatClampNeg) = 0)) ∨ ((¬ (x1 < 0) ∧ (¬ ((I 24 0) ≤ x1))) ∧ ((I 27 x1.toNatClampNeg) = 1))))) hs x1 ⟨hb1, rfl, rfl, _, rfl, rfl, rfl⟩) (fun v2 I3 hv => ?_))
  rw [hv.1, hv.2]
  refine J.if_ne 18 dX11_breaks_13 (by decide) (fun hc4 => ?_) (fun hc4 => ?_)
  · have hc4 := bI_n0.mp hc4
    have hW := hW.1 hc4
    refine J.iload_n dX11_breaks_18 rfl rfl ?_
    refine J.if_eq 91 dX11_breaks_19 (by decide) (fun hc5 => ?_) (fun hc5 => ?_)
    · have hW := hW.1 hc5
      refine J.aload_n dX11_breaks_91 rfl rfl ?_
      refine J.iload_n dX11_breaks_92 rfl rfl ?_
      refine J.iconst (v := 3) dX11_breaks_93 (by decide) ?_
      refine J.callV (M' := mX11_closeMatch) (index := 149) (bc := 0) (bs := 0) (bc' := 0) (bs' := 0) (st := []) [.int x1, .int 3] ml_X11_149 cv_X11_closeMatch dX11_breaks_94 (lt0 hs) (kk0 hs) (by decide) rfl rfl rfl rfl (Nat.le_of_ble_eq_true rfl) (kqv hW (fun I6 hW => ?_))
      refine J.iconst (v := 1) dX11_breaks_97 (by decide) ?_
      exact J.reti dX11_breaks_98 rfl (bz_nar (Or.inr rfl)) hW
    · have hW := hW.2 hc5
      refine J.aload_n dX11_breaks_22 rfl rfl ?_
      refine J.getR (r := 27) fl_X11_309 rfl dX11_breaks_23 (lt24 hs) (kk24 hs) (rr24_3 hs) ?_
      refine J.iload_n dX11_breaks_26 rfl rfl ?_
      obtain ⟨hb7, hW⟩ := hW
      refine J.iald (x := I 27 x1.toNatClampNeg) dX11_breaks_27 (lt27 hs) (kk27 hs) hb7 rfl ?_
      refine J.iconst (v := 1) dX11_breaks_28 (by decide) ?_
      refine J.ic_ne 91 dX11_breaks_29 (by decide) (fun hc8 => ?_) (fun hc8 => ?_)
      · have hW := hW.2 hc8
        refine J.aload_n dX11_breaks_91 rfl rfl ?_
        refine J.iload_n dX11_breaks_92 rfl rfl ?_
        refine J.iconst (v := 3) dX11_breaks_93 (by decide) ?_
        refine J.callV (M' := mX11_closeMatch) (index := 149) (bc := 0) (bs := 0) (bc' := 0) (bs' := 0) (st := []) [.int x1, .int 3] ml_X11_149 cv_X11_closeMatch dX11_breaks_94 (lt0 hs) (kk0 hs) (by decide) rfl rfl rfl rfl (Nat.le_of_ble_eq_true rfl) (kqv hW (fun I9 hW => ?_))
        refine J.iconst (v := 1) dX11_breaks_97 (by decide) ?_
        exact J.reti dX11_breaks_98 rfl (bz_nar (Or.inr rfl)) hW
      · have hW := hW.1 hc8
        refine J.aload_n dX11_breaks_32 rfl rfl ?_
        refine J.getR (r := 30) fl_X11_283 rfl dX11_breaks_33 (lt24 hs) (kk24 hs) (rr24_6 hs) ?_
        refine J.iload_n dX11_breaks_36 rfl rfl ?_
        refine J.iald (x := I 30 x1.toNatClampNeg) dX11_breaks_37 (lt30 hs) (kk30 hs) hb7 rfl ?_
        refine J.topi (fun y10 hyy10 => ?_)
        have hW := hW y10 hyy10
        refine J.istore (vs' := [some (.ref (eB E + 0)), some (.int x1), some (.int x2), some (.ref (eB E + 24)), some (.int y10), none]) dX11_breaks_38 (by decide) rfl ?_
        refine J.iload dX11_breaks_40 rfl ?_
        refine J.iload dX11_breaks_42 rfl ?_
        refine J.aload_n dX11_breaks_44 rfl rfl ?_
        refine J.getR (r := 29) fl_X11_266 rfl dX11_breaks_45 (lt24 hs) (kk24 hs) (rr24_5 hs) ?_
        refine J.iload_n dX11_breaks_48 rfl rfl ?_
        refine J.iald (x := I 29 x1.toNatClampNeg) dX11_breaks_49 (lt29 hs) (kk29 hs) hb7 rfl ?_
        refine J.imul dX11_breaks_50 ?_
        refine J.bipush (v := 100) dX11_breaks_51 (by decide) ?_
        refine J.idiv dX11_breaks_53 (by decide) ?_
        refine J.iadd dX11_breaks_54 ?_
        refine J.topi (fun y11 hyy11 => ?_)
        have hW := hW y11 hyy11
        refine J.istore (vs' := [some (.ref (eB E + 0)), some (.int x1), some (.int x2), some (.ref (eB E + 24)), some (.int y10), some (.int y11)]) dX11_breaks_55 (by decide) rfl ?_
        refine J.aload_n dX11_breaks_57 rfl rfl ?_
        refine J.getR (r := 1) fl_X11_12 rfl dX11_breaks_58 (lt0 hs) (kk0 hs) (rr0_0 hs) ?_
        refine J.getR (r := 2) fl_X11_72 rfl dX11_breaks_61 (lt1 hs) (kk1 hs) (rr1_1 hs) ?_
        refine J.aload_n dX11_breaks_64 rfl rfl ?_
        refine J.iload_n dX11_breaks_65 rfl rfl ?_
        obtain ⟨hb12, hW⟩ := hW
        obtain ⟨hb13, hW⟩ := hW
        refine J.callV (M' := mX11_herHouse) (index := 277) (bc := 0) (bs := 0) (bc' := 0) (bs' := 0) (st := [.ref (eB E + 2)]) [.int x1] ml_X11_277 cv_X11_herHouse dX11_breaks_66 (lt0 hs) (kk0 hs) (by decide) rfl rfl rfl rfl (Nat.le_of_ble_eq_true rfl) (kqi (w_X11_herHouse (d := d + 2) (Q := qi h L (fun v I' => I' = I ∧ v = I 8 ((I 25 x1.toNatClampNeg).toNatClampNeg))) hs x1 ⟨hb12, hb13, rfl, rfl, _, rfl, rfl, rfl⟩) (fun v14 I15 hv => ?_))
        rw [hv.1, hv.2]
        refine J.aload_n dX11_breaks_69 rfl rfl ?_
        refine J.iload_n dX11_breaks_70 rfl rfl ?_
        obtain ⟨hb16, hW⟩ := hW
        refine J.callV (M' := mX11_hisHouse) (index := 274) (bc := 0) (bs := 0) (bc' := 0) (bs' := 0) (st := [.int (I 8 ((I 25 x1.toNatClampNeg).toNatClampNeg)), .ref (eB E + 2)]) [.int x1] ml_X11_274 cv_X11_hisHouse dX11_breaks_71 (lt0 hs) (kk0 hs) (by decide) rfl rfl rfl rfl (Nat.le_of_ble_eq_true rfl) (kqi (w_X11_hisHouse (d := d + 2) (Q := qi h L (fun v I' => I' = I ∧ v = I 8 ((I 26 x1.toNatClampNeg).toNatClampNeg))) hs x1 ⟨hb12, hb16, rfl, rfl, _, rfl, rfl, rfl⟩) (fun v17 I18 hv => ?_))
        rw [hv.1, hv.2]
        refine J.iload dX11_breaks_74 rfl ?_
        refine J.callV (M' := mX1_pay) (index := 280) (bc := 0) (bs := 0) (bc' := 0) (bs' := 0) (st := []) [.int (I 8 ((I 25 x1.toNatClampNeg).toNatClampNeg)), .int (I 8 ((I 26 x1.toNatClampNeg).toNatClampNeg)), .int y11] ml_X11_280 cv_X1_pay dX11_breaks_76 (lt2 hs) (kk2 hs) (by decide) rfl rfl rfl rfl (Nat.le_of_ble_eq_true rfl) (kqi hW (fun r20 I19 hW => ?_))
        refine J.if_ne 84 dX11_breaks_79 (by decide) (fun hc21 => ?_) (fun hc21 => ?_)
        · have hW := hW.2 hc21
          refine J.aload_n dX11_breaks_84 rfl rfl ?_
          refine J.getR (r := 30) fl_X11_283 rfl dX11_breaks_85 (lt24 hs) (kk24 hs) (rr24_6 hs) ?_
          refine J.iload_n dX11_breaks_88 rfl rfl ?_
          refine J.iconst (v := 0) dX11_breaks_89 (by decide) ?_
          refine J.iast dX11_breaks_90 (lt30 hs) (kk30 hs) hb7 ?_
          refine J.aload_n dX11_breaks_91 rfl rfl ?_
          refine J.iload_n dX11_breaks_92 rfl rfl ?_
          refine J.iconst (v := 3) dX11_breaks_93 (by decide) ?_
          refine J.callV (M' := mX11_closeMatch) (index := 149) (bc := 0) (bs := 0) (bc' := 0) (bs' := 0) (st := []) [.int x1, .int 3] ml_X11_149 cv_X11_closeMatch dX11_breaks_94 (lt0 hs) (kk0 hs) (by decide) rfl rfl rfl rfl (Nat.le_of_ble_eq_true rfl) (kqv hW (fun I22 hW => ?_))
          refine J.iconst (v := 1) dX11_breaks_97 (by decide) ?_
          exact J.reti dX11_breaks_98 rfl (bz_nar (Or.inr rfl)) hW
        · have hW := hW.1 hc21
          refine J.iconst (v := 0) dX11_breaks_82 (by decide) ?_
          exact J.reti dX11_breaks_83 rfl (bz_nar (Or.inl rfl)) hW
  · have hc4 := bI_0.mp hc4
    have hW := hW.2 hc4
    refine J.iconst (v := 0) dX11_breaks_16 (by decide) ?_
    exact J.reti dX11_breaks_17 rfl (bz_nar (Or.inl rfl)) hW
set_option maxRecDepth 100000 in
set_option maxHeartbeats 4000000 in
theorem w_X11_match {E : Envt} {d : Nat} {Q : Pst} {h : mS} {I : mI} {L : mL} (hs : SL h) (x1 : Int32) (x2 : Int32) 
    (hW : (((¬ (x1 < 0) ∧ (¬ ((I 24 0) ≤ x1))) → ((x2 = 0 → (vp_in x1 30 ∧ Q (some (.int (I 25 x1.toNatClampNeg))) h I L)) ∧ (x2 = 1 → (vp_in x1 30 ∧ Q (some (.int (I 26 x1.toNatClampNeg))) h I L)) ∧ (x2 = 2 → (vp_in x1 30 ∧ Q (some (.int (I 27 x1.toNatClampNeg))) h I L)) ∧ (x2 = 3 → (vp_in x1 30 ∧ Q (some (.int (I 28 x1.toNatClampNeg))) h I L)) ∧ (x2 = 4 → (vp_in x1 30 ∧ Q (some (.int (I 29 x1.toNatClampNeg))) h I L)) ∧ (x2 = 5 → (vp_in x1 30 ∧ Q (some (.int (I 30 x1.toNatClampNeg))) h I L)) ∧ (x2 = 6 → (vp_in x1 30 ∧ Q (some (.int (I 31 x1.toNatClampNeg))) h I L)) ∧ (x2 = 7 → (vp_in x1 30 ∧ Q (some (.int (I 32 x1.toNatClampNeg))) h I L)) ∧ (x2 = 8 → (CT E mX2_isLate (d + 5) 0 0 [.ref (eB E + 63), .int x1] h I L (qi h L fun r13 I12 => Q (some (.int (bI (¬ (r13 = 0))))) h I12 L))) ∧ (¬ x2 = 0 → ¬ x2 = 1 → ¬ x2 = 2 → ¬ x2 = 3 → ¬ x2 = 4 → ¬ x2 = 5 → ¬ x2 = 6 → ¬ x2 = 7 → ¬ x2 = 8 → Q (some (.int (-1))) h I L))) ∧ (¬ (¬ (x1 < 0) ∧ (¬ ((I 24 0) ≤ x1))) → Q (some (.int (-1))) h I L))) :
    CT E mX11_match (d + 6) 0 0 [.ref (eB E + 0), .int x1, .int x2] h I L Q := by
  refine CT.of (by decide) [some (.ref (eB E + 0)), some (.int x1), some (.int x2), none] rfl (Nat.le_of_ble_eq_true rfl) ?_
  refine J.aload_n dX11_match_0 rfl rfl ?_
  refine J.getR (r := 1) fl_X11_12 rfl dX11_match_1 (lt0 hs) (kk0 hs) (rr0_0 hs) ?_
  refine J.getR (r := 24) fl_X11_140 rfl dX11_match_4 (lt1 hs) (kk1 hs) (rr1_4 hs) ?_
  refine J.astore_n (vs' := [some (.ref (eB E + 0)), some (.int x1), some (.int x2), some (.ref (eB E + 24))]) dX11_match_7 rfl (by decide) rfl ?_
  refine J.aload_n dX11_match_8 rfl rfl ?_
  refine J.iload_n dX11_match_9 rfl rfl ?_
  refine J.callV (M' := mX4_has) (index := 312) (bc := 0) (bs := 0) (bc' := 0) (bs' := 0) (st := []) [.int x1] ml_X11_312 cv_X4_has dX11_match_10 (lt24 hs) (kk24 hs) (by decide) rfl rfl rfl rfl (Nat.le_of_ble_eq_true rfl) (kqi (w_X4_has (d := d + 5) (Q := qi h L (fun v I' => I' = I ∧ v = bI (¬ (x1 < 0) ∧ (¬ ((I 24 0) ≤ x1))))) hs x1 ⟨rfl, rfl, _, rfl, rfl, rfl⟩) (fun v1 I2 hv => ?_))
  rw [hv.1, hv.2]
  refine J.if_ne 18 dX11_match_13 (by decide) (fun hc3 => ?_) (fun hc3 => ?_)
  · have hc3 := bI_n0.mp hc3
    have hW := hW.1 hc3
    refine J.iload_n dX11_match_18 rfl rfl ?_
    by_cases hk16 : x2 = 0
    · have hW := hW.1 hk16
      refine J.tableIn (off := 49) 68 dX11_match_19 (by rw [hk16] <;> decide) (by rw [hk16] <;> decide) (by rw [hk16] <;> rfl) (by decide) ?_
      refine J.aload_n dX11_match_68 rfl rfl ?_
      refine J.getR (r := 25) fl_X11_289 rfl dX11_match_69 (lt24 hs) (kk24 hs) (rr24_1 hs) ?_
      refine J.iload_n dX11_match_72 rfl rfl ?_
      obtain ⟨hb4, hW⟩ := hW
      refine J.iald (x := I 25 x1.toNatClampNeg) dX11_match_73 (lt25 hs) (kk25 hs) hb4 rfl ?_
      exact J.reti dX11_match_74 rfl rfl hW
    by_cases hk17 : x2 = 1
    · have hW := hW.2.1 hk17
      refine J.tableIn (off := 56) 75 dX11_match_19 (by rw [hk17] <;> decide) (by rw [hk17] <;> decide) (by rw [hk17] <;> rfl) (by decide) ?_
      refine J.aload_n dX11_match_75 rfl rfl ?_
      refine J.getR (r := 26) fl_X11_292 rfl dX11_match_76 (lt24 hs) (kk24 hs) (rr24_2 hs) ?_
      refine J.iload_n dX11_match_79 rfl rfl ?_
      obtain ⟨hb5, hW⟩ := hW
      refine J.iald (x := I 26 x1.toNatClampNeg) dX11_match_80 (lt26 hs) (kk26 hs) hb5 rfl ?_
      exact J.reti dX11_match_81 rfl rfl hW
    by_cases hk18 : x2 = 2
    · have hW := hW.2.2.1 hk18
      refine J.tableIn (off := 63) 82 dX11_match_19 (by rw [hk18] <;> decide) (by rw [hk18] <;> decide) (by rw [hk18] <;> rfl) (by decide) ?_
      refine J.aload_n dX11_match_82 rfl rfl ?_
      refine J.getR (r := 27) fl_X11_309 rfl dX11_match_83 (lt24 hs) (kk24 hs) (rr24_3 hs) ?_
      refine J.iload_n dX11_match_86 rfl rfl ?_
      obtain ⟨hb6, hW⟩ := hW
      refine J.iald (x := I 27 x1.toNatClampNeg) dX11_match_87 (lt27 hs) (kk27 hs) hb6 rfl ?_
      exact J.reti dX11_match_88 rfl rfl hW
    by_cases hk19 : x2 = 3
    · have hW := hW.2.2.2.1 hk19
      refine J.tableIn (off := 70) 89 dX11_match_19 (by rw [hk19] <;> decide) (by rw [hk19] <;> decide) (by rw [hk19] <;> rfl) (by decide) ?_
      refine J.aload_n dX11_match_89 rfl rfl ?_
      refine J.getR (r := 28) fl_X11_261 rfl dX11_match_90 (lt24 hs) (kk24 hs) (rr24_4 hs) ?_
      refine J.iload_n dX11_match_93 rfl rfl ?_
      obtain ⟨hb7, hW⟩ := hW
      refine J.iald (x := I 28 x1.toNatClampNeg) dX11_match_94 (lt28 hs) (kk28 hs) hb7 rfl ?_
      exact J.reti dX11_match_95 rfl rfl hW
    by_cases hk20 : x2 = 4
    · have hW := hW.2.2.2.2.1 hk20
      refine J.tableIn (off := 77) 96 dX11_match_19 (by rw [hk20] <;> decide) (by rw [hk20] <;> decide) (by rw [hk20] <;> rfl) (by decide) ?_
      refine J.aload_n dX11_match_96 rfl rfl ?_
      refine J.getR (r := 29) fl_X11_266 rfl dX11_match_97 (lt24 hs) (kk24 hs) (rr24_5 hs) ?_
      refine J.iload_n dX11_match_100 rfl rfl ?_
      obtain ⟨hb8, hW⟩ := hW
      refine J.iald (x := I 29 x1.toNatClampNeg) dX11_match_101 (lt29 hs) (kk29 hs) hb8 rfl ?_
      exact J.reti dX11_match_102 rfl rfl hW
    by_cases hk21 : x2 = 5
    · have hW := hW.2.2.2.2.2.1 hk21
      refine J.tableIn (off := 84) 103 dX11_match_19 (by rw [hk21] <;> decide) (by rw [hk21] <;> decide) (by rw [hk21] <;> rfl) (by decide) ?_
      refine J.aload_n dX11_match_103 rfl rfl ?_
      refine J.getR (r := 30) fl_X11_283 rfl dX11_match_104 (lt24 hs) (kk24 hs) (rr24_6 hs) ?_
      refine J.iload_n dX11_match_107 rfl rfl ?_
      obtain ⟨hb9, hW⟩ := hW
      refine J.iald (x := I 30 x1.toNatClampNeg) dX11_match_108 (lt30 hs) (kk30 hs) hb9 rfl ?_
      exact J.reti dX11_match_109 rfl rfl hW
    by_cases hk22 : x2 = 6
    · have hW := hW.2.2.2.2.2.2.1 hk22
      refine J.tableIn (off := 91) 110 dX11_match_19 (by rw [hk22] <;> decide) (by rw [hk22] <;> decide) (by rw [hk22] <;> rfl) (by decide) ?_
      refine J.aload_n dX11_match_110 rfl rfl ?_
      refine J.getR (r := 31) fl_X11_313 rfl dX11_match_111 (lt24 hs) (kk24 hs) (rr24_7 hs) ?_
      refine J.iload_n dX11_match_114 rfl rfl ?_
      obtain ⟨hb10, hW⟩ := hW
      refine J.iald (x := I 31 x1.toNatClampNeg) dX11_match_115 (lt31 hs) (kk31 hs) hb10 rfl ?_
      exact J.reti dX11_match_116 rfl rfl hW
    by_cases hk23 : x2 = 7
    · have hW := hW.2.2.2.2.2.2.2.1 hk23
      refine J.tableIn (off := 98) 117 dX11_match_19 (by rw [hk23] <;> decide) (by rw [hk23] <;> decide) (by rw [hk23] <;> rfl) (by decide) ?_
      refine J.aload_n dX11_match_117 rfl rfl ?_
      refine J.getR (r := 32) fl_X11_316 rfl dX11_match_118 (lt24 hs) (kk24 hs) (rr24_8 hs) ?_
      refine J.iload_n dX11_match_121 rfl rfl ?_
      obtain ⟨hb11, hW⟩ := hW
      refine J.iald (x := I 32 x1.toNatClampNeg) dX11_match_122 (lt32 hs) (kk32 hs) hb11 rfl ?_
      exact J.reti dX11_match_123 rfl rfl hW
    by_cases hk24 : x2 = 8
    · have hW := hW.2.2.2.2.2.2.2.2.1 hk24
      refine J.tableIn (off := 105) 124 dX11_match_19 (by rw [hk24] <;> decide) (by rw [hk24] <;> decide) (by rw [hk24] <;> rfl) (by decide) ?_
      refine J.aload_n dX11_match_124 rfl rfl ?_
      refine J.getR (r := 63) fl_X11_41 rfl dX11_match_125 (lt0 hs) (kk0 hs) (rr0_4 hs) ?_
      refine J.iload_n dX11_match_128 rfl rfl ?_
      refine J.callV (M' := mX2_isLate) (index := 319) (bc := 0) (bs := 0) (bc' := 0) (bs' := 0) (st := []) [.int x1] ml_X11_319 cv_X2_isLate dX11_match_129 (lt63 hs) (kk63 hs) (by decide) rfl rfl rfl rfl (Nat.le_of_ble_eq_true rfl) (kqi hW (fun r13 I12 hW => ?_))
      refine J.callS (M' := mX11_bit) (index := 177) (bc := 0) (bs := 0) (bc' := 0) (bs' := 0) (st := []) [.int r13] ml_X11_177 cv_X11_bit dX11_match_132 rfl rfl (Nat.le_of_ble_eq_true rfl) (kqi (w_X11_bit (d := d + 5) (Q := qi h L (fun v I' => I' = I12 ∧ v = bI (¬ (r13 = 0)))) hs r13 ⟨rfl, rfl, _, rfl, rfl, rfl⟩) (fun v14 I15 hv => ?_))
      rw [hv.1, hv.2]
      exact J.reti dX11_match_135 rfl rfl hW
    have hW := hW.2.2.2.2.2.2.2.2.2 hk16 hk17 hk18 hk19 hk20 hk21 hk22 hk23 hk24
    refine J.tableOut 136 dX11_match_19 (by have := toInt_ne (k := 0) (by decide) hk16; have := toInt_ne (k := 1) (by decide) hk17; have := toInt_ne (k := 2) (by decide) hk18; have := toInt_ne (k := 3) (by decide) hk19; have := toInt_ne (k := 4) (by decide) hk20; have := toInt_ne (k := 5) (by decide) hk21; have := toInt_ne (k := 6) (by decide) hk22; have := toInt_ne (k := 7) (by decide) hk23; have := toInt_ne (k := 8) (by decide) hk24; omega) (by decide) ?_
    refine J.iconst (v := (-1)) dX11_match_136 (by decide) ?_
    exact J.reti dX11_match_137 rfl rfl hW
  · have hc3 := bI_0.mp hc3
    have hW := hW.2 hc3
    refine J.iconst (v := (-1)) dX11_match_16 (by decide) ?_
    exact J.reti dX11_match_17 rfl rfl hW
