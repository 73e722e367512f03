set_option maxRecDepth 100000 in
set_option maxHeartbeats 4000000 in
theorem w_X12_image {E : Envt} {d : Nat} {Q : Pst} {h : mS} {I : mI} {L : mL} (hs : SL h) (x1 : Int32) 
    (hW : (((¬ (x1 < 0) ∧ (¬ (2 < x1))) → (CT E mX12_copy (d + 2) 0 0 [.ref (eB E + 83), .int 0, .int (x1 + 1)] h (uI I 83 0 0) L (qv h L fun I4 => (vp_in x1 3 ∧ Q (some (.int 1)) h (uI I4 146 x1.toNatClampNeg 1) L)))) ∧ (¬ (¬ (x1 < 0) ∧ (¬ (2 < x1))) → Q (some (.int 0)) h (uI I 83 0 0) L))) :
    CT E mX12_image (d + 3) 0 0 [.ref (eB E + 83), .int x1] h I L Q := by
  refine CT.of (by decide) [some (.ref (eB E + 83)), some (.int x1)] rfl (Nat.le_of_ble_eq_true rfl) ?_
  refine J.aload_n dX12_image_0 rfl rfl ?_
  refine J.iconst (v := 0) dX12_image_1 (by decide) ?_
  refine J.putI fw_X12_202 rfl dX12_image_2 (lt83 hs) (kk83 hs) ?_
  refine J.iload_n dX12_image_5 rfl rfl ?_
  refine J.iconst (v := 0) dX12_image_6 (by decide) ?_
  refine J.iconst (v := 2) dX12_image_7 (by decide) ?_
  refine J.callS (M' := mX12_in) (index := 218) (bc := 0) (bs := 0) (bc' := 0) (bs' := 0) (st := []) [.int x1, .int 0, .int 2] ml_X12_218 cv_X12_in dX12_image_8 rfl rfl (Nat.le_of_ble_eq_true rfl) (kqi (w_X12_in (d := d + 2) (Q := qi h L (fun v I' => I' = (uI I 83 0 0) ∧ v = bI (¬ (x1 < 0) ∧ (¬ (2 < x1))))) hs x1 0 2 ⟨rfl, rfl, _, rfl, rfl, rfl⟩) (fun v1 I2 hv => ?_))
  rw [hv.1, hv.2]
  refine J.if_ne 16 dX12_image_11 (by decide) (fun hc3 => ?_) (fun hc3 => ?_)
  · have hc3 := bI_n0.mp hc3
    have hW := hW.1 hc3
    refine J.aload_n dX12_image_16 rfl rfl ?_
    refine J.iconst (v := 0) dX12_image_17 (by decide) ?_
    refine J.iload_n dX12_image_18 rfl rfl ?_
    refine J.iconst (v := 1) dX12_image_19 (by decide) ?_
    refine J.iadd dX12_image_20 ?_
    refine J.callV (M' := mX12_copy) (index := 493) (bc := 0) (bs := 0) (bc' := 0) (bs' := 0) (st := []) [.int 0, .int (x1 + 1)] ml_X12_493 cv_X12_copy dX12_image_21 (lt83 hs) (kk83 hs) (by decide) rfl rfl rfl rfl (Nat.le_of_ble_eq_true rfl) (kqv hW (fun I4 hW => ?_))
    refine J.aload_n dX12_image_24 rfl rfl ?_
    refine J.getR (r := 146) fl_X12_199 rfl dX12_image_25 (lt83 hs) (kk83 hs) (rr83_82 hs) ?_
    refine J.iload_n dX12_image_28 rfl rfl ?_
    refine J.iconst (v := 1) dX12_image_29 (by decide) ?_
    obtain ⟨hb5, hW⟩ := hW
    refine J.zast dX12_image_30 (lt146 hs) (kk146 hs) hb5 (Or.inr rfl) ?_
    refine J.iconst (v := 1) dX12_image_31 (by decide) ?_
    exact J.reti dX12_image_32 rfl (bz_nar (Or.inr rfl)) hW
  · have hc3 := bI_0.mp hc3
    have hW := hW.2 hc3
    refine J.iconst (v := 0) dX12_image_14 (by decide) ?_
    exact J.reti dX12_image_15 rfl (bz_nar (Or.inl rfl)) hW
set_option maxRecDepth 100000 in
set_option maxHeartbeats 4000000 in
theorem w_X12_again {E : Envt} {d : Nat} {Q : Pst} {h : mS} {I : mI} {L : mL} (hs : SL h) (x1 : Int32) 
    (hW : (((¬ (x1 < 0) ∧ (¬ (2 < x1))) → (vp_in x1 3 ∧ ((((I 146 x1.toNatClampNeg) = 0) → Q (some (.int 0)) h (uI I 83 0 0) L) ∧ (¬ ((I 146 x1.toNatClampNeg) = 0) → (CT E mX12_copy (d + 2) 0 0 [.ref (eB E + 83), .int (x1 + 1), .int 0] h (uI I 83 0 0) L (qv h L fun I6 => Q (some (.int 1)) h I6 L)))))) ∧ (¬ (¬ (x1 < 0) ∧ (¬ (2 < x1))) → Q (some (.int 0)) h (uI I 83 0 0) L))) :
    CT E mX12_again (d + 3) 0 0 [.ref (eB E + 83), .int x1] h I L Q := by
  refine CT.of (by decide) [some (.ref (eB E + 83)), some (.int x1)] rfl (Nat.le_of_ble_eq_true rfl) ?_
  refine J.aload_n dX12_again_0 rfl rfl ?_
  refine J.iconst (v := 0) dX12_again_1 (by decide) ?_
  refine J.putI fw_X12_202 rfl dX12_again_2 (lt83 hs) (kk83 hs) ?_
  refine J.iload_n dX12_again_5 rfl rfl ?_
  refine J.iconst (v := 0) dX12_again_6 (by decide) ?_
  refine J.iconst (v := 2) dX12_again_7 (by decide) ?_
  refine J.callS (M' := mX12_in) (index := 218) (bc := 0) (bs := 0) (bc' := 0) (bs' := 0) (st := []) [.int x1, .int 0, .int 2] ml_X12_218 cv_X12_in dX12_again_8 rfl rfl (Nat.le_of_ble_eq_true rfl) (kqi (w_X12_in (d := d + 2) (Q := qi h L (fun v I' => I' = (uI I 83 0 0) ∧ v = bI (¬ (x1 < 0) ∧ (¬ (2 < x1))))) hs x1 0 2 ⟨rfl, rfl, _, rfl, rfl, rfl⟩) (fun v1 I2 hv => ?_))
  rw [hv.1, hv.2]
  refine J.if_eq 23 dX12_again_11 (by decide) (fun hc3 => ?_) (fun hc3 => ?_)
  · have hc3 := bI_0.mp hc3
    have hW := hW.2 hc3
    refine J.iconst (v := 0) dX12_again_23 (by decide) ?_
    exact J.reti dX12_again_24 rfl (bz_nar (Or.inl rfl)) hW
  · have hc3 := bI_n0.mp hc3
    have hW := hW.1 hc3
    refine J.aload_n dX12_again_14 rfl rfl ?_
    refine J.getR (r := 146) fl_X12_199 rfl dX12_again_15 (lt83 hs) (kk83 hs) (rr83_82 hs) ?_
    refine J.iload_n dX12_again_18 rfl rfl ?_
    obtain ⟨hb4, hW⟩ := hW
    refine J.zald (x := I 146 x1.toNatClampNeg) dX12_again_19 (lt146 hs) (kk146 hs) hb4 rfl ?_
    refine J.if_ne 25 dX12_again_20 (by decide) (fun hc5 => ?_) (fun hc5 => ?_)
    · have hW := hW.2 hc5
      refine J.aload_n dX12_again_25 rfl rfl ?_
      refine J.iload_n dX12_again_26 rfl rfl ?_
      refine J.iconst (v := 1) dX12_again_27 (by decide) ?_
      refine J.iadd dX12_again_28 ?_
      refine J.iconst (v := 0) dX12_again_29 (by decide) ?_
      refine J.callV (M' := mX12_copy) (index := 493) (bc := 0) (bs := 0) (bc' := 0) (bs' := 0) (st := []) [.int (x1 + 1), .int 0] ml_X12_493 cv_X12_copy dX12_again_30 (lt83 hs) (kk83 hs) (by decide) rfl rfl rfl rfl (Nat.le_of_ble_eq_true rfl) (kqv hW (fun I6 hW => ?_))
      refine J.iconst (v := 1) dX12_again_33 (by decide) ?_
      exact J.reti dX12_again_34 rfl (bz_nar (Or.inr rfl)) hW
    · have hW := hW.1 hc5
      refine J.iconst (v := 0) dX12_again_23 (by decide) ?_
      exact J.reti dX12_again_24 rfl (bz_nar (Or.inl rfl)) hW
