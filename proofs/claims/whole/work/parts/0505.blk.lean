set_option maxRecDepth 100000 in
set_option maxHeartbeats 4000000 in
theorem w_X7_isFree {E : Envt} {d : Nat} {Q : Pst} {h : mS} {I : mI} {L : mL} (hs : SL h) (x1 : Int32) 
    (hW : (vp_in x1 20 ∧ Q (some (.int (bI (¬ ((I 14 x1.toNatClampNeg) = 0) ∧ (((I 12 x1.toNatClampNeg) = (-1)) ∧ ((I 13 x1.toNatClampNeg) = (-1))))))) h I L)) :
    CT E mX7_isFree d 0 0 [.ref (eB E + 7), .int x1] h I L Q := by
  refine CT.of (by decide) [some (.ref (eB E + 7)), some (.int x1)] rfl (Nat.le_of_ble_eq_true rfl) ?_
  refine J.aload_n dX7_isFree_0 rfl rfl ?_
  refine J.getR (r := 14) fl_X7_30 rfl dX7_isFree_1 (lt7 hs) (kk7 hs) (rr7_7 hs) ?_
  refine J.iload_n dX7_isFree_4 rfl rfl ?_
  obtain ⟨hb1, hW⟩ := hW
  refine J.zald (x := I 14 x1.toNatClampNeg) dX7_isFree_5 (lt14 hs) (kk14 hs) hb1 rfl ?_
  have hj : J E mX7_isFree d Q 0 0 34 [some (.ref (eB E + 7)), some (.int x1)] [.int (bI (¬ ((I 14 x1.toNatClampNeg) = 0) ∧ (((I 12 x1.toNatClampNeg) = (-1)) ∧ ((I 13 x1.toNatClampNeg) = (-1)))))] h I L := by
    exact J.reti dX7_isFree_34 rfl (bz_nar (bI_bz _)) hW
  refine J.if_eq 33 dX7_isFree_6 (by decide) (fun hc2 => ?_) (fun hc2 => ?_)
  · refine J.iconst (v := 0) dX7_isFree_33 (by decide) ?_
    rw [show bI (¬ ((I 14 x1.toNatClampNeg) = 0) ∧ (((I 12 x1.toNatClampNeg) = (-1)) ∧ ((I 13 x1.toNatClampNeg) = (-1)))) = 0 from bI_f (by simp only [eq_true hc2, and_true, true_and, and_false, false_and, or_true, true_or, or_false, false_or, not_true_eq_false, not_false_eq_true])] at hj
    exact hj
  · refine J.aload_n dX7_isFree_9 rfl rfl ?_
    refine J.getR (r := 12) fl_X7_24 rfl dX7_isFree_10 (lt7 hs) (kk7 hs) (rr7_5 hs) ?_
    refine J.iload_n dX7_isFree_13 rfl rfl ?_
    refine J.iald (x := I 12 x1.toNatClampNeg) dX7_isFree_14 (lt12 hs) (kk12 hs) hb1 rfl ?_
    refine J.iconst (v := (-1)) dX7_isFree_15 (by decide) ?_
    refine J.ic_ne 33 dX7_isFree_16 (by decide) (fun hc3 => ?_) (fun hc3 => ?_)
    · refine J.iconst (v := 0) dX7_isFree_33 (by decide) ?_
      rw [show bI (¬ ((I 14 x1.toNatClampNeg) = 0) ∧ (((I 12 x1.toNatClampNeg) = (-1)) ∧ ((I 13 x1.toNatClampNeg) = (-1)))) = 0 from bI_f (by simp only [eq_false hc2, eq_false hc3, and_true, true_and, and_false, false_and, or_true, true_or, or_false, false_or, not_true_eq_false, not_false_eq_true])] at hj
      exact hj
    · refine J.aload_n dX7_isFree_19 rfl rfl ?_
      refine J.getR (r := 13) fl_X7_27 rfl dX7_isFree_20 (lt7 hs) (kk7 hs) (rr7_6 hs) ?_
      refine J.iload_n dX7_isFree_23 rfl rfl ?_
      refine J.iald (x := I 13 x1.toNatClampNeg) dX7_isFree_24 (lt13 hs) (kk13 hs) hb1 rfl ?_
      refine J.iconst (v := (-1)) dX7_isFree_25 (by decide) ?_
      refine J.ic_ne 33 dX7_isFree_26 (by decide) (fun hc4 => ?_) (fun hc4 => ?_)
      · refine J.iconst (v := 0) dX7_isFree_33 (by decide) ?_
        rw [show bI (¬ ((I 14 x1.toNatClampNeg) = 0) ∧ (((I 12 x1.toNatClampNeg) = (-1)) ∧ ((I 13 x1.toNatClampNeg) = (-1)))) = 0 from bI_f (by simp only [eq_false hc2, eq_true hc3, eq_false hc4, and_true, true_and, and_false, false_and, or_true, true_or, or_false, false_or, not_true_eq_false, not_false_eq_true])] at hj
        exact hj
      · refine J.iconst (v := 1) dX7_isFree_29 (by decide) ?_
        refine J.goto 34 dX7_isFree_30 (by decide) ?_
        rw [show bI (¬ ((I 14 x1.toNatClampNeg) = 0) ∧ (((I 12 x1.toNatClampNeg) = (-1)) ∧ ((I 13 x1.toNatClampNeg) = (-1)))) = 1 from bI_t (by simp only [eq_false hc2, eq_true hc3, eq_true hc4, and_true, true_and, and_false, false_and, or_true, true_or, or_false, false_or, not_true_eq_false, not_false_eq_true])] at hj
        exact hj
set_option maxRecDepth 100000 in
set_option maxHeartbeats 4000000 in
theorem w_X6_pick {E : Envt} {d : Nat} {Q : Pst} {h : mS} {I : mI} {L : mL} (hs : SL h) (x1 : Int32) {a2 n2 : Nat} (hl2 : a2 < h.2.2) (hk2 : h.1 a2 = (14, n2))
    (hW : J E mX6_pick (d + 1) Q 0 0 5 [some (.ref (eB E + 65)), some (.int x1), some (.ref (eB E + a2)), some (.int 0), some (.int 0)] [] h I L) :
    CT E mX6_pick (d + 1) 0 0 [.ref (eB E + 65), .int x1, .ref (eB E + a2)] h I L Q := by
  refine CT.of (by decide) [some (.ref (eB E + 65)), some (.int x1), some (.ref (eB E + a2)), none, none] rfl (Nat.le_of_ble_eq_true rfl) ?_
  refine J.iconst (v := 0) dX6_pick_0 (by decide) ?_
  refine J.istore_n (vs' := [some (.ref (eB E + 65)), some (.int x1), some (.ref (eB E + a2)), some (.int 0), none]) dX6_pick_1 rfl (by decide) rfl ?_
  refine J.iconst (v := 0) dX6_pick_2 (by decide) ?_
  refine J.istore (vs' := [some (.ref (eB E + 65)), some (.int x1), some (.ref (eB E + a2)), some (.int 0), some (.int 0)]) dX6_pick_3 (by decide) rfl ?_
  exact hW
set_option maxRecDepth 100000 in
set_option maxHeartbeats 4000000 in
theorem w_X6_pick_5 {E : Envt} {d : Nat} {Q : Pst} {h : mS} {I : mI} {L : mL} (hs : SL h) {a2 n2 : Nat} (hl2 : a2 < h.2.2) (hk2 : h.1 a2 = (14, n2))  (x1 : Int32) (x3 : Int32) (x4 : Int32)
    (hW : ((((I 7 0) ≤ x4) → Q (some (.int x3)) h I L) ∧ (¬ ((I 7 0) ≤ x4) → (((8 ≤ x3) → Q (some (.int x3)) h I L) ∧ (¬ (8 ≤ x3) → (vp_in x4 20 ∧ ((((I 9 x4.toNatClampNeg) = x1) → ((vp_in x4 20) ∧ (((¬ ((I 14 x4.toNatClampNeg) = 0) ∧ (((I 12 x4.toNatClampNeg) = (-1)) ∧ ((I 13 x4.toNatClampNeg) = (-1)))) → (vp_in x3 n2 ∧ J E mX6_pick (d + 1) Q 0 0 5 [some (.ref (eB E + 65)), some (.int x1), some (.ref (eB E + a2)), some (.int (x3 + 1)), some (.int (x4 + 1))] [] h (uI I a2 x3.toNatClampNeg x4) L)) ∧ (¬ (¬ ((I 14 x4.toNatClampNeg) = 0) ∧ (((I 12 x4.toNatClampNeg) = (-1)) ∧ ((I 13 x4.toNatClampNeg) = (-1)))) → J E mX6_pick (d + 1) Q 0 0 5 [some (.ref (eB E + 65)), some (.int x1), some (.ref (eB E + a2)), some (.int x3), some (.int (x4 + 1))] [] h I L)))) ∧ (¬ ((I 9 x4.toNatClampNeg) = x1) → J E mX6_pick (d + 1) Q 0 0 5 [some (.ref (eB E + 65)), some (.int x1), some (.ref (eB E + a2)), some (.int x3), some (.int (x4 + 1))] [] h I L)))))))) :
    J E mX6_pick (d + 1) Q 0 0 5 [some (.ref (eB E + 65)), some (.int x1), some (.ref (eB E + a2)), some (.int x3), some (.int x4)] [] h I L := by
  refine J.iload dX6_pick_5 rfl ?_
  refine J.aload_n dX6_pick_7 rfl rfl ?_
  refine J.getR (r := 1) fl_X6_46 rfl dX6_pick_8 (lt65 hs) (kk65 hs) (rr65_0 hs) ?_
  refine J.getR (r := 7) fl_X6_79 rfl dX6_pick_11 (lt1 hs) (kk1 hs) (rr1_2 hs) ?_
  refine J.getI (x := I 7 0) fl_X6_85 rfl dX6_pick_14 (lt7 hs) (kk7 hs) rfl ?_
  refine J.ic_ge 72 dX6_pick_17 (by decide) (fun hc1 => ?_) (fun hc1 => ?_)
  · have hW := hW.1 hc1
    refine J.iload_n dX6_pick_72 rfl rfl ?_
    exact J.reti dX6_pick_73 rfl rfl hW
  · have hW := hW.2 hc1
    refine J.iload_n dX6_pick_20 rfl rfl ?_
    refine J.bipush (v := 8) dX6_pick_21 (by decide) ?_
    refine J.ic_ge 72 dX6_pick_23 (by decide) (fun hc2 => ?_) (fun hc2 => ?_)
    · have hW := hW.1 hc2
      refine J.iload_n dX6_pick_72 rfl rfl ?_
      exact J.reti dX6_pick_73 rfl rfl hW
    · have hW := hW.2 hc2
      refine J.aload_n dX6_pick_26 rfl rfl ?_
      refine J.getR (r := 1) fl_X6_46 rfl dX6_pick_27 (lt65 hs) (kk65 hs) (rr65_0 hs) ?_
      refine J.getR (r := 7) fl_X6_79 rfl dX6_pick_30 (lt1 hs) (kk1 hs) (rr1_2 hs) ?_
      refine J.getR (r := 9) fl_X6_90 rfl dX6_pick_33 (lt7 hs) (kk7 hs) (rr7_2 hs) ?_
      refine J.iload dX6_pick_36 rfl ?_
      obtain ⟨hb3, hW⟩ := hW
      refine J.iald (x := I 9 x4.toNatClampNeg) dX6_pick_38 (lt9 hs) (kk9 hs) hb3 rfl ?_
      refine J.iload_n dX6_pick_39 rfl rfl ?_
      refine J.ic_ne 66 dX6_pick_40 (by decide) (fun hc4 => ?_) (fun hc4 => ?_)
      · have hW := hW.2 hc4
        refine J.iinc (v := x4 + 1) (vs' := [some (.ref (eB E + 65)), some (.int x1), some (.ref (eB E + a2)), some (.int x3), some (.int (x4 + 1))]) dX6_pick_66 rfl (by rfl) (by decide) rfl ?_
        refine J.goto 5 dX6_pick_69 (by decide) ?_
        exact hW
      · have hW := hW.1 hc4
        refine J.aload_n dX6_pick_43 rfl rfl ?_
        refine J.getR (r := 1) fl_X6_46 rfl dX6_pick_44 (lt65 hs) (kk65 hs) (rr65_0 hs) ?_
        refine J.getR (r := 7) fl_X6_79 rfl dX6_pick_47 (lt1 hs) (kk1 hs) (rr1_2 hs) ?_
        refine J.iload dX6_pick_50 rfl ?_
        obtain ⟨hb5, hW⟩ := hW
        refine J.callV (M' := mX7_isFree) (index := 93) (bc := 0) (bs := 0) (bc' := 0) (bs' := 0) (st := []) [.int x4] ml_X6_93 cv_X7_isFree dX6_pick_52 (lt7 hs) (kk7 hs) (by decide) rfl rfl rfl rfl (Nat.le_of_ble_eq_true rfl) (kqi (w_X7_isFree (d := d) (Q := qi h L (fun v I' => I' = I ∧ v = bI (¬ ((I 14 x4.toNatClampNeg) = 0) ∧ (((I 12 x4.toNatClampNeg) = (-1)) ∧ ((I 13 x4.toNatClampNeg) = (-1)))))) hs x4 ⟨hb5, rfl, rfl, _, rfl, rfl, rfl⟩) (fun v6 I7 hv => ?_))
        rw [hv.1, hv.2]
        refine J.if_eq 66 dX6_pick_55 (by decide) (fun hc8 => ?_) (fun hc8 => ?_)
        · have hc8 := bI_0.mp hc8
          have hW := hW.2 hc8
          refine J.iinc (v := x4 + 1) (vs' := [some (.ref (eB E + 65)), some (.int x1), some (.ref (eB E + a2)), some (.int x3), some (.int (x4 + 1))]) dX6_pick_66 rfl (by rfl) (by decide) rfl ?_
          refine J.goto 5 dX6_pick_69 (by decide) ?_
          exact hW
        · have hc8 := bI_n0.mp hc8
          have hW := hW.1 hc8
          refine J.aload_n dX6_pick_58 rfl rfl ?_
          refine J.iload_n dX6_pick_59 rfl rfl ?_
          refine J.iload dX6_pick_60 rfl ?_
          obtain ⟨hb9, hW⟩ := hW
          refine J.iast dX6_pick_62 hl2 hk2 hb9 ?_
          refine J.iinc (v := x3 + 1) (vs' := [some (.ref (eB E + 65)), some (.int x1), some (.ref (eB E + a2)), some (.int (x3 + 1)), some (.int x4)]) dX6_pick_63 rfl (by rfl) (by decide) rfl ?_
          refine J.iinc (v := x4 + 1) (vs' := [some (.ref (eB E + 65)), some (.int x1), some (.ref (eB E + a2)), some (.int (x3 + 1)), some (.int (x4 + 1))]) dX6_pick_66 rfl (by rfl) (by decide) rfl ?_
          refine J.goto 5 dX6_pick_69 (by decide) ?_
          exact hW
set_option maxRecDepth 100000 in
set_option maxHeartbeats 4000000 in
theorem w_X6_gather {E : Envt} {d : Nat} {Q : Pst} {h : mS} {I : mI} {L : mL} (hs : SL h)  
    (hW : (CT E mX6_pick (d + 5) 0 0 [.ref (eB E + 65), .int 0, .ref (eB E + 66)] h I L (qi h L fun r2 I1 => (CT E mX6_pick (d + 5) 0 0 [.ref (eB E + 65), .int 1, .ref (eB E + 67)] h (uI I1 65 4 r2) L (qi h L fun r4 I3 => J E mX6_gather (d + 6) Q 0 0 28 [some (.ref (eB E + 65)), some (.int 0), none, none] [] h (uI I3 65 5 r4) L))))) :
    CT E mX6_gather (d + 6) 0 0 [.ref (eB E + 65)] h I L Q := by
  refine CT.of (by decide) [some (.ref (eB E + 65)), none, none, none] rfl (Nat.le_of_ble_eq_true rfl) ?_
  refine J.aload_n dX6_gather_0 rfl rfl ?_
  refine J.aload_n dX6_gather_1 rfl rfl ?_
  refine J.iconst (v := 0) dX6_gather_2 (by decide) ?_
  refine J.aload_n dX6_gather_3 rfl rfl ?_
  refine J.getR (r := 66) fl_X6_9 rfl dX6_gather_4 (lt65 hs) (kk65 hs) (rr65_2 hs) ?_
  refine J.callV (M' := mX6_pick) (index := 54) (bc := 0) (bs := 0) (bc' := 0) (bs' := 0) (st := [.ref (eB E + 65)]) [.int 0, .ref (eB E + 66)] ml_X6_54 cv_X6_pick dX6_gather_7 (lt65 hs) (kk65 hs) (by decide) rfl rfl rfl rfl (Nat.le_of_ble_eq_true rfl) (kqi hW (fun r2 I1 hW => ?_))
  refine J.putI fw_X6_58 rfl dX6_gather_10 (lt65 hs) (kk65 hs) ?_
  refine J.aload_n dX6_gather_13 rfl rfl ?_
  refine J.aload_n dX6_gather_14 rfl rfl ?_
  refine J.iconst (v := 1) dX6_gather_15 (by decide) ?_
  refine J.aload_n dX6_gather_16 rfl rfl ?_
  refine J.getR (r := 67) fl_X6_15 rfl dX6_gather_17 (lt65 hs) (kk65 hs) (rr65_3 hs) ?_
  refine J.callV (M' := mX6_pick) (index := 54) (bc := 0) (bs := 0) (bc' := 0) (bs' := 0) (st := [.ref (eB E + 65)]) [.int 1, .ref (eB E + 67)] ml_X6_54 cv_X6_pick dX6_gather_20 (lt65 hs) (kk65 hs) (by decide) rfl rfl rfl rfl (Nat.le_of_ble_eq_true rfl) (kqi hW (fun r4 I3 hW => ?_))
  refine J.putI fw_X6_62 rfl dX6_gather_23 (lt65 hs) (kk65 hs) ?_
  refine J.iconst (v := 0) dX6_gather_26 (by decide) ?_
  refine J.istore_n (vs' := [some (.ref (eB E + 65)), some (.int 0), none, none]) dX6_gather_27 rfl (by decide) rfl ?_
  exact hW
set_option maxRecDepth 100000 in
set_option maxHeartbeats 4000000 in
theorem w_X6_gather_28 {E : Envt} {d : Nat} {Q : Pst} {h : mS} {I : mI} {L : mL} (hs : SL h)    (x1 : Int32)
    (hW : ((((I 65 4) ≤ x1) → Q none h I L) ∧ (¬ ((I 65 4) ≤ x1) → J E mX6_gather (d + 6) Q 0 0 38 [some (.ref (eB E + 65)), some (.int x1), some (.int 0), none] [] h I L))) :
    J E mX6_gather (d + 6) Q 0 0 28 [some (.ref (eB E + 65)), some (.int x1), none, none] [] h I L := by
  refine J.iload_n dX6_gather_28 rfl rfl ?_
  refine J.aload_n dX6_gather_29 rfl rfl ?_
  refine J.getI (x := I 65 4) fl_X6_58 rfl dX6_gather_30 (lt65 hs) (kk65 hs) rfl ?_
  refine J.ic_ge 158 dX6_gather_33 (by decide) (fun hc1 => ?_) (fun hc1 => ?_)
  · have hW := hW.1 hc1
    exact J.retv dX6_gather_158 rfl hW
  · have hW := hW.2 hc1
    refine J.iconst (v := 0) dX6_gather_36 (by decide) ?_
    refine J.istore_n (vs' := [some (.ref (eB E + 65)), some (.int x1), some (.int 0), none]) dX6_gather_37 rfl (by decide) rfl ?_
    exact hW
set_option maxRecDepth 100000 in
set_option maxHeartbeats 4000000 in
theorem w_X6_gather_38 {E : Envt} {d : Nat} {Q : Pst} {h : mS} {I : mI} {L : mL} (hs : SL h)    (x1 : Int32) (x2 : Int32)
    (hW : ((((I 65 5) ≤ x2) → J E mX6_gather (d + 6) Q 0 0 28 [some (.ref (eB E + 65)), some (.int (x1 + 1)), none, none] [] h I L) ∧ (¬ ((I 65 5) ≤ x2) → (vp_in x1 8 ∧ (vp_in x2 8 ∧ (CT E mX2_letsWed (d + 5) 0 0 [.ref (eB E + 63), .int (I 66 x1.toNatClampNeg), .int (I 67 x2.toNatClampNeg)] h I L (qi h L fun r5 I4 => (vp_in ((x1 * 8) + x2) 64 ∧ (bz r5 ∧ J E mX6_gather (d + 6) Q 0 0 38 [some (.ref (eB E + 65)), some (.int x1), some (.int (x2 + 1)), none] [] h (uI (uI (uI (uI I4 68 (((x1 * 8) + x2).toNatClampNeg) r5) 69 (((x1 * 8) + x2).toNatClampNeg) (I4 63 8)) 70 (((x1 * 8) + x2).toNatClampNeg) (bI ((I4 64 2) = 1))) 71 (((x1 * 8) + x2).toNatClampNeg) ((20000000 - (I4 63 8)) + (if (bI ((I4 64 2) = 1)) = 0 then 0 else 2000000 : Int32))) L))))))))) :
    J E mX6_gather (d + 6) Q 0 0 38 [some (.ref (eB E + 65)), some (.int x1), some (.int x2), none] [] h I L := by
  refine J.iload_n dX6_gather_38 rfl rfl ?_
  refine J.aload_n dX6_gather_39 rfl rfl ?_
  refine J.getI (x := I 65 5) fl_X6_62 rfl dX6_gather_40 (lt65 hs) (kk65 hs) rfl ?_
  refine J.ic_ge 152 dX6_gather_43 (by decide) (fun hc1 => ?_) (fun hc1 => ?_)
  · have hW := hW.1 hc1
    refine J.iinc (v := x1 + 1) (vs' := [some (.ref (eB E + 65)), some (.int (x1 + 1)), some (.int x2), none]) dX6_gather_152 rfl (by rfl) (by decide) rfl ?_
    refine J.goto 28 dX6_gather_155 (by decide) ?_
    exact J.mask [true, true, false, false] rfl hW
  · have hW := hW.2 hc1
    refine J.iload_n dX6_gather_46 rfl rfl ?_
    refine J.bipush (v := 8) dX6_gather_47 (by decide) ?_
    refine J.imul dX6_gather_49 ?_
    refine J.iload_n dX6_gather_50 rfl rfl ?_
    refine J.iadd dX6_gather_51 ?_
    refine J.istore_n (vs' := [some (.ref (eB E + 65)), some (.int x1), some (.int x2), some (.int ((x1 * 8) + x2))]) dX6_gather_52 rfl (by decide) rfl ?_
    refine J.aload_n dX6_gather_53 rfl rfl ?_
    refine J.getR (r := 68) fl_X6_18 rfl dX6_gather_54 (lt65 hs) (kk65 hs) (rr65_6 hs) ?_
    refine J.iload_n dX6_gather_57 rfl rfl ?_
    refine J.aload_n dX6_gather_58 rfl rfl ?_
    refine J.getR (r := 63) fl_X6_50 rfl dX6_gather_59 (lt65 hs) (kk65 hs) (rr65_1 hs) ?_
    refine J.aload_n dX6_gather_62 rfl rfl ?_
    refine J.getR (r := 66) fl_X6_9 rfl dX6_gather_63 (lt65 hs) (kk65 hs) (rr65_2 hs) ?_
    refine J.iload_n dX6_gather_66 rfl rfl ?_
    obtain ⟨hb2, hW⟩ := hW
    refine J.iald (x := I 66 x1.toNatClampNeg) dX6_gather_67 (lt66 hs) (kk66 hs) hb2 rfl ?_
    refine J.aload_n dX6_gather_68 rfl rfl ?_
    refine J.getR (r := 67) fl_X6_15 rfl dX6_gather_69 (lt65 hs) (kk65 hs) (rr65_3 hs) ?_
    refine J.iload_n dX6_gather_72 rfl rfl ?_
    obtain ⟨hb3, hW⟩ := hW
    refine J.iald (x := I 67 x2.toNatClampNeg) dX6_gather_73 (lt67 hs) (kk67 hs) hb3 rfl ?_
    refine J.callV (M' := mX2_letsWed) (index := 65) (bc := 0) (bs := 0) (bc' := 0) (bs' := 0) (st := [.int ((x1 * 8) + x2), .ref (eB E + 68)]) [.int (I 66 x1.toNatClampNeg), .int (I 67 x2.toNatClampNeg)] ml_X6_65 cv_X2_letsWed dX6_gather_74 (lt63 hs) (kk63 hs) (by decide) rfl rfl rfl rfl (Nat.le_of_ble_eq_true rfl) (kqi hW (fun r5 I4 hW => ?_))
    obtain ⟨hb6, hW⟩ := hW
    obtain ⟨hz, hW⟩ := hW
    refine J.zast dX6_gather_77 (lt68 hs) (kk68 hs) hb6 hz ?_
    refine J.aload_n dX6_gather_78 rfl rfl ?_
    refine J.getR (r := 69) fl_X6_22 rfl dX6_gather_79 (lt65 hs) (kk65 hs) (rr65_7 hs) ?_
    refine J.iload_n dX6_gather_82 rfl rfl ?_
    refine J.aload_n dX6_gather_83 rfl rfl ?_
    refine J.getR (r := 63) fl_X6_50 rfl dX6_gather_84 (lt65 hs) (kk65 hs) (rr65_1 hs) ?_
    refine J.getI (x := I4 63 8) fl_X6_71 rfl dX6_gather_87 (lt63 hs) (kk63 hs) rfl ?_
    refine J.iast dX6_gather_90 (lt69 hs) (kk69 hs) hb6 ?_
    refine J.aload_n dX6_gather_91 rfl rfl ?_
    refine J.getR (r := 70) fl_X6_25 rfl dX6_gather_92 (lt65 hs) (kk65 hs) (rr65_8 hs) ?_
    refine J.iload_n dX6_gather_95 rfl rfl ?_
    refine J.aload_n dX6_gather_96 rfl rfl ?_
    refine J.getR (r := 63) fl_X6_50 rfl dX6_gather_97 (lt65 hs) (kk65 hs) (rr65_1 hs) ?_
    refine J.getR (r := 64) fl_X6_74 rfl dX6_gather_100 (lt63 hs) (kk63 hs) (rr63_4 hs) ?_
    refine J.iconst (v := 2) dX6_gather_103 (by decide) ?_
    refine J.iald (x := I4 64 2) dX6_gather_104 (lt64 hs) (kk64 hs) (by unfold vp_in; decide) rfl ?_
    refine J.iconst (v := 1) dX6_gather_105 (by decide) ?_
    have hj : J E mX6_gather (d + 6) Q 0 0 114 [some (.ref (eB E + 65)), some (.int x1), some (.int x2), some (.int ((x1 * 8) + x2))] [.int (bI ((I4 64 2) = 1)), .int ((x1 * 8) + x2), .ref (eB E + 70)] h (uI (uI I4 68 (((x1 * 8) + x2).toNatClampNeg) r5) 69 (((x1 * 8) + x2).toNatClampNeg) (I4 63 8)) L := by
      refine J.zast dX6_gather_114 (lt70 hs) (kk70 hs) hb6 (bI_bz _) ?_
      refine J.aload_n dX6_gather_115 rfl rfl ?_
      refine J.getR (r := 71) fl_X6_28 rfl dX6_gather_116 (lt65 hs) (kk65 hs) (rr65_9 hs) ?_
      refine J.iload_n dX6_gather_119 rfl rfl ?_
      refine J.ldc (v := 20000000) ck_X6_77 dX6_gather_120 ?_
      refine J.aload_n dX6_gather_122 rfl rfl ?_
      refine J.getR (r := 69) fl_X6_22 rfl dX6_gather_123 (lt65 hs) (kk65 hs) (rr65_7 hs) ?_
      refine J.iload_n dX6_gather_126 rfl rfl ?_
      refine J.iald (x := I4 63 8) dX6_gather_127 (lt69 hs) (kk69 hs) hb6 (by simp [uI]) ?_
      refine J.isub dX6_gather_128 ?_
      refine J.aload_n dX6_gather_129 rfl rfl ?_
      refine J.getR (r := 70) fl_X6_25 rfl dX6_gather_130 (lt65 hs) (kk65 hs) (rr65_8 hs) ?_
      refine J.iload_n dX6_gather_133 rfl rfl ?_
      refine J.zald (x := bI ((I4 64 2) = 1)) dX6_gather_134 (lt70 hs) (kk70 hs) hb6 (by simp [uI]) ?_
      have hj : J E mX6_gather (d + 6) Q 0 0 144 [some (.ref (eB E + 65)), some (.int x1), some (.int x2), some (.int ((x1 * 8) + x2))] [.int (if (bI ((I4 64 2) = 1)) = 0 then 0 else 2000000 : Int32), .int (20000000 - (I4 63 8)), .int ((x1 * 8) + x2), .ref (eB E + 71)] h (uI (uI (uI I4 68 (((x1 * 8) + x2).toNatClampNeg) r5) 69 (((x1 * 8) + x2).toNatClampNeg) (I4 63 8)) 70 (((x1 * 8) + x2).toNatClampNeg) (bI ((I4 64 2) = 1))) L := by
        refine J.iadd dX6_gather_144 ?_
        refine J.iast dX6_gather_145 (lt71 hs) (kk71 hs) hb6 ?_
        refine J.iinc (v := x2 + 1) (vs' := [some (.ref (eB E + 65)), some (.int x1), some (.int (x2 + 1)), some (.int ((x1 * 8) + x2))]) dX6_gather_146 rfl (by rfl) (by decide) rfl ?_
        refine J.goto 38 dX6_gather_149 (by decide) ?_
        exact J.mask [true, true, true, false] rfl hW
      refine J.if_eq 143 dX6_gather_135 (by decide) (fun hc8 => ?_) (fun hc8 => ?_)
      · refine J.iconst (v := 0) dX6_gather_143 (by decide) ?_
        rw [show ((if (bI ((I4 64 2) = 1)) = 0 then 0 else 2000000 : Int32) = 0) from by simp only [eq_true hc8, if_true, if_false, bI_true, bI_false, and_true, true_and, and_false, false_and, or_true, true_or, or_false, false_or, not_true_eq_false, not_false_eq_true]] at hj
        exact hj
      · refine J.ldc (v := 2000000) ck_X6_78 dX6_gather_138 ?_
        refine J.goto 144 dX6_gather_140 (by decide) ?_
        rw [show ((if (bI ((I4 64 2) = 1)) = 0 then 0 else 2000000 : Int32) = 2000000) from by simp only [eq_false hc8, if_true, if_false, bI_true, bI_false, and_true, true_and, and_false, false_and, or_true, true_or, or_false, false_or, not_true_eq_false, not_false_eq_true]] at hj
        exact hj
    refine J.ic_ne 113 dX6_gather_106 (by decide) (fun hc7 => ?_) (fun hc7 => ?_)
    · refine J.iconst (v := 0) dX6_gather_113 (by decide) ?_
      rw [show bI ((I4 64 2) = 1) = 0 from bI_f (by simp only [eq_false hc7, and_true, true_and, and_false, false_and, or_true, true_or, or_false, false_or, not_true_eq_false, not_false_eq_true])] at hj
      exact hj
    · refine J.iconst (v := 1) dX6_gather_109 (by decide) ?_
      refine J.goto 114 dX6_gather_110 (by decide) ?_
      rw [show bI ((I4 64 2) = 1) = 1 from bI_t (by simp only [eq_true hc7, and_true, true_and, and_false, false_and, or_true, true_or, or_false, false_or, not_true_eq_false, not_false_eq_true])] at hj
      exact hj
set_option maxRecDepth 100000 in
set_option maxHeartbeats 4000000 in
theorem w_X6_worthWith {E : Envt} {d : Nat} {Q : Pst} {h : mS} {I : mI} {L : mL} (hs : SL h) (x1 : Int32) (x2 : Int32) (x3 : Int32) 
    (hW : (vp_in ((x1 * 8) + x2) 64 ∧ (vp_in (((x1 + 1) <<< (8 &&& 31)) + (x3 ||| ((1 : Int32) <<< (x2 &&& 31)))) 2304 ∧ Q (some (.int ((I 71 (((x1 * 8) + x2).toNatClampNeg)) + (I 75 ((((x1 + 1) <<< (8 &&& 31)) + (x3 ||| ((1 : Int32) <<< (x2 &&& 31)))).toNatClampNeg))))) h I L))) :
    CT E mX6_worthWith d 0 0 [.ref (eB E + 65), .int x1, .int x2, .int x3] h I L Q := by
  refine CT.of (by decide) [some (.ref (eB E + 65)), some (.int x1), some (.int x2), some (.int x3)] rfl (Nat.le_of_ble_eq_true rfl) ?_
  refine J.aload_n dX6_worthWith_0 rfl rfl ?_
  refine J.getR (r := 71) fl_X6_28 rfl dX6_worthWith_1 (lt65 hs) (kk65 hs) (rr65_9 hs) ?_
  refine J.iload_n dX6_worthWith_4 rfl rfl ?_
  refine J.bipush (v := 8) dX6_worthWith_5 (by decide) ?_
  refine J.imul dX6_worthWith_7 ?_
  refine J.iload_n dX6_worthWith_8 rfl rfl ?_
  refine J.iadd dX6_worthWith_9 ?_
  obtain ⟨hb1, hW⟩ := hW
  refine J.iald (x := I 71 (((x1 * 8) + x2).toNatClampNeg)) dX6_worthWith_10 (lt71 hs) (kk71 hs) hb1 rfl ?_
  refine J.aload_n dX6_worthWith_11 rfl rfl ?_
  refine J.getR (r := 75) fl_X6_40 rfl dX6_worthWith_12 (lt65 hs) (kk65 hs) (rr65_13 hs) ?_
  refine J.iload_n dX6_worthWith_15 rfl rfl ?_
  refine J.iconst (v := 1) dX6_worthWith_16 (by decide) ?_
  refine J.iadd dX6_worthWith_17 ?_
  refine J.bipush (v := 8) dX6_worthWith_18 (by decide) ?_
  refine J.ishl dX6_worthWith_20 ?_
  refine J.iload_n dX6_worthWith_21 rfl rfl ?_
  refine J.iconst (v := 1) dX6_worthWith_22 (by decide) ?_
  refine J.iload_n dX6_worthWith_23 rfl rfl ?_
  refine J.ishl dX6_worthWith_24 ?_
  refine J.ior dX6_worthWith_25 ?_
  refine J.iadd dX6_worthWith_26 ?_
  obtain ⟨hb2, hW⟩ := hW
  refine J.iald (x := I 75 ((((x1 + 1) <<< (8 &&& 31)) + (x3 ||| ((1 : Int32) <<< (x2 &&& 31)))).toNatClampNeg)) dX6_worthWith_27 (lt75 hs) (kk75 hs) hb2 rfl ?_
  refine J.iadd dX6_worthWith_28 ?_
  exact J.reti dX6_worthWith_29 rfl rfl hW
set_option maxRecDepth 100000 in
set_option maxHeartbeats 4000000 in
theorem w_X6_mostWorth {E : Envt} {d : Nat} {Q : Pst} {h : mS} {I : mI} {L : mL} (hs : SL h) (x1 : Int32) (x2 : Int32) 
    (hW : (vp_in (((x1 + 1) <<< (8 &&& 31)) + x2) 2304 ∧ (∀ y2 : Int32, y2 = I 75 ((((x1 + 1) <<< (8 &&& 31)) + x2).toNatClampNeg) → J E mX6_mostWorth (d + 1) Q 0 0 17 [some (.ref (eB E + 65)), some (.int x1), some (.int x2), some (.int y2), some (.int 0)] [] h I L))) :
    CT E mX6_mostWorth (d + 1) 0 0 [.ref (eB E + 65), .int x1, .int x2] h I L Q := by
  refine CT.of (by decide) [some (.ref (eB E + 65)), some (.int x1), some (.int x2), none, none] rfl (Nat.le_of_ble_eq_true rfl) ?_
  refine J.aload_n dX6_mostWorth_0 rfl rfl ?_
  refine J.getR (r := 75) fl_X6_40 rfl dX6_mostWorth_1 (lt65 hs) (kk65 hs) (rr65_13 hs) ?_
  refine J.iload_n dX6_mostWorth_4 rfl rfl ?_
  refine J.iconst (v := 1) dX6_mostWorth_5 (by decide) ?_
  refine J.iadd dX6_mostWorth_6 ?_
  refine J.bipush (v := 8) dX6_mostWorth_7 (by decide) ?_
  refine J.ishl dX6_mostWorth_9 ?_
  refine J.iload_n dX6_mostWorth_10 rfl rfl ?_
  refine J.iadd dX6_mostWorth_11 ?_
  obtain ⟨hb1, hW⟩ := hW
  refine J.iald (x := I 75 ((((x1 + 1) <<< (8 &&& 31)) + x2).toNatClampNeg)) dX6_mostWorth_12 (lt75 hs) (kk75 hs) hb1 rfl ?_
  refine J.topi (fun y2 hyy2 => ?_)
  have hW := hW y2 hyy2
  refine J.istore_n (vs' := [some (.ref (eB E + 65)), some (.int x1), some (.int x2), some (.int y2), none]) dX6_mostWorth_13 rfl (by decide) rfl ?_
  refine J.iconst (v := 0) dX6_mostWorth_14 (by decide) ?_
  refine J.istore (vs' := [some (.ref (eB E + 65)), some (.int x1), some (.int x2), some (.int y2), some (.int 0)]) dX6_mostWorth_15 (by decide) rfl ?_
  exact hW
set_option maxRecDepth 100000 in
set_option maxHeartbeats 4000000 in
theorem w_X6_mostWorth_17 {E : Envt} {d : Nat} {Q : Pst} {h : mS} {I : mI} {L : mL} (hs : SL h)    (x1 : Int32) (x2 : Int32) (x3 : Int32) (x4 : Int32)
    (hW : ((((I 65 5) ≤ x4) → Q (some (.int x3)) h I L) ∧ (¬ ((I 65 5) ≤ x4) → (vp_in ((x1 * 8) + x4) 64 ∧ ((¬ ((I 68 (((x1 * 8) + x4).toNatClampNeg)) = 0) → (((x2 >>> (x4 &&& 31)) &&& 1) = 0) → (vp_in ((x1 * 8) + x4) 64)) ∧ ((¬ ((I 68 (((x1 * 8) + x4).toNatClampNeg)) = 0) → (((x2 >>> (x4 &&& 31)) &&& 1) = 0) → (vp_in (((x1 + 1) <<< (8 &&& 31)) + (x2 ||| ((1 : Int32) <<< (x4 &&& 31)))) 2304)) ∧ (∀ y13 : Int32, y13 = (if (I 68 (((x1 * 8) + x4).toNatClampNeg)) = 0 then x3 else if ((x2 >>> (x4 &&& 31)) &&& 1) = 0 then (if x3 < ((I 71 (((x1 * 8) + x4).toNatClampNeg)) + (I 75 ((((x1 + 1) <<< (8 &&& 31)) + (x2 ||| ((1 : Int32) <<< (x4 &&& 31)))).toNatClampNeg))) then ((I 71 (((x1 * 8) + x4).toNatClampNeg)) + (I 75 ((((x1 + 1) <<< (8 &&& 31)) + (x2 ||| ((1 : Int32) <<< (x4 &&& 31)))).toNatClampNeg))) else x3 : Int32) else x3) → J E mX6_mostWorth (d + 1) Q 0 0 17 [some (.ref (eB E + 65)), some (.int x1), some (.int x2), some (.int y13), some (.int (x4 + 1))] [] h I L))))))) :
    J E mX6_mostWorth (d + 1) Q 0 0 17 [some (.ref (eB E + 65)), some (.int x1), some (.int x2), some (.int x3), some (.int x4)] [] h I L := by
  refine J.iload dX6_mostWorth_17 rfl ?_
  refine J.aload_n dX6_mostWorth_19 rfl rfl ?_
  refine J.getI (x := I 65 5) fl_X6_62 rfl dX6_mostWorth_20 (lt65 hs) (kk65 hs) rfl ?_
  refine J.ic_ge 69 dX6_mostWorth_23 (by decide) (fun hc1 => ?_) (fun hc1 => ?_)
  · have hW := hW.1 hc1
    refine J.iload_n dX6_mostWorth_69 rfl rfl ?_
    exact J.reti dX6_mostWorth_70 rfl rfl hW
  · have hW := hW.2 hc1
    refine J.aload_n dX6_mostWorth_26 rfl rfl ?_
    refine J.getR (r := 68) fl_X6_18 rfl dX6_mostWorth_27 (lt65 hs) (kk65 hs) (rr65_6 hs) ?_
    refine J.iload_n dX6_mostWorth_30 rfl rfl ?_
    refine J.bipush (v := 8) dX6_mostWorth_31 (by decide) ?_
    refine J.imul dX6_mostWorth_33 ?_
    refine J.iload dX6_mostWorth_34 rfl ?_
    refine J.iadd dX6_mostWorth_36 ?_
    obtain ⟨hb2, hW⟩ := hW
    refine J.zald (x := I 68 (((x1 * 8) + x4).toNatClampNeg)) dX6_mostWorth_37 (lt68 hs) (kk68 hs) hb2 rfl ?_
    obtain ⟨hq9, hW⟩ := hW
    obtain ⟨hq10, hW⟩ := hW
    obtain ⟨y13, hyy13⟩ : ∃ y13 : Int32, y13 = (if (I 68 (((x1 * 8) + x4).toNatClampNeg)) = 0 then x3 else if ((x2 >>> (x4 &&& 31)) &&& 1) = 0 then (if x3 < ((I 71 (((x1 * 8) + x4).toNatClampNeg)) + (I 75 ((((x1 + 1) <<< (8 &&& 31)) + (x2 ||| ((1 : Int32) <<< (x4 &&& 31)))).toNatClampNeg))) then ((I 71 (((x1 * 8) + x4).toNatClampNeg)) + (I 75 ((((x1 + 1) <<< (8 &&& 31)) + (x2 ||| ((1 : Int32) <<< (x4 &&& 31)))).toNatClampNeg))) else x3 : Int32) else x3) := ⟨_, rfl⟩
    have hW := hW y13 hyy13
    have hj : J E mX6_mostWorth (d + 1) Q 0 0 63 [some (.ref (eB E + 65)), some (.int x1), some (.int x2), some (.int y13), some (.int x4)] [] h I L := by
      refine J.iinc (v := x4 + 1) (vs' := [some (.ref (eB E + 65)), some (.int x1), some (.int x2), some (.int y13), some (.int (x4 + 1))]) dX6_mostWorth_63 rfl (by rfl) (by decide) rfl ?_
      refine J.goto 17 dX6_mostWorth_66 (by decide) ?_
      exact hW
    refine J.if_eq 63 dX6_mostWorth_38 (by decide) (fun hc3 => ?_) (fun hc3 => ?_)
    · rw [show y13 = x3 from by simp only [hyy13, eq_true hc3, if_true, if_false, bI_true, bI_false, and_true, true_and, and_false, false_and, or_true, true_or, or_false, false_or, not_true_eq_false, not_false_eq_true]] at hj
      exact hj
    · refine J.iload_n dX6_mostWorth_41 rfl rfl ?_
      refine J.iload dX6_mostWorth_42 rfl ?_
      refine J.ishr dX6_mostWorth_44 ?_
      refine J.iconst (v := 1) dX6_mostWorth_45 (by decide) ?_
      refine J.iand dX6_mostWorth_46 ?_
      refine J.if_ne 63 dX6_mostWorth_47 (by decide) (fun hc4 => ?_) (fun hc4 => ?_)
      · rw [show y13 = x3 from by simp only [hyy13, eq_false hc3, eq_false hc4, if_true, if_false, bI_true, bI_false, and_true, true_and, and_false, false_and, or_true, true_or, or_false, false_or, not_true_eq_false, not_false_eq_true]] at hj
        exact hj
      · refine J.iload_n dX6_mostWorth_50 rfl rfl ?_
        refine J.aload_n dX6_mostWorth_51 rfl rfl ?_
        refine J.iload_n dX6_mostWorth_52 rfl rfl ?_
        refine J.iload dX6_mostWorth_53 rfl ?_
        refine J.iload_n dX6_mostWorth_55 rfl rfl ?_
        have hb5 := hq9 hc3 hc4
        have hb6 := hq10 hc3 hc4
        refine J.callV (M' := mX6_worthWith) (index := 116) (bc := 0) (bs := 0) (bc' := 0) (bs' := 0) (st := [.int x3]) [.int x1, .int x4, .int x2] ml_X6_116 cv_X6_worthWith dX6_mostWorth_56 (lt65 hs) (kk65 hs) (by decide) rfl rfl rfl rfl (Nat.le_of_ble_eq_true rfl) (kqi (w_X6_worthWith (d := d) (Q := qi h L (fun v I' => I' = I ∧ v = (I 71 (((x1 * 8) + x4).toNatClampNeg)) + (I 75 ((((x1 + 1) <<< (8 &&& 31)) + (x2 ||| ((1 : Int32) <<< (x4 &&& 31)))).toNatClampNeg)))) hs x1 x4 x2 ⟨hb5, hb6, rfl, rfl, _, rfl, rfl, rfl⟩) (fun v7 I8 hv => ?_))
        rw [hv.1, hv.2]
        refine J.callS (M' := mJ9_max_7cf53) (index := 120) (bc := 0) (bs := 0) (bc' := 0) (bs' := 0) (st := []) [.int x3, .int ((I 71 (((x1 * 8) + x4).toNatClampNeg)) + (I 75 ((((x1 + 1) <<< (8 &&& 31)) + (x2 ||| ((1 : Int32) <<< (x4 &&& 31)))).toNatClampNeg)))] ml_X6_120 cv_J9_max_7cf53 dX6_mostWorth_59 rfl rfl (Nat.le_of_ble_eq_true rfl) (kqi (w_J9_max_7cf53 (d := d) (Q := qi h L (fun v I' => I' = I ∧ v = (if x3 < ((I 71 (((x1 * 8) + x4).toNatClampNeg)) + (I 75 ((((x1 + 1) <<< (8 &&& 31)) + (x2 ||| ((1 : Int32) <<< (x4 &&& 31)))).toNatClampNeg))) then ((I 71 (((x1 * 8) + x4).toNatClampNeg)) + (I 75 ((((x1 + 1) <<< (8 &&& 31)) + (x2 ||| ((1 : Int32) <<< (x4 &&& 31)))).toNatClampNeg))) else x3 : Int32))) hs x3 ((I 71 (((x1 * 8) + x4).toNatClampNeg)) + (I 75 ((((x1 + 1) <<< (8 &&& 31)) + (x2 ||| ((1 : Int32) <<< (x4 &&& 31)))).toNatClampNeg))) ⟨rfl, rfl, _, rfl, rfl, rfl⟩) (fun v11 I12 hv => ?_))
        rw [hv.1, hv.2]
        refine J.istore_n (vs' := [some (.ref (eB E + 65)), some (.int x1), some (.int x2), some (.int (if x3 < ((I 71 (((x1 * 8) + x4).toNatClampNeg)) + (I 75 ((((x1 + 1) <<< (8 &&& 31)) + (x2 ||| ((1 : Int32) <<< (x4 &&& 31)))).toNatClampNeg))) then ((I 71 (((x1 * 8) + x4).toNatClampNeg)) + (I 75 ((((x1 + 1) <<< (8 &&& 31)) + (x2 ||| ((1 : Int32) <<< (x4 &&& 31)))).toNatClampNeg))) else x3 : Int32)), some (.int x4)]) dX6_mostWorth_62 rfl (by decide) rfl ?_
        rw [show y13 = (if x3 < ((I 71 (((x1 * 8) + x4).toNatClampNeg)) + (I 75 ((((x1 + 1) <<< (8 &&& 31)) + (x2 ||| ((1 : Int32) <<< (x4 &&& 31)))).toNatClampNeg))) then ((I 71 (((x1 * 8) + x4).toNatClampNeg)) + (I 75 ((((x1 + 1) <<< (8 &&& 31)) + (x2 ||| ((1 : Int32) <<< (x4 &&& 31)))).toNatClampNeg))) else x3 : Int32) from by simp only [hyy13, eq_false hc3, eq_true hc4, if_true, if_false, bI_true, bI_false, and_true, true_and, and_false, false_and, or_true, true_or, or_false, false_or, not_true_eq_false, not_false_eq_true]] at hj
        exact hj
set_option maxRecDepth 100000 in
set_option maxHeartbeats 4000000 in
theorem w_X6_leastChoice {E : Envt} {d : Nat} {Q : Pst} {h : mS} {I : mI} {L : mL} (hs : SL h) (x1 : Int32) (x2 : Int32) 
    (hW : J E mX6_leastChoice (d + 1) Q 0 0 2 [some (.ref (eB E + 65)), some (.int x1), some (.int x2), some (.int 0)] [] h I L) :
    CT E mX6_leastChoice (d + 1) 0 0 [.ref (eB E + 65), .int x1, .int x2] h I L Q := by
  refine CT.of (by decide) [some (.ref (eB E + 65)), some (.int x1), some (.int x2), none] rfl (Nat.le_of_ble_eq_true rfl) ?_
  refine J.iconst (v := 0) dX6_leastChoice_0 (by decide) ?_
  refine J.istore_n (vs' := [some (.ref (eB E + 65)), some (.int x1), some (.int x2), some (.int 0)]) dX6_leastChoice_1 rfl (by decide) rfl ?_
  exact hW
set_option maxRecDepth 100000 in
set_option maxHeartbeats 4000000 in
theorem w_X6_leastChoice_2 {E : Envt} {d : Nat} {Q : Pst} {h : mS} {I : mI} {L : mL} (hs : SL h)    (x1 : Int32) (x2 : Int32) (x3 : Int32)
    (hW : ((((I 65 5) ≤ x3) → Q (some (.int (-1))) h I L) ∧ (¬ ((I 65 5) ≤ x3) → (vp_in ((x1 * 8) + x3) 64 ∧ ((((I 68 (((x1 * 8) + x3).toNatClampNeg)) = 0) → J E mX6_leastChoice (d + 1) Q 0 0 2 [some (.ref (eB E + 65)), some (.int x1), some (.int x2), some (.int (x3 + 1))] [] h I L) ∧ (¬ ((I 68 (((x1 * 8) + x3).toNatClampNeg)) = 0) → (((((x2 >>> (x3 &&& 31)) &&& 1) = 0) → ((vp_in ((x1 * 8) + x3) 64) ∧ ((vp_in (((x1 + 1) <<< (8 &&& 31)) + (x2 ||| ((1 : Int32) <<< (x3 &&& 31)))) 2304) ∧ (vp_in ((x1 <<< (8 &&& 31)) + x2) 2304 ∧ (((((I 71 (((x1 * 8) + x3).toNatClampNeg)) + (I 75 ((((x1 + 1) <<< (8 &&& 31)) + (x2 ||| ((1 : Int32) <<< (x3 &&& 31)))).toNatClampNeg))) = (I 75 (((x1 <<< (8 &&& 31)) + x2).toNatClampNeg))) → Q (some (.int x3)) h I L) ∧ (¬ (((I 71 (((x1 * 8) + x3).toNatClampNeg)) + (I 75 ((((x1 + 1) <<< (8 &&& 31)) + (x2 ||| ((1 : Int32) <<< (x3 &&& 31)))).toNatClampNeg))) = (I 75 (((x1 <<< (8 &&& 31)) + x2).toNatClampNeg))) → J E mX6_leastChoice (d + 1) Q 0 0 2 [some (.ref (eB E + 65)), some (.int x1), some (.int x2), some (.int (x3 + 1))] [] h I L)))))) ∧ (¬ (((x2 >>> (x3 &&& 31)) &&& 1) = 0) → J E mX6_leastChoice (d + 1) Q 0 0 2 [some (.ref (eB E + 65)), some (.int x1), some (.int x2), some (.int (x3 + 1))] [] h I L)))))))) :
    J E mX6_leastChoice (d + 1) Q 0 0 2 [some (.ref (eB E + 65)), some (.int x1), some (.int x2), some (.int x3)] [] h I L := by
  refine J.iload_n dX6_leastChoice_2 rfl rfl ?_
  refine J.aload_n dX6_leastChoice_3 rfl rfl ?_
  refine J.getI (x := I 65 5) fl_X6_62 rfl dX6_leastChoice_4 (lt65 hs) (kk65 hs) rfl ?_
  refine J.ic_ge 61 dX6_leastChoice_7 (by decide) (fun hc1 => ?_) (fun hc1 => ?_)
  · have hW := hW.1 hc1
    refine J.iconst (v := (-1)) dX6_leastChoice_61 (by decide) ?_
    exact J.reti dX6_leastChoice_62 rfl rfl hW
  · have hW := hW.2 hc1
    refine J.aload_n dX6_leastChoice_10 rfl rfl ?_
    refine J.getR (r := 68) fl_X6_18 rfl dX6_leastChoice_11 (lt65 hs) (kk65 hs) (rr65_6 hs) ?_
    refine J.iload_n dX6_leastChoice_14 rfl rfl ?_
    refine J.bipush (v := 8) dX6_leastChoice_15 (by decide) ?_
    refine J.imul dX6_leastChoice_17 ?_
    refine J.iload_n dX6_leastChoice_18 rfl rfl ?_
    refine J.iadd dX6_leastChoice_19 ?_
    obtain ⟨hb2, hW⟩ := hW
    refine J.zald (x := I 68 (((x1 * 8) + x3).toNatClampNeg)) dX6_leastChoice_20 (lt68 hs) (kk68 hs) hb2 rfl ?_
    refine J.if_eq 55 dX6_leastChoice_21 (by decide) (fun hc3 => ?_) (fun hc3 => ?_)
    · have hW := hW.1 hc3
      refine J.iinc (v := x3 + 1) (vs' := [some (.ref (eB E + 65)), some (.int x1), some (.int x2), some (.int (x3 + 1))]) dX6_leastChoice_55 rfl (by rfl) (by decide) rfl ?_
      refine J.goto 2 dX6_leastChoice_58 (by decide) ?_
      exact hW
    · have hW := hW.2 hc3
      refine J.iload_n dX6_leastChoice_24 rfl rfl ?_
      refine J.iload_n dX6_leastChoice_25 rfl rfl ?_
      refine J.ishr dX6_leastChoice_26 ?_
      refine J.iconst (v := 1) dX6_leastChoice_27 (by decide) ?_
      refine J.iand dX6_leastChoice_28 ?_
      refine J.if_ne 55 dX6_leastChoice_29 (by decide) (fun hc4 => ?_) (fun hc4 => ?_)
      · have hW := hW.2 hc4
        refine J.iinc (v := x3 + 1) (vs' := [some (.ref (eB E + 65)), some (.int x1), some (.int x2), some (.int (x3 + 1))]) dX6_leastChoice_55 rfl (by rfl) (by decide) rfl ?_
        refine J.goto 2 dX6_leastChoice_58 (by decide) ?_
        exact hW
      · have hW := hW.1 hc4
        refine J.aload_n dX6_leastChoice_32 rfl rfl ?_
        refine J.iload_n dX6_leastChoice_33 rfl rfl ?_
        refine J.iload_n dX6_leastChoice_34 rfl rfl ?_
        refine J.iload_n dX6_leastChoice_35 rfl rfl ?_
        obtain ⟨hb5, hW⟩ := hW
        obtain ⟨hb6, hW⟩ := hW
        refine J.callV (M' := mX6_worthWith) (index := 116) (bc := 0) (bs := 0) (bc' := 0) (bs' := 0) (st := []) [.int x1, .int x3, .int x2] ml_X6_116 cv_X6_worthWith dX6_leastChoice_36 (lt65 hs) (kk65 hs) (by decide) rfl rfl rfl rfl (Nat.le_of_ble_eq_true rfl) (kqi (w_X6_worthWith (d := d) (Q := qi h L (fun v I' => I' = I ∧ v = (I 71 (((x1 * 8) + x3).toNatClampNeg)) + (I 75 ((((x1 + 1) <<< (8 &&& 31)) + (x2 ||| ((1 : Int32) <<< (x3 &&& 31)))).toNatClampNeg)))) hs x1 x3 x2 ⟨hb5, hb6, rfl, rfl, _, rfl, rfl, rfl⟩) (fun v7 I8 hv => ?_))
        rw [hv.1, hv.2]
        refine J.aload_n dX6_leastChoice_39 rfl rfl ?_
        refine J.getR (r := 75) fl_X6_40 rfl dX6_leastChoice_40 (lt65 hs) (kk65 hs) (rr65_13 hs) ?_
        refine J.iload_n dX6_leastChoice_43 rfl rfl ?_
        refine J.bipush (v := 8) dX6_leastChoice_44 (by decide) ?_
        refine J.ishl dX6_leastChoice_46 ?_
        refine J.iload_n dX6_leastChoice_47 rfl rfl ?_
        refine J.iadd dX6_leastChoice_48 ?_
        obtain ⟨hb9, hW⟩ := hW
        refine J.iald (x := I 75 (((x1 <<< (8 &&& 31)) + x2).toNatClampNeg)) dX6_leastChoice_49 (lt75 hs) (kk75 hs) hb9 rfl ?_
        refine J.ic_ne 55 dX6_leastChoice_50 (by decide) (fun hc10 => ?_) (fun hc10 => ?_)
        · have hW := hW.2 hc10
          refine J.iinc (v := x3 + 1) (vs' := [some (.ref (eB E + 65)), some (.int x1), some (.int x2), some (.int (x3 + 1))]) dX6_leastChoice_55 rfl (by rfl) (by decide) rfl ?_
          refine J.goto 2 dX6_leastChoice_58 (by decide) ?_
          exact hW
        · have hW := hW.1 hc10
          refine J.iload_n dX6_leastChoice_53 rfl rfl ?_
          exact J.reti dX6_leastChoice_54 rfl rfl hW
set_option maxRecDepth 100000 in
set_option maxHeartbeats 4000000 in
theorem w_X6_settleBest {E : Envt} {d : Nat} {Q : Pst} {h : mS} {I : mI} {L : mL} (hs : SL h)  
    (hW : (CT E mJ7_fill_53178 (d + 1) 0 0 [.ref (eB E + 76), .int (-1)] h I L (qv h L fun I1 => (∀ y2 : Int32, y2 = (1 : Int32) <<< ((I1 65 5) &&& 31) → J E mX6_settleBest (d + 2) Q 0 0 17 [some (.ref (eB E + 65)), some (.int y2), some (.int 0), none] [] h I1 L)))) :
    CT E mX6_settleBest (d + 2) 0 0 [.ref (eB E + 65)] h I L Q := by
  refine CT.of (by decide) [some (.ref (eB E + 65)), none, none, none] rfl (Nat.le_of_ble_eq_true rfl) ?_
  refine J.aload_n dX6_settleBest_0 rfl rfl ?_
  refine J.getR (r := 76) fl_X6_43 rfl dX6_settleBest_1 (lt65 hs) (kk65 hs) (rr65_14 hs) ?_
  refine J.iconst (v := (-1)) dX6_settleBest_4 (by decide) ?_
  refine J.callS (M' := mJ7_fill_53178) (index := 97) (bc := 0) (bs := 0) (bc' := 0) (bs' := 0) (st := []) [.ref (eB E + 76), .int (-1)] ml_X6_97 cv_J7_fill_53178 dX6_settleBest_5 rfl rfl (Nat.le_of_ble_eq_true rfl) (kqv hW (fun I1 hW => ?_))
  refine J.iconst (v := 1) dX6_settleBest_8 (by decide) ?_
  refine J.aload_n dX6_settleBest_9 rfl rfl ?_
  refine J.getI (x := I1 65 5) fl_X6_62 rfl dX6_settleBest_10 (lt65 hs) (kk65 hs) rfl ?_
  refine J.ishl dX6_settleBest_13 ?_
  refine J.topi (fun y2 hyy2 => ?_)
  have hW := hW y2 hyy2
  refine J.istore_n (vs' := [some (.ref (eB E + 65)), some (.int y2), none, none]) dX6_settleBest_14 rfl (by decide) rfl ?_
  refine J.iconst (v := 0) dX6_settleBest_15 (by decide) ?_
  refine J.istore_n (vs' := [some (.ref (eB E + 65)), some (.int y2), some (.int 0), none]) dX6_settleBest_16 rfl (by decide) rfl ?_
  exact hW
set_option maxRecDepth 100000 in
set_option maxHeartbeats 4000000 in
theorem w_X6_settleBest_17 {E : Envt} {d : Nat} {Q : Pst} {h : mS} {I : mI} {L : mL} (hs : SL h)    (x1 : Int32) (x2 : Int32)
    (hW : (((x1 ≤ x2) → J E mX6_settleBest (d + 2) Q 0 0 50 [some (.ref (eB E + 65)), some (.int x1), some (.int ((I 65 4) - 1)), none] [] h I L) ∧ (¬ (x1 ≤ x2) → (vp_in (((I 65 4) <<< (8 &&& 31)) + x2) 2304 ∧ J E mX6_settleBest (d + 2) Q 0 0 17 [some (.ref (eB E + 65)), some (.int x1), some (.int (x2 + 1)), none] [] h (uI I 75 ((((I 65 4) <<< (8 &&& 31)) + x2).toNatClampNeg) 0) L)))) :
    J E mX6_settleBest (d + 2) Q 0 0 17 [some (.ref (eB E + 65)), some (.int x1), some (.int x2), none] [] h I L := by
  refine J.iload_n dX6_settleBest_17 rfl rfl ?_
  refine J.iload_n dX6_settleBest_18 rfl rfl ?_
  refine J.ic_ge 43 dX6_settleBest_19 (by decide) (fun hc1 => ?_) (fun hc1 => ?_)
  · have hW := hW.1 hc1
    refine J.aload_n dX6_settleBest_43 rfl rfl ?_
    refine J.getI (x := I 65 4) fl_X6_58 rfl dX6_settleBest_44 (lt65 hs) (kk65 hs) rfl ?_
    refine J.iconst (v := 1) dX6_settleBest_47 (by decide) ?_
    refine J.isub dX6_settleBest_48 ?_
    refine J.istore_n (vs' := [some (.ref (eB E + 65)), some (.int x1), some (.int ((I 65 4) - 1)), none]) dX6_settleBest_49 rfl (by decide) rfl ?_
    exact hW
  · have hW := hW.2 hc1
    refine J.aload_n dX6_settleBest_22 rfl rfl ?_
    refine J.getR (r := 75) fl_X6_40 rfl dX6_settleBest_23 (lt65 hs) (kk65 hs) (rr65_13 hs) ?_
    refine J.aload_n dX6_settleBest_26 rfl rfl ?_
    refine J.getI (x := I 65 4) fl_X6_58 rfl dX6_settleBest_27 (lt65 hs) (kk65 hs) rfl ?_
    refine J.bipush (v := 8) dX6_settleBest_30 (by decide) ?_
    refine J.ishl dX6_settleBest_32 ?_
    refine J.iload_n dX6_settleBest_33 rfl rfl ?_
    refine J.iadd dX6_settleBest_34 ?_
    refine J.iconst (v := 0) dX6_settleBest_35 (by decide) ?_
    obtain ⟨hb2, hW⟩ := hW
    refine J.iast dX6_settleBest_36 (lt75 hs) (kk75 hs) hb2 ?_
    refine J.iinc (v := x2 + 1) (vs' := [some (.ref (eB E + 65)), some (.int x1), some (.int (x2 + 1)), none]) dX6_settleBest_37 rfl (by rfl) (by decide) rfl ?_
    refine J.goto 17 dX6_settleBest_40 (by decide) ?_
    exact hW
set_option maxRecDepth 100000 in
set_option maxHeartbeats 4000000 in
theorem w_X6_settleBest_50 {E : Envt} {d : Nat} {Q : Pst} {h : mS} {I : mI} {L : mL} (hs : SL h)    (x1 : Int32) (x2 : Int32)
    (hW : (((x2 < 0) → J E mX6_settleBest (d + 2) Q 0 0 102 [some (.ref (eB E + 65)), some (.int x1), some (.int 0), some (.int 0)] [] h I L) ∧ (¬ (x2 < 0) → J E mX6_settleBest (d + 2) Q 0 0 56 [some (.ref (eB E + 65)), some (.int x1), some (.int x2), some (.int 0)] [] h I L))) :
    J E mX6_settleBest (d + 2) Q 0 0 50 [some (.ref (eB E + 65)), some (.int x1), some (.int x2), none] [] h I L := by
  refine J.iload_n dX6_settleBest_50 rfl rfl ?_
  refine J.if_lt 98 dX6_settleBest_51 (by decide) (fun hc1 => ?_) (fun hc1 => ?_)
  · have hW := hW.1 hc1
    refine J.iconst (v := 0) dX6_settleBest_98 (by decide) ?_
    refine J.istore_n (vs' := [some (.ref (eB E + 65)), some (.int x1), some (.int 0), none]) dX6_settleBest_99 rfl (by decide) rfl ?_
    refine J.iconst (v := 0) dX6_settleBest_100 (by decide) ?_
    refine J.istore_n (vs' := [some (.ref (eB E + 65)), some (.int x1), some (.int 0), some (.int 0)]) dX6_settleBest_101 rfl (by decide) rfl ?_
    exact hW
  · have hW := hW.2 hc1
    refine J.iconst (v := 0) dX6_settleBest_54 (by decide) ?_
    refine J.istore_n (vs' := [some (.ref (eB E + 65)), some (.int x1), some (.int x2), some (.int 0)]) dX6_settleBest_55 rfl (by decide) rfl ?_
    exact hW
set_option maxRecDepth 100000 in
set_option maxHeartbeats 4000000 in
theorem w_X6_settleBest_56 {E : Envt} {d : Nat} {Q : Pst} {h : mS} {I : mI} {L : mL} (hs : SL h)    (x1 : Int32) (x2 : Int32) (x3 : Int32)
    (hW : (((x1 ≤ x3) → J E mX6_settleBest (d + 2) Q 0 0 50 [some (.ref (eB E + 65)), some (.int x1), some (.int (x2 + (-1))), none] [] h I L) ∧ (¬ (x1 ≤ x3) → (CT E mJ6_bitCount_0f7a4 (d + 1) 0 0 [.int x3] h I L (qi h L fun r3 I2 => (((x2 < r3) → J E mX6_settleBest (d + 2) Q 0 0 56 [some (.ref (eB E + 65)), some (.int x1), some (.int x2), some (.int (x3 + 1))] [] h I2 L) ∧ (¬ (x2 < r3) → (CT E mX6_mostWorth (d + 1) 0 0 [.ref (eB E + 65), .int x2, .int x3] h I2 L (qi h L fun r6 I5 => (vp_in ((x2 <<< (8 &&& 31)) + x3) 2304 ∧ J E mX6_settleBest (d + 2) Q 0 0 56 [some (.ref (eB E + 65)), some (.int x1), some (.int x2), some (.int (x3 + 1))] [] h (uI I5 75 (((x2 <<< (8 &&& 31)) + x3).toNatClampNeg) r6) L)))))))))) :
    J E mX6_settleBest (d + 2) Q 0 0 56 [some (.ref (eB E + 65)), some (.int x1), some (.int x2), some (.int x3)] [] h I L := by
  refine J.iload_n dX6_settleBest_56 rfl rfl ?_
  refine J.iload_n dX6_settleBest_57 rfl rfl ?_
  refine J.ic_ge 92 dX6_settleBest_58 (by decide) (fun hc1 => ?_) (fun hc1 => ?_)
  · have hW := hW.1 hc1
    refine J.iinc (v := x2 + (-1)) (vs' := [some (.ref (eB E + 65)), some (.int x1), some (.int (x2 + (-1))), some (.int x3)]) dX6_settleBest_92 rfl (by rfl) (by decide) rfl ?_
    refine J.goto 50 dX6_settleBest_95 (by decide) ?_
    exact J.mask [true, true, true, false] rfl hW
  · have hW := hW.2 hc1
    refine J.iload_n dX6_settleBest_61 rfl rfl ?_
    refine J.callS (M' := mJ6_bitCount_0f7a4) (index := 103) (bc := 0) (bs := 0) (bc' := 0) (bs' := 0) (st := []) [.int x3] ml_X6_103 cv_J6_bitCount_0f7a4 dX6_settleBest_62 rfl rfl (Nat.le_of_ble_eq_true rfl) (kqi hW (fun r3 I2 hW => ?_))
    refine J.iload_n dX6_settleBest_65 rfl rfl ?_
    refine J.ic_gt 86 dX6_settleBest_66 (by decide) (fun hc4 => ?_) (fun hc4 => ?_)
    · have hW := hW.1 hc4
      refine J.iinc (v := x3 + 1) (vs' := [some (.ref (eB E + 65)), some (.int x1), some (.int x2), some (.int (x3 + 1))]) dX6_settleBest_86 rfl (by rfl) (by decide) rfl ?_
      refine J.goto 56 dX6_settleBest_89 (by decide) ?_
      exact hW
    · have hW := hW.2 hc4
      refine J.aload_n dX6_settleBest_69 rfl rfl ?_
      refine J.getR (r := 75) fl_X6_40 rfl dX6_settleBest_70 (lt65 hs) (kk65 hs) (rr65_13 hs) ?_
      refine J.iload_n dX6_settleBest_73 rfl rfl ?_
      refine J.bipush (v := 8) dX6_settleBest_74 (by decide) ?_
      refine J.ishl dX6_settleBest_76 ?_
      refine J.iload_n dX6_settleBest_77 rfl rfl ?_
      refine J.iadd dX6_settleBest_78 ?_
      refine J.aload_n dX6_settleBest_79 rfl rfl ?_
      refine J.iload_n dX6_settleBest_80 rfl rfl ?_
      refine J.iload_n dX6_settleBest_81 rfl rfl ?_
      refine J.callV (M' := mX6_mostWorth) (index := 109) (bc := 0) (bs := 0) (bc' := 0) (bs' := 0) (st := [.int ((x2 <<< (8 &&& 31)) + x3), .ref (eB E + 75)]) [.int x2, .int x3] ml_X6_109 cv_X6_mostWorth dX6_settleBest_82 (lt65 hs) (kk65 hs) (by decide) rfl rfl rfl rfl (Nat.le_of_ble_eq_true rfl) (kqi hW (fun r6 I5 hW => ?_))
      obtain ⟨hb7, hW⟩ := hW
      refine J.iast dX6_settleBest_85 (lt75 hs) (kk75 hs) hb7 ?_
      refine J.iinc (v := x3 + 1) (vs' := [some (.ref (eB E + 65)), some (.int x1), some (.int x2), some (.int (x3 + 1))]) dX6_settleBest_86 rfl (by rfl) (by decide) rfl ?_
      refine J.goto 56 dX6_settleBest_89 (by decide) ?_
      exact hW
set_option maxRecDepth 100000 in
set_option maxHeartbeats 4000000 in
theorem w_X6_settleBest_102 {E : Envt} {d : Nat} {Q : Pst} {h : mS} {I : mI} {L : mL} (hs : SL h)    (x1 : Int32) (x2 : Int32) (x3 : Int32)
    (hW : ((((I 65 4) ≤ x3) → Q none h I L) ∧ (¬ ((I 65 4) ≤ x3) → (CT E mX6_leastChoice (d + 1) 0 0 [.ref (eB E + 65), .int x3, .int x2] h I L (qi h L fun r3 I2 => (vp_in x3 8 ∧ J E mX6_settleBest (d + 2) Q 0 0 102 [some (.ref (eB E + 65)), some (.int x1), some (.int (if r3 = (-1) then x2 else x2 ||| ((1 : Int32) <<< (r3 &&& 31)) : Int32)), some (.int (x3 + 1))] [] h (uI I2 76 x3.toNatClampNeg r3) L)))))) :
    J E mX6_settleBest (d + 2) Q 0 0 102 [some (.ref (eB E + 65)), some (.int x1), some (.int x2), some (.int x3)] [] h I L := by
  refine J.iload_n dX6_settleBest_102 rfl rfl ?_
  refine J.aload_n dX6_settleBest_103 rfl rfl ?_
  refine J.getI (x := I 65 4) fl_X6_58 rfl dX6_settleBest_104 (lt65 hs) (kk65 hs) rfl ?_
  refine J.ic_ge 149 dX6_settleBest_107 (by decide) (fun hc1 => ?_) (fun hc1 => ?_)
  · have hW := hW.1 hc1
    exact J.retv dX6_settleBest_149 rfl hW
  · have hW := hW.2 hc1
    refine J.aload_n dX6_settleBest_110 rfl rfl ?_
    refine J.getR (r := 76) fl_X6_43 rfl dX6_settleBest_111 (lt65 hs) (kk65 hs) (rr65_14 hs) ?_
    refine J.iload_n dX6_settleBest_114 rfl rfl ?_
    refine J.aload_n dX6_settleBest_115 rfl rfl ?_
    refine J.iload_n dX6_settleBest_116 rfl rfl ?_
    refine J.iload_n dX6_settleBest_117 rfl rfl ?_
    refine J.callV (M' := mX6_leastChoice) (index := 113) (bc := 0) (bs := 0) (bc' := 0) (bs' := 0) (st := [.int x3, .ref (eB E + 76)]) [.int x3, .int x2] ml_X6_113 cv_X6_leastChoice dX6_settleBest_118 (lt65 hs) (kk65 hs) (by decide) rfl rfl rfl rfl (Nat.le_of_ble_eq_true rfl) (kqi hW (fun r3 I2 hW => ?_))
    obtain ⟨hb4, hW⟩ := hW
    refine J.iast dX6_settleBest_121 (lt76 hs) (kk76 hs) hb4 ?_
    refine J.aload_n dX6_settleBest_122 rfl rfl ?_
    refine J.getR (r := 76) fl_X6_43 rfl dX6_settleBest_123 (lt65 hs) (kk65 hs) (rr65_14 hs) ?_
    refine J.iload_n dX6_settleBest_126 rfl rfl ?_
    refine J.iald (x := r3) dX6_settleBest_127 (lt76 hs) (kk76 hs) hb4 (by simp [uI]) ?_
    refine J.iconst (v := (-1)) dX6_settleBest_128 (by decide) ?_
    have hj : J E mX6_settleBest (d + 2) Q 0 0 143 [some (.ref (eB E + 65)), some (.int x1), some (.int (if r3 = (-1) then x2 else x2 ||| ((1 : Int32) <<< (r3 &&& 31)) : Int32)), some (.int x3)] [] h (uI I2 76 x3.toNatClampNeg r3) L := by
      refine J.iinc (v := x3 + 1) (vs' := [some (.ref (eB E + 65)), some (.int x1), some (.int (if r3 = (-1) then x2 else x2 ||| ((1 : Int32) <<< (r3 &&& 31)) : Int32)), some (.int (x3 + 1))]) dX6_settleBest_143 rfl (by rfl) (by decide) rfl ?_
      refine J.goto 102 dX6_settleBest_146 (by decide) ?_
      exact hW
    refine J.ic_eq 143 dX6_settleBest_129 (by decide) (fun hc5 => ?_) (fun hc5 => ?_)
    · rw [show ((if r3 = (-1) then x2 else x2 ||| ((1 : Int32) <<< (r3 &&& 31)) : Int32) = x2) from by simp only [eq_true hc5, if_true, if_false, bI_true, bI_false, and_true, true_and, and_false, false_and, or_true, true_or, or_false, false_or, not_true_eq_false, not_false_eq_true]] at hj
      exact hj
    · refine J.iload_n dX6_settleBest_132 rfl rfl ?_
      refine J.iconst (v := 1) dX6_settleBest_133 (by decide) ?_
      refine J.aload_n dX6_settleBest_134 rfl rfl ?_
      refine J.getR (r := 76) fl_X6_43 rfl dX6_settleBest_135 (lt65 hs) (kk65 hs) (rr65_14 hs) ?_
      refine J.iload_n dX6_settleBest_138 rfl rfl ?_
      refine J.iald (x := r3) dX6_settleBest_139 (lt76 hs) (kk76 hs) hb4 (by simp [uI]) ?_
      refine J.ishl dX6_settleBest_140 ?_
      refine J.ior dX6_settleBest_141 ?_
      refine J.istore_n (vs' := [some (.ref (eB E + 65)), some (.int x1), some (.int (x2 ||| ((1 : Int32) <<< (r3 &&& 31)))), some (.int x3)]) dX6_settleBest_142 rfl (by decide) rfl ?_
      rw [show ((if r3 = (-1) then x2 else x2 ||| ((1 : Int32) <<< (r3 &&& 31)) : Int32) = x2 ||| ((1 : Int32) <<< (r3 &&& 31))) from by simp only [eq_false hc5, if_true, if_false, bI_true, bI_false, and_true, true_and, and_false, false_and, or_true, true_or, or_false, false_or, not_true_eq_false, not_false_eq_true]] at hj
      exact hj
