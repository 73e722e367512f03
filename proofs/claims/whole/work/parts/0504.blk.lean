set_option maxRecDepth 100000 in
set_option maxHeartbeats 4000000 in
theorem w_X3_leastParent {E : Envt} {d : Nat} {Q : Pst} {h : mS} {I : mI} {L : mL} (hs : SL h) (x1 : Int32) (x2 : Int32) 
    (hW : J E mX3_leastParent (d + 1) Q 0 0 2 [some (.ref (eB E + 56)), some (.int x1), some (.int x2), some (.int 0)] [] h I L) :
    CT E mX3_leastParent (d + 1) 0 0 [.ref (eB E + 56), .int x1, .int x2] h I L Q := by
  refine CT.of (by decide) [some (.ref (eB E + 56)), some (.int x1), some (.int x2), none] rfl (Nat.le_of_ble_eq_true rfl) ?_
  refine J.iconst (v := 0) dX3_leastParent_0 (by decide) ?_
  refine J.istore_n (vs' := [some (.ref (eB E + 56)), some (.int x1), some (.int x2), some (.int 0)]) dX3_leastParent_1 rfl (by decide) rfl ?_
  exact hW
set_option maxRecDepth 100000 in
set_option maxHeartbeats 4000000 in
theorem w_X3_leastParent_2 {E : Envt} {d : Nat} {Q : Pst} {h : mS} {I : mI} {L : mL} (hs : SL h)    (x1 : Int32) (x2 : Int32) (x3 : Int32)
    (hW : ((((I 7 0) ≤ x3) → Q (some (.int (-1))) h I L) ∧ (¬ ((I 7 0) ≤ x3) → (CT E mX3_isChildOf d 0 0 [.ref (eB E + 56), .int x1, .int x3] h I L (qi h L fun r3 I2 => (((r3 = 0) → J E mX3_leastParent (d + 1) Q 0 0 2 [some (.ref (eB E + 56)), some (.int x1), some (.int x2), some (.int (x3 + 1))] [] h I2 L) ∧ (¬ (r3 = 0) → (vp_in x3 20 ∧ ((((I2 61 x3.toNatClampNeg) = x2) → Q (some (.int x3)) h I2 L) ∧ (¬ ((I2 61 x3.toNatClampNeg) = x2) → J E mX3_leastParent (d + 1) Q 0 0 2 [some (.ref (eB E + 56)), some (.int x1), some (.int x2), some (.int (x3 + 1))] [] h I2 L)))))))))) :
    J E mX3_leastParent (d + 1) Q 0 0 2 [some (.ref (eB E + 56)), some (.int x1), some (.int x2), some (.int x3)] [] h I L := by
  refine J.iload_n dX3_leastParent_2 rfl rfl ?_
  refine J.aload_n dX3_leastParent_3 rfl rfl ?_
  refine J.getR (r := 1) fl_X3_30 rfl dX3_leastParent_4 (lt56 hs) (kk56 hs) (rr56_0 hs) ?_
  refine J.getR (r := 7) fl_X3_63 rfl dX3_leastParent_7 (lt1 hs) (kk1 hs) (rr1_2 hs) ?_
  refine J.getI (x := I 7 0) fl_X3_69 rfl dX3_leastParent_10 (lt7 hs) (kk7 hs) rfl ?_
  refine J.ic_ge 43 dX3_leastParent_13 (by decide) (fun hc1 => ?_) (fun hc1 => ?_)
  · have hW := hW.1 hc1
    refine J.iconst (v := (-1)) dX3_leastParent_43 (by decide) ?_
    exact J.reti dX3_leastParent_44 rfl rfl hW
  · have hW := hW.2 hc1
    refine J.aload_n dX3_leastParent_16 rfl rfl ?_
    refine J.iload_n dX3_leastParent_17 rfl rfl ?_
    refine J.iload_n dX3_leastParent_18 rfl rfl ?_
    refine J.callV (M' := mX3_isChildOf) (index := 101) (bc := 0) (bs := 0) (bc' := 0) (bs' := 0) (st := []) [.int x1, .int x3] ml_X3_101 cv_X3_isChildOf dX3_leastParent_19 (lt56 hs) (kk56 hs) (by decide) rfl rfl rfl rfl (Nat.le_of_ble_eq_true rfl) (kqi hW (fun r3 I2 hW => ?_))
    refine J.if_eq 37 dX3_leastParent_22 (by decide) (fun hc4 => ?_) (fun hc4 => ?_)
    · have hW := hW.1 hc4
      refine J.iinc (v := x3 + 1) (vs' := [some (.ref (eB E + 56)), some (.int x1), some (.int x2), some (.int (x3 + 1))]) dX3_leastParent_37 rfl (by rfl) (by decide) rfl ?_
      refine J.goto 2 dX3_leastParent_40 (by decide) ?_
      exact hW
    · have hW := hW.2 hc4
      refine J.aload_n dX3_leastParent_25 rfl rfl ?_
      refine J.getR (r := 61) fl_X3_24 rfl dX3_leastParent_26 (lt56 hs) (kk56 hs) (rr56_5 hs) ?_
      refine J.iload_n dX3_leastParent_29 rfl rfl ?_
      obtain ⟨hb5, hW⟩ := hW
      refine J.iald (x := I2 61 x3.toNatClampNeg) dX3_leastParent_30 (lt61 hs) (kk61 hs) hb5 rfl ?_
      refine J.iload_n dX3_leastParent_31 rfl rfl ?_
      refine J.ic_ne 37 dX3_leastParent_32 (by decide) (fun hc6 => ?_) (fun hc6 => ?_)
      · have hW := hW.2 hc6
        refine J.iinc (v := x3 + 1) (vs' := [some (.ref (eB E + 56)), some (.int x1), some (.int x2), some (.int (x3 + 1))]) dX3_leastParent_37 rfl (by rfl) (by decide) rfl ?_
        refine J.goto 2 dX3_leastParent_40 (by decide) ?_
        exact hW
      · have hW := hW.1 hc6
        refine J.iload_n dX3_leastParent_35 rfl rfl ?_
        exact J.reti dX3_leastParent_36 rfl rfl hW
set_option maxRecDepth 100000 in
set_option maxHeartbeats 4000000 in
theorem w_X3_rise {E : Envt} {d : Nat} {Q : Pst} {h : mS} {I : mI} {L : mL} (hs : SL h) (x1 : Int32) (x2 : Int32) (x3 : Int32) 
    (hW : (CT E mX3_descend (d + 1) 0 0 [.ref (eB E + 56), .int x2] h I L (qv h L fun I1 => J E mX3_rise (d + 2) Q 0 0 11 [some (.ref (eB E + 56)), some (.int x1), some (.int x2), some (.int x3), some (.int x1), some (.int 1)] [] h I1 L))) :
    CT E mX3_rise (d + 2) 0 0 [.ref (eB E + 56), .int x1, .int x2, .int x3] h I L Q := by
  refine CT.of (by decide) [some (.ref (eB E + 56)), some (.int x1), some (.int x2), some (.int x3), none, none] rfl (Nat.le_of_ble_eq_true rfl) ?_
  refine J.aload_n dX3_rise_0 rfl rfl ?_
  refine J.iload_n dX3_rise_1 rfl rfl ?_
  refine J.callV (M' := mX3_descend) (index := 104) (bc := 0) (bs := 0) (bc' := 0) (bs' := 0) (st := []) [.int x2] ml_X3_104 cv_X3_descend dX3_rise_2 (lt56 hs) (kk56 hs) (by decide) rfl rfl rfl rfl (Nat.le_of_ble_eq_true rfl) (kqv hW (fun I1 hW => ?_))
  refine J.iload_n dX3_rise_5 rfl rfl ?_
  refine J.istore (vs' := [some (.ref (eB E + 56)), some (.int x1), some (.int x2), some (.int x3), some (.int x1), none]) dX3_rise_6 (by decide) rfl ?_
  refine J.iconst (v := 1) dX3_rise_8 (by decide) ?_
  refine J.istore (vs' := [some (.ref (eB E + 56)), some (.int x1), some (.int x2), some (.int x3), some (.int x1), some (.int 1)]) dX3_rise_9 (by decide) rfl ?_
  exact hW
set_option maxRecDepth 100000 in
set_option maxHeartbeats 4000000 in
theorem w_X3_rise_11 {E : Envt} {d : Nat} {Q : Pst} {h : mS} {I : mI} {L : mL} (hs : SL h)    (x1 : Int32) (x2 : Int32) (x3 : Int32) (x4 : Int32) (x5 : Int32)
    (hW : (((x3 < x5) → Q (some (.int x4)) h I L) ∧ (¬ (x3 < x5) → (((x4 = (-1)) → Q (some (.int x4)) h I L) ∧ (¬ (x4 = (-1)) → (vp_in x2 20 ∧ (CT E mX3_leastParent (d + 1) 0 0 [.ref (eB E + 56), .int x4, .int ((I 59 x2.toNatClampNeg) - x5)] h I L (qi h L fun r5 I4 => J E mX3_rise (d + 2) Q 0 0 11 [some (.ref (eB E + 56)), some (.int x1), some (.int x2), some (.int x3), some (.int r5), some (.int (x5 + 1))] [] h I4 L)))))))) :
    J E mX3_rise (d + 2) Q 0 0 11 [some (.ref (eB E + 56)), some (.int x1), some (.int x2), some (.int x3), some (.int x4), some (.int x5)] [] h I L := by
  refine J.iload dX3_rise_11 rfl ?_
  refine J.iload_n dX3_rise_13 rfl rfl ?_
  refine J.ic_gt 46 dX3_rise_14 (by decide) (fun hc1 => ?_) (fun hc1 => ?_)
  · have hW := hW.1 hc1
    refine J.iload dX3_rise_46 rfl ?_
    exact J.reti dX3_rise_48 rfl rfl hW
  · have hW := hW.2 hc1
    refine J.iload dX3_rise_17 rfl ?_
    refine J.iconst (v := (-1)) dX3_rise_19 (by decide) ?_
    refine J.ic_eq 46 dX3_rise_20 (by decide) (fun hc2 => ?_) (fun hc2 => ?_)
    · have hW := hW.1 hc2
      refine J.iload dX3_rise_46 rfl ?_
      exact J.reti dX3_rise_48 rfl rfl hW
    · have hW := hW.2 hc2
      refine J.aload_n dX3_rise_23 rfl rfl ?_
      refine J.iload dX3_rise_24 rfl ?_
      refine J.aload_n dX3_rise_26 rfl rfl ?_
      refine J.getR (r := 59) fl_X3_18 rfl dX3_rise_27 (lt56 hs) (kk56 hs) (rr56_3 hs) ?_
      refine J.iload_n dX3_rise_30 rfl rfl ?_
      obtain ⟨hb3, hW⟩ := hW
      refine J.iald (x := I 59 x2.toNatClampNeg) dX3_rise_31 (lt59 hs) (kk59 hs) hb3 rfl ?_
      refine J.iload dX3_rise_32 rfl ?_
      refine J.isub dX3_rise_34 ?_
      refine J.callV (M' := mX3_leastParent) (index := 108) (bc := 0) (bs := 0) (bc' := 0) (bs' := 0) (st := []) [.int x4, .int ((I 59 x2.toNatClampNeg) - x5)] ml_X3_108 cv_X3_leastParent dX3_rise_35 (lt56 hs) (kk56 hs) (by decide) rfl rfl rfl rfl (Nat.le_of_ble_eq_true rfl) (kqi hW (fun r5 I4 hW => ?_))
      refine J.istore (vs' := [some (.ref (eB E + 56)), some (.int x1), some (.int x2), some (.int x3), some (.int r5), some (.int x5)]) dX3_rise_38 (by decide) rfl ?_
      refine J.iinc (v := x5 + 1) (vs' := [some (.ref (eB E + 56)), some (.int x1), some (.int x2), some (.int x3), some (.int r5), some (.int (x5 + 1))]) dX3_rise_40 rfl (by rfl) (by decide) rfl ?_
      refine J.goto 11 dX3_rise_43 (by decide) ?_
      exact hW
set_option maxRecDepth 100000 in
set_option maxHeartbeats 4000000 in
theorem w_X3_leastChild {E : Envt} {d : Nat} {Q : Pst} {h : mS} {I : mI} {L : mL} (hs : SL h) (x1 : Int32) (x2 : Int32) 
    (hW : J E mX3_leastChild (d + 1) Q 0 0 2 [some (.ref (eB E + 56)), some (.int x1), some (.int x2), some (.int 0)] [] h I L) :
    CT E mX3_leastChild (d + 1) 0 0 [.ref (eB E + 56), .int x1, .int x2] h I L Q := by
  refine CT.of (by decide) [some (.ref (eB E + 56)), some (.int x1), some (.int x2), none] rfl (Nat.le_of_ble_eq_true rfl) ?_
  refine J.iconst (v := 0) dX3_leastChild_0 (by decide) ?_
  refine J.istore_n (vs' := [some (.ref (eB E + 56)), some (.int x1), some (.int x2), some (.int 0)]) dX3_leastChild_1 rfl (by decide) rfl ?_
  exact hW
set_option maxRecDepth 100000 in
set_option maxHeartbeats 4000000 in
theorem w_X3_leastChild_2 {E : Envt} {d : Nat} {Q : Pst} {h : mS} {I : mI} {L : mL} (hs : SL h)    (x1 : Int32) (x2 : Int32) (x3 : Int32)
    (hW : ((((I 7 0) ≤ x3) → Q (some (.int (-1))) h I L) ∧ (¬ ((I 7 0) ≤ x3) → (CT E mX3_isChildOf d 0 0 [.ref (eB E + 56), .int x3, .int x1] h I L (qi h L fun r3 I2 => (((r3 = 0) → J E mX3_leastChild (d + 1) Q 0 0 2 [some (.ref (eB E + 56)), some (.int x1), some (.int x2), some (.int (x3 + 1))] [] h I2 L) ∧ (¬ (r3 = 0) → (vp_in x3 20 ∧ ((((I2 60 x3.toNatClampNeg) = x2) → Q (some (.int x3)) h I2 L) ∧ (¬ ((I2 60 x3.toNatClampNeg) = x2) → J E mX3_leastChild (d + 1) Q 0 0 2 [some (.ref (eB E + 56)), some (.int x1), some (.int x2), some (.int (x3 + 1))] [] h I2 L)))))))))) :
    J E mX3_leastChild (d + 1) Q 0 0 2 [some (.ref (eB E + 56)), some (.int x1), some (.int x2), some (.int x3)] [] h I L := by
  refine J.iload_n dX3_leastChild_2 rfl rfl ?_
  refine J.aload_n dX3_leastChild_3 rfl rfl ?_
  refine J.getR (r := 1) fl_X3_30 rfl dX3_leastChild_4 (lt56 hs) (kk56 hs) (rr56_0 hs) ?_
  refine J.getR (r := 7) fl_X3_63 rfl dX3_leastChild_7 (lt1 hs) (kk1 hs) (rr1_2 hs) ?_
  refine J.getI (x := I 7 0) fl_X3_69 rfl dX3_leastChild_10 (lt7 hs) (kk7 hs) rfl ?_
  refine J.ic_ge 43 dX3_leastChild_13 (by decide) (fun hc1 => ?_) (fun hc1 => ?_)
  · have hW := hW.1 hc1
    refine J.iconst (v := (-1)) dX3_leastChild_43 (by decide) ?_
    exact J.reti dX3_leastChild_44 rfl rfl hW
  · have hW := hW.2 hc1
    refine J.aload_n dX3_leastChild_16 rfl rfl ?_
    refine J.iload_n dX3_leastChild_17 rfl rfl ?_
    refine J.iload_n dX3_leastChild_18 rfl rfl ?_
    refine J.callV (M' := mX3_isChildOf) (index := 101) (bc := 0) (bs := 0) (bc' := 0) (bs' := 0) (st := []) [.int x3, .int x1] ml_X3_101 cv_X3_isChildOf dX3_leastChild_19 (lt56 hs) (kk56 hs) (by decide) rfl rfl rfl rfl (Nat.le_of_ble_eq_true rfl) (kqi hW (fun r3 I2 hW => ?_))
    refine J.if_eq 37 dX3_leastChild_22 (by decide) (fun hc4 => ?_) (fun hc4 => ?_)
    · have hW := hW.1 hc4
      refine J.iinc (v := x3 + 1) (vs' := [some (.ref (eB E + 56)), some (.int x1), some (.int x2), some (.int (x3 + 1))]) dX3_leastChild_37 rfl (by rfl) (by decide) rfl ?_
      refine J.goto 2 dX3_leastChild_40 (by decide) ?_
      exact hW
    · have hW := hW.2 hc4
      refine J.aload_n dX3_leastChild_25 rfl rfl ?_
      refine J.getR (r := 60) fl_X3_21 rfl dX3_leastChild_26 (lt56 hs) (kk56 hs) (rr56_4 hs) ?_
      refine J.iload_n dX3_leastChild_29 rfl rfl ?_
      obtain ⟨hb5, hW⟩ := hW
      refine J.iald (x := I2 60 x3.toNatClampNeg) dX3_leastChild_30 (lt60 hs) (kk60 hs) hb5 rfl ?_
      refine J.iload_n dX3_leastChild_31 rfl rfl ?_
      refine J.ic_ne 37 dX3_leastChild_32 (by decide) (fun hc6 => ?_) (fun hc6 => ?_)
      · have hW := hW.2 hc6
        refine J.iinc (v := x3 + 1) (vs' := [some (.ref (eB E + 56)), some (.int x1), some (.int x2), some (.int (x3 + 1))]) dX3_leastChild_37 rfl (by rfl) (by decide) rfl ?_
        refine J.goto 2 dX3_leastChild_40 (by decide) ?_
        exact hW
      · have hW := hW.1 hc6
        refine J.iload_n dX3_leastChild_35 rfl rfl ?_
        exact J.reti dX3_leastChild_36 rfl rfl hW
set_option maxRecDepth 100000 in
set_option maxHeartbeats 4000000 in
theorem w_X3_sink {E : Envt} {d : Nat} {Q : Pst} {h : mS} {I : mI} {L : mL} (hs : SL h) (x1 : Int32) (x2 : Int32) 
    (hW : J E mX3_sink (d + 2) Q 0 0 5 [some (.ref (eB E + 56)), some (.int x1), some (.int x2), some (.int x1), some (.int 1)] [] h I L) :
    CT E mX3_sink (d + 2) 0 0 [.ref (eB E + 56), .int x1, .int x2] h I L Q := by
  refine CT.of (by decide) [some (.ref (eB E + 56)), some (.int x1), some (.int x2), none, none] rfl (Nat.le_of_ble_eq_true rfl) ?_
  refine J.iload_n dX3_sink_0 rfl rfl ?_
  refine J.istore_n (vs' := [some (.ref (eB E + 56)), some (.int x1), some (.int x2), some (.int x1), none]) dX3_sink_1 rfl (by decide) rfl ?_
  refine J.iconst (v := 1) dX3_sink_2 (by decide) ?_
  refine J.istore (vs' := [some (.ref (eB E + 56)), some (.int x1), some (.int x2), some (.int x1), some (.int 1)]) dX3_sink_3 (by decide) rfl ?_
  exact hW
set_option maxRecDepth 100000 in
set_option maxHeartbeats 4000000 in
theorem w_X3_sink_5 {E : Envt} {d : Nat} {Q : Pst} {h : mS} {I : mI} {L : mL} (hs : SL h)    (x1 : Int32) (x2 : Int32) (x3 : Int32) (x4 : Int32)
    (hW : (((x2 < x4) → Q (some (.int x3)) h I L) ∧ (¬ (x2 < x4) → (((x3 = (-1)) → Q (some (.int x3)) h I L) ∧ (¬ (x3 = (-1)) → (vp_in x1 20 ∧ (CT E mX3_leastChild (d + 1) 0 0 [.ref (eB E + 56), .int x3, .int ((I 60 x1.toNatClampNeg) - x4)] h I L (qi h L fun r5 I4 => J E mX3_sink (d + 2) Q 0 0 5 [some (.ref (eB E + 56)), some (.int x1), some (.int x2), some (.int r5), some (.int (x4 + 1))] [] h I4 L)))))))) :
    J E mX3_sink (d + 2) Q 0 0 5 [some (.ref (eB E + 56)), some (.int x1), some (.int x2), some (.int x3), some (.int x4)] [] h I L := by
  refine J.iload dX3_sink_5 rfl ?_
  refine J.iload_n dX3_sink_7 rfl rfl ?_
  refine J.ic_gt 37 dX3_sink_8 (by decide) (fun hc1 => ?_) (fun hc1 => ?_)
  · have hW := hW.1 hc1
    refine J.iload_n dX3_sink_37 rfl rfl ?_
    exact J.reti dX3_sink_38 rfl rfl hW
  · have hW := hW.2 hc1
    refine J.iload_n dX3_sink_11 rfl rfl ?_
    refine J.iconst (v := (-1)) dX3_sink_12 (by decide) ?_
    refine J.ic_eq 37 dX3_sink_13 (by decide) (fun hc2 => ?_) (fun hc2 => ?_)
    · have hW := hW.1 hc2
      refine J.iload_n dX3_sink_37 rfl rfl ?_
      exact J.reti dX3_sink_38 rfl rfl hW
    · have hW := hW.2 hc2
      refine J.aload_n dX3_sink_16 rfl rfl ?_
      refine J.iload_n dX3_sink_17 rfl rfl ?_
      refine J.aload_n dX3_sink_18 rfl rfl ?_
      refine J.getR (r := 60) fl_X3_21 rfl dX3_sink_19 (lt56 hs) (kk56 hs) (rr56_4 hs) ?_
      refine J.iload_n dX3_sink_22 rfl rfl ?_
      obtain ⟨hb3, hW⟩ := hW
      refine J.iald (x := I 60 x1.toNatClampNeg) dX3_sink_23 (lt60 hs) (kk60 hs) hb3 rfl ?_
      refine J.iload dX3_sink_24 rfl ?_
      refine J.isub dX3_sink_26 ?_
      refine J.callV (M' := mX3_leastChild) (index := 111) (bc := 0) (bs := 0) (bc' := 0) (bs' := 0) (st := []) [.int x3, .int ((I 60 x1.toNatClampNeg) - x4)] ml_X3_111 cv_X3_leastChild dX3_sink_27 (lt56 hs) (kk56 hs) (by decide) rfl rfl rfl rfl (Nat.le_of_ble_eq_true rfl) (kqi hW (fun r5 I4 hW => ?_))
      refine J.istore_n (vs' := [some (.ref (eB E + 56)), some (.int x1), some (.int x2), some (.int r5), some (.int x4)]) dX3_sink_30 rfl (by decide) rfl ?_
      refine J.iinc (v := x4 + 1) (vs' := [some (.ref (eB E + 56)), some (.int x1), some (.int x2), some (.int r5), some (.int (x4 + 1))]) dX3_sink_31 rfl (by rfl) (by decide) rfl ?_
      refine J.goto 5 dX3_sink_34 (by decide) ?_
      exact hW
set_option maxRecDepth 100000 in
set_option maxHeartbeats 4000000 in
theorem w_X3_link {E : Envt} {d : Nat} {Q : Pst} {h : mS} {I : mI} {L : mL} (hs : SL h) (x1 : Int32) (x2 : Int32) (x3 : Int32) (x4 : Int32) (x5 : Int32) 
    (hW : (CT E mX3_nearest (d + 2) 0 0 [.ref (eB E + 56), .int x1, .int x2, .int x3, .int x4] h I L (qi h L fun r2 I1 => (((r2 = (-1)) → Q (some (.int (-1))) h I1 L) ∧ (¬ (r2 = (-1)) → (((x5 < 0) → Q (some (.int (-1))) h I1 L) ∧ (¬ (x5 < 0) → (vp_in r2 20 ∧ (((x5 ≤ ((I1 59 r2.toNatClampNeg) + (I1 60 r2.toNatClampNeg))) → ((((I1 59 r2.toNatClampNeg) < x5) → (CT E mX3_sink (d + 2) 0 0 [.ref (eB E + 56), .int r2, .int (x5 - (I1 59 r2.toNatClampNeg))] h I1 L (qi h L fun r9 I8 => Q (some (.int r9)) h I8 L))) ∧ (¬ ((I1 59 r2.toNatClampNeg) < x5) → (CT E mX3_rise (d + 2) 0 0 [.ref (eB E + 56), .int x1, .int r2, .int x5] h I1 L (qi h L fun r11 I10 => Q (some (.int r11)) h I10 L))))) ∧ (¬ (x5 ≤ ((I1 59 r2.toNatClampNeg) + (I1 60 r2.toNatClampNeg))) → Q (some (.int (-1))) h I1 L)))))))))) :
    CT E mX3_link (d + 3) 0 0 [.ref (eB E + 56), .int x1, .int x2, .int x3, .int x4, .int x5] h I L Q := by
  refine CT.of (by decide) [some (.ref (eB E + 56)), some (.int x1), some (.int x2), some (.int x3), some (.int x4), some (.int x5), none] rfl (Nat.le_of_ble_eq_true rfl) ?_
  refine J.aload_n dX3_link_0 rfl rfl ?_
  refine J.iload_n dX3_link_1 rfl rfl ?_
  refine J.iload_n dX3_link_2 rfl rfl ?_
  refine J.iload_n dX3_link_3 rfl rfl ?_
  refine J.iload dX3_link_4 rfl ?_
  refine J.callV (M' := mX3_nearest) (index := 40) (bc := 0) (bs := 0) (bc' := 0) (bs' := 0) (st := []) [.int x1, .int x2, .int x3, .int x4] ml_X3_40 cv_X3_nearest dX3_link_6 (lt56 hs) (kk56 hs) (by decide) rfl rfl rfl rfl (Nat.le_of_ble_eq_true rfl) (kqi hW (fun r2 I1 hW => ?_))
  refine J.istore (vs' := [some (.ref (eB E + 56)), some (.int x1), some (.int x2), some (.int x3), some (.int x4), some (.int x5), some (.int r2)]) dX3_link_9 (by decide) rfl ?_
  refine J.iload dX3_link_11 rfl ?_
  refine J.iconst (v := (-1)) dX3_link_13 (by decide) ?_
  refine J.ic_eq 42 dX3_link_14 (by decide) (fun hc3 => ?_) (fun hc3 => ?_)
  · have hW := hW.1 hc3
    refine J.iconst (v := (-1)) dX3_link_42 (by decide) ?_
    exact J.reti dX3_link_43 rfl rfl hW
  · have hW := hW.2 hc3
    refine J.iload dX3_link_17 rfl ?_
    refine J.if_lt 42 dX3_link_19 (by decide) (fun hc4 => ?_) (fun hc4 => ?_)
    · have hW := hW.1 hc4
      refine J.iconst (v := (-1)) dX3_link_42 (by decide) ?_
      exact J.reti dX3_link_43 rfl rfl hW
    · have hW := hW.2 hc4
      refine J.iload dX3_link_22 rfl ?_
      refine J.aload_n dX3_link_24 rfl rfl ?_
      refine J.getR (r := 59) fl_X3_18 rfl dX3_link_25 (lt56 hs) (kk56 hs) (rr56_3 hs) ?_
      refine J.iload dX3_link_28 rfl ?_
      obtain ⟨hb5, hW⟩ := hW
      refine J.iald (x := I1 59 r2.toNatClampNeg) dX3_link_30 (lt59 hs) (kk59 hs) hb5 rfl ?_
      refine J.aload_n dX3_link_31 rfl rfl ?_
      refine J.getR (r := 60) fl_X3_21 rfl dX3_link_32 (lt56 hs) (kk56 hs) (rr56_4 hs) ?_
      refine J.iload dX3_link_35 rfl ?_
      refine J.iald (x := I1 60 r2.toNatClampNeg) dX3_link_37 (lt60 hs) (kk60 hs) hb5 rfl ?_
      refine J.iadd dX3_link_38 ?_
      refine J.ic_le 44 dX3_link_39 (by decide) (fun hc6 => ?_) (fun hc6 => ?_)
      · have hW := hW.1 hc6
        refine J.iload dX3_link_44 rfl ?_
        refine J.aload_n dX3_link_46 rfl rfl ?_
        refine J.getR (r := 59) fl_X3_18 rfl dX3_link_47 (lt56 hs) (kk56 hs) (rr56_3 hs) ?_
        refine J.iload dX3_link_50 rfl ?_
        refine J.iald (x := I1 59 r2.toNatClampNeg) dX3_link_52 (lt59 hs) (kk59 hs) hb5 rfl ?_
        refine J.ic_gt 68 dX3_link_53 (by decide) (fun hc7 => ?_) (fun hc7 => ?_)
        · have hW := hW.1 hc7
          refine J.aload_n dX3_link_68 rfl rfl ?_
          refine J.iload dX3_link_69 rfl ?_
          refine J.iload dX3_link_71 rfl ?_
          refine J.aload_n dX3_link_73 rfl rfl ?_
          refine J.getR (r := 59) fl_X3_18 rfl dX3_link_74 (lt56 hs) (kk56 hs) (rr56_3 hs) ?_
          refine J.iload dX3_link_77 rfl ?_
          refine J.iald (x := I1 59 r2.toNatClampNeg) dX3_link_79 (lt59 hs) (kk59 hs) hb5 rfl ?_
          refine J.isub dX3_link_80 ?_
          refine J.callV (M' := mX3_sink) (index := 48) (bc := 0) (bs := 0) (bc' := 0) (bs' := 0) (st := []) [.int r2, .int (x5 - (I1 59 r2.toNatClampNeg))] ml_X3_48 cv_X3_sink dX3_link_81 (lt56 hs) (kk56 hs) (by decide) rfl rfl rfl rfl (Nat.le_of_ble_eq_true rfl) (kqi hW (fun r9 I8 hW => ?_))
          exact J.reti dX3_link_84 rfl rfl hW
        · have hW := hW.2 hc7
          refine J.aload_n dX3_link_56 rfl rfl ?_
          refine J.iload_n dX3_link_57 rfl rfl ?_
          refine J.iload dX3_link_58 rfl ?_
          refine J.iload dX3_link_60 rfl ?_
          refine J.callV (M' := mX3_rise) (index := 44) (bc := 0) (bs := 0) (bc' := 0) (bs' := 0) (st := []) [.int x1, .int r2, .int x5] ml_X3_44 cv_X3_rise dX3_link_62 (lt56 hs) (kk56 hs) (by decide) rfl rfl rfl rfl (Nat.le_of_ble_eq_true rfl) (kqi hW (fun r11 I10 hW => ?_))
          refine J.goto 84 dX3_link_65 (by decide) ?_
          exact J.reti dX3_link_84 rfl rfl hW
      · have hW := hW.2 hc6
        refine J.iconst (v := (-1)) dX3_link_42 (by decide) ?_
        exact J.reti dX3_link_43 rfl rfl hW
set_option maxRecDepth 100000 in
set_option maxHeartbeats 4000000 in
theorem w_X4_isFull {E : Envt} {d : Nat} {Q : Pst} {h : mS} {I : mI} {L : mL} (hs : SL h)  
    (hW : Q (some (.int (bI (¬ ((I 24 0) < 30))))) h I L) :
    CT E mX4_isFull d 0 0 [.ref (eB E + 24)] h I L Q := by
  refine CT.of (by decide) [some (.ref (eB E + 24))] rfl (Nat.le_of_ble_eq_true rfl) ?_
  refine J.aload_n dX4_isFull_0 rfl rfl ?_
  refine J.getI (x := I 24 0) fl_X4_48 rfl dX4_isFull_1 (lt24 hs) (kk24 hs) rfl ?_
  refine J.bipush (v := 30) dX4_isFull_4 (by decide) ?_
  have hj : J E mX4_isFull d Q 0 0 14 [some (.ref (eB E + 24))] [.int (bI (¬ ((I 24 0) < 30)))] h I L := by
    exact J.reti dX4_isFull_14 rfl (bz_nar (bI_bz _)) hW
  refine J.ic_lt 13 dX4_isFull_6 (by decide) (fun hc1 => ?_) (fun hc1 => ?_)
  · refine J.iconst (v := 0) dX4_isFull_13 (by decide) ?_
    rw [show bI (¬ ((I 24 0) < 30)) = 0 from bI_f (by simp only [eq_true hc1, and_true, true_and, and_false, false_and, or_true, true_or, or_false, false_or, not_true_eq_false, not_false_eq_true])] at hj
    exact hj
  · refine J.iconst (v := 1) dX4_isFull_9 (by decide) ?_
    refine J.goto 14 dX4_isFull_10 (by decide) ?_
    rw [show bI (¬ ((I 24 0) < 30)) = 1 from bI_t (by simp only [eq_false hc1, and_true, true_and, and_false, false_and, or_true, true_or, or_false, false_or, not_true_eq_false, not_false_eq_true])] at hj
    exact hj
set_option maxRecDepth 100000 in
set_option maxHeartbeats 4000000 in
theorem w_X4_stand {E : Envt} {d : Nat} {Q : Pst} {h : mS} {I : mI} {L : mL} (hs : SL h) (x1 : Int32) (x2 : Int32) (x3 : Int32) 
    (hW : (vp_in x1 30 ∧ Q none h (uI (uI I 27 x1.toNatClampNeg x2) 32 x1.toNatClampNeg x3) L)) :
    CT E mX4_stand d 0 0 [.ref (eB E + 24), .int x1, .int x2, .int x3] h I L Q := by
  refine CT.of (by decide) [some (.ref (eB E + 24)), some (.int x1), some (.int x2), some (.int x3)] rfl (Nat.le_of_ble_eq_true rfl) ?_
  refine J.aload_n dX4_stand_0 rfl rfl ?_
  refine J.getR (r := 27) fl_X4_18 rfl dX4_stand_1 (lt24 hs) (kk24 hs) (rr24_3 hs) ?_
  refine J.iload_n dX4_stand_4 rfl rfl ?_
  refine J.iload_n dX4_stand_5 rfl rfl ?_
  obtain ⟨hb1, hW⟩ := hW
  refine J.iast dX4_stand_6 (lt27 hs) (kk27 hs) hb1 ?_
  refine J.aload_n dX4_stand_7 rfl rfl ?_
  refine J.getR (r := 32) fl_X4_33 rfl dX4_stand_8 (lt24 hs) (kk24 hs) (rr24_8 hs) ?_
  refine J.iload_n dX4_stand_11 rfl rfl ?_
  refine J.iload_n dX4_stand_12 rfl rfl ?_
  refine J.iast dX4_stand_13 (lt32 hs) (kk32 hs) hb1 ?_
  exact J.retv dX4_stand_14 rfl hW
set_option maxRecDepth 100000 in
set_option maxHeartbeats 4000000 in
theorem w_X4_add {E : Envt} {d : Nat} {Q : Pst} {h : mS} {I : mI} {L : mL} (hs : SL h) (x1 : Int32) (x2 : Int32) (x3 : Int32) 
    (hW : (vp_in (I 24 0) 30 ∧ (CT E mX4_stand d 0 0 [.ref (eB E + 24), .int (I 24 0), .int 0, .int x3] h (uI (uI (uI (uI I 25 ((I 24 0).toNatClampNeg) x1) 26 ((I 24 0).toNatClampNeg) x2) 30 ((I 24 0).toNatClampNeg) 0) 31 ((I 24 0).toNatClampNeg) x3) L (qv h L fun I2 => Q (some (.int (((I2 24 0) + 1) - 1))) h (uI I2 24 0 ((I2 24 0) + 1)) L)))) :
    CT E mX4_add (d + 1) 0 0 [.ref (eB E + 24), .int x1, .int x2, .int x3] h I L Q := by
  refine CT.of (by decide) [some (.ref (eB E + 24)), some (.int x1), some (.int x2), some (.int x3)] rfl (Nat.le_of_ble_eq_true rfl) ?_
  refine J.aload_n dX4_add_0 rfl rfl ?_
  refine J.getR (r := 25) fl_X4_9 rfl dX4_add_1 (lt24 hs) (kk24 hs) (rr24_1 hs) ?_
  refine J.aload_n dX4_add_4 rfl rfl ?_
  refine J.getI (x := I 24 0) fl_X4_48 rfl dX4_add_5 (lt24 hs) (kk24 hs) rfl ?_
  refine J.iload_n dX4_add_8 rfl rfl ?_
  obtain ⟨hb1, hW⟩ := hW
  refine J.iast dX4_add_9 (lt25 hs) (kk25 hs) hb1 ?_
  refine J.aload_n dX4_add_10 rfl rfl ?_
  refine J.getR (r := 26) fl_X4_15 rfl dX4_add_11 (lt24 hs) (kk24 hs) (rr24_2 hs) ?_
  refine J.aload_n dX4_add_14 rfl rfl ?_
  refine J.getI (x := I 24 0) fl_X4_48 rfl dX4_add_15 (lt24 hs) (kk24 hs) rfl ?_
  refine J.iload_n dX4_add_18 rfl rfl ?_
  refine J.iast dX4_add_19 (lt26 hs) (kk26 hs) hb1 ?_
  refine J.aload_n dX4_add_20 rfl rfl ?_
  refine J.getR (r := 30) fl_X4_27 rfl dX4_add_21 (lt24 hs) (kk24 hs) (rr24_6 hs) ?_
  refine J.aload_n dX4_add_24 rfl rfl ?_
  refine J.getI (x := I 24 0) fl_X4_48 rfl dX4_add_25 (lt24 hs) (kk24 hs) rfl ?_
  refine J.iconst (v := 0) dX4_add_28 (by decide) ?_
  refine J.iast dX4_add_29 (lt30 hs) (kk30 hs) hb1 ?_
  refine J.aload_n dX4_add_30 rfl rfl ?_
  refine J.getR (r := 31) fl_X4_30 rfl dX4_add_31 (lt24 hs) (kk24 hs) (rr24_7 hs) ?_
  refine J.aload_n dX4_add_34 rfl rfl ?_
  refine J.getI (x := I 24 0) fl_X4_48 rfl dX4_add_35 (lt24 hs) (kk24 hs) rfl ?_
  refine J.iload_n dX4_add_38 rfl rfl ?_
  refine J.iast dX4_add_39 (lt31 hs) (kk31 hs) hb1 ?_
  refine J.aload_n dX4_add_40 rfl rfl ?_
  refine J.aload_n dX4_add_41 rfl rfl ?_
  refine J.getI (x := I 24 0) fl_X4_48 rfl dX4_add_42 (lt24 hs) (kk24 hs) rfl ?_
  refine J.iconst (v := 0) dX4_add_45 (by decide) ?_
  refine J.iload_n dX4_add_46 rfl rfl ?_
  refine J.callV (M' := mX4_stand) (index := 60) (bc := 0) (bs := 0) (bc' := 0) (bs' := 0) (st := []) [.int (I 24 0), .int 0, .int x3] ml_X4_60 cv_X4_stand dX4_add_47 (lt24 hs) (kk24 hs) (by decide) rfl rfl rfl rfl (Nat.le_of_ble_eq_true rfl) (kqv hW (fun I2 hW => ?_))
  refine J.aload_n dX4_add_50 rfl rfl ?_
  refine J.dup dX4_add_51 rfl ?_
  refine J.getI (x := I2 24 0) fl_X4_48 rfl dX4_add_52 (lt24 hs) (kk24 hs) rfl ?_
  refine J.iconst (v := 1) dX4_add_55 (by decide) ?_
  refine J.iadd dX4_add_56 ?_
  refine J.putI fw_X4_48 rfl dX4_add_57 (lt24 hs) (kk24 hs) ?_
  refine J.aload_n dX4_add_60 rfl rfl ?_
  refine J.getI (x := (I2 24 0) + 1) fl_X4_48 rfl dX4_add_61 (lt24 hs) (kk24 hs) (by simp [uI]) ?_
  refine J.iconst (v := 1) dX4_add_64 (by decide) ?_
  refine J.isub dX4_add_65 ?_
  exact J.reti dX4_add_66 rfl rfl hW
set_option maxRecDepth 100000 in
set_option maxHeartbeats 4000000 in
theorem w_X4_keepDay {E : Envt} {d : Nat} {Q : Pst} {h : mS} {I : mI} {L : mL} (hs : SL h) (x1 : Int32) {a2 n2 : Nat} {t3 nl3 nt3 : Nat} {t4 nl4 nt4 : Nat} (hl2 : a2 < h.2.2) (hk2 : h.1 a2 = (14, n2)) (ht3 : LT h t3 nl3 nt3) (ht4 : LT h t4 nl4 nt4)
    (hW : ((¬ (x1 * 11) < 0) ∧ ((0 + 11 ≤ n2) ∧ (((x1 * 11).toNatClampNeg + 11 ≤ 330) ∧ (vp_in x1 30 ∧ Q none (uRh (uRh h 34 x1.toNatClampNeg (some t3)) 35 x1.toNatClampNeg (some t4)) (cpI I a2 33 0 (x1 * 11).toNatClampNeg 11) L))))) :
    CT E mX4_keepDay (d + 1) 0 0 [.ref (eB E + 24), .int x1, .ref (eB E + a2), .ref (eB E + t3), .ref (eB E + t4)] h I L Q := by
  refine CT.of (by decide) [some (.ref (eB E + 24)), some (.int x1), some (.ref (eB E + a2)), some (.ref (eB E + t3)), some (.ref (eB E + t4))] rfl (Nat.le_of_ble_eq_true rfl) ?_
  refine J.aload_n dX4_keepDay_0 rfl rfl ?_
  refine J.iconst (v := 0) dX4_keepDay_1 (by decide) ?_
  refine J.aload_n dX4_keepDay_2 rfl rfl ?_
  refine J.getR (r := 33) fl_X4_36 rfl dX4_keepDay_3 (lt24 hs) (kk24 hs) (rr24_9 hs) ?_
  refine J.iload_n dX4_keepDay_6 rfl rfl ?_
  refine J.bipush (v := 11) dX4_keepDay_7 (by decide) ?_
  refine J.imul dX4_keepDay_9 ?_
  refine J.bipush (v := 11) dX4_keepDay_10 (by decide) ?_
  obtain ⟨hn1, hW⟩ := hW
  obtain ⟨hn2, hW⟩ := hW
  obtain ⟨hn3, hW⟩ := hW
  refine J.copyI ml_X4_64 dX4_keepDay_12 (Nat.le_of_ble_eq_true rfl) hl2 hk2 (lt33 hs) (kk33 hs) (by decide) hn1 (by decide) hn2 hn3 ac_native ac_static inJ10 ?_
  refine J.aload_n dX4_keepDay_15 rfl rfl ?_
  refine J.getR (r := 34) fl_X4_41 rfl dX4_keepDay_16 (lt24 hs) (kk24 hs) (rr24_10 hs) ?_
  refine J.iload_n dX4_keepDay_19 rfl rfl ?_
  refine J.aload_n dX4_keepDay_20 rfl rfl ?_
  obtain ⟨hb4, hW⟩ := hW
  refine J.aastT dX4_keepDay_21 (lt34 hs) (kk34 hs) hb4 ht3.l0 ht3.k0 ?_
  have hs5 : SL (uRh h 34 x1.toNatClampNeg (some t3)) := SL_uR hs (by decide)
  have ht6 := LT_uR (a := 34) (i := x1.toNatClampNeg) (r := (some t3)) ht3 (LT_ne ht3 (kk34 hs))
  have ht7 := LT_uR (a := 34) (i := x1.toNatClampNeg) (r := (some t3)) ht4 (LT_ne ht4 (kk34 hs))
  refine J.aload_n dX4_keepDay_22 rfl rfl ?_
  refine J.getR (r := 35) fl_X4_45 rfl dX4_keepDay_23 (lt24 hs5) (kk24 hs5) (rr24_11 hs5) ?_
  refine J.iload_n dX4_keepDay_26 rfl rfl ?_
  refine J.aload dX4_keepDay_27 rfl ?_
  refine J.aastT dX4_keepDay_29 (lt35 hs5) (kk35 hs5) hb4 ht7.l0 ht7.k0 ?_
  have hs8 : SL (uRh (uRh h 34 x1.toNatClampNeg (some t3)) 35 x1.toNatClampNeg (some t4)) := SL_uR hs5 (by decide)
  have ht9 := LT_uR (a := 35) (i := x1.toNatClampNeg) (r := (some t4)) ht6 (LT_ne ht6 (kk35 hs5))
  have ht10 := LT_uR (a := 35) (i := x1.toNatClampNeg) (r := (some t4)) ht7 (LT_ne ht7 (kk35 hs5))
  exact J.retv dX4_keepDay_30 rfl hW
set_option maxRecDepth 100000 in
set_option maxHeartbeats 4000000 in
theorem w_X4_howMany {E : Envt} {d : Nat} {Q : Pst} {h : mS} {I : mI} {L : mL} (hs : SL h) (x1 : Int32) 
    (hW : J E mX4_howMany d Q 0 0 4 [some (.ref (eB E + 24)), some (.int x1), some (.int 0), some (.int 0)] [] h I L) :
    CT E mX4_howMany d 0 0 [.ref (eB E + 24), .int x1] h I L Q := by
  refine CT.of (by decide) [some (.ref (eB E + 24)), some (.int x1), none, none] rfl (Nat.le_of_ble_eq_true rfl) ?_
  refine J.iconst (v := 0) dX4_howMany_0 (by decide) ?_
  refine J.istore_n (vs' := [some (.ref (eB E + 24)), some (.int x1), some (.int 0), none]) dX4_howMany_1 rfl (by decide) rfl ?_
  refine J.iconst (v := 0) dX4_howMany_2 (by decide) ?_
  refine J.istore_n (vs' := [some (.ref (eB E + 24)), some (.int x1), some (.int 0), some (.int 0)]) dX4_howMany_3 rfl (by decide) rfl ?_
  exact hW
set_option maxRecDepth 100000 in
set_option maxHeartbeats 4000000 in
theorem w_X4_howMany_4 {E : Envt} {d : Nat} {Q : Pst} {h : mS} {I : mI} {L : mL} (hs : SL h)    (x1 : Int32) (x2 : Int32) (x3 : Int32)
    (hW : ((((I 24 0) ≤ x3) → Q (some (.int x2)) h I L) ∧ (¬ ((I 24 0) ≤ x3) → (vp_in x3 30 ∧ J E mX4_howMany d Q 0 0 4 [some (.ref (eB E + 24)), some (.int x1), some (.int (if (I 27 x3.toNatClampNeg) = x1 then x2 + 1 else x2 : Int32)), some (.int (x3 + 1))] [] h I L)))) :
    J E mX4_howMany d Q 0 0 4 [some (.ref (eB E + 24)), some (.int x1), some (.int x2), some (.int x3)] [] h I L := by
  refine J.iload_n dX4_howMany_4 rfl rfl ?_
  refine J.aload_n dX4_howMany_5 rfl rfl ?_
  refine J.getI (x := I 24 0) fl_X4_48 rfl dX4_howMany_6 (lt24 hs) (kk24 hs) rfl ?_
  refine J.ic_ge 31 dX4_howMany_9 (by decide) (fun hc1 => ?_) (fun hc1 => ?_)
  · have hW := hW.1 hc1
    refine J.iload_n dX4_howMany_31 rfl rfl ?_
    exact J.reti dX4_howMany_32 rfl rfl hW
  · have hW := hW.2 hc1
    refine J.aload_n dX4_howMany_12 rfl rfl ?_
    refine J.getR (r := 27) fl_X4_18 rfl dX4_howMany_13 (lt24 hs) (kk24 hs) (rr24_3 hs) ?_
    refine J.iload_n dX4_howMany_16 rfl rfl ?_
    obtain ⟨hb2, hW⟩ := hW
    refine J.iald (x := I 27 x3.toNatClampNeg) dX4_howMany_17 (lt27 hs) (kk27 hs) hb2 rfl ?_
    refine J.iload_n dX4_howMany_18 rfl rfl ?_
    have hj : J E mX4_howMany d Q 0 0 25 [some (.ref (eB E + 24)), some (.int x1), some (.int (if (I 27 x3.toNatClampNeg) = x1 then x2 + 1 else x2 : Int32)), some (.int x3)] [] h I L := by
      refine J.iinc (v := x3 + 1) (vs' := [some (.ref (eB E + 24)), some (.int x1), some (.int (if (I 27 x3.toNatClampNeg) = x1 then x2 + 1 else x2 : Int32)), some (.int (x3 + 1))]) dX4_howMany_25 rfl (by rfl) (by decide) rfl ?_
      refine J.goto 4 dX4_howMany_28 (by decide) ?_
      exact hW
    refine J.ic_ne 25 dX4_howMany_19 (by decide) (fun hc3 => ?_) (fun hc3 => ?_)
    · rw [show ((if (I 27 x3.toNatClampNeg) = x1 then x2 + 1 else x2 : Int32) = x2) from by simp only [eq_false hc3, if_true, if_false, bI_true, bI_false, and_true, true_and, and_false, false_and, or_true, true_or, or_false, false_or, not_true_eq_false, not_false_eq_true]] at hj
      exact hj
    · refine J.iinc (v := x2 + 1) (vs' := [some (.ref (eB E + 24)), some (.int x1), some (.int (x2 + 1)), some (.int x3)]) dX4_howMany_22 rfl (by rfl) (by decide) rfl ?_
      rw [show ((if (I 27 x3.toNatClampNeg) = x1 then x2 + 1 else x2 : Int32) = x2 + 1) from by simp only [eq_true hc3, if_true, if_false, bI_true, bI_false, and_true, true_and, and_false, false_and, or_true, true_or, or_false, false_or, not_true_eq_false, not_false_eq_true]] at hj
      exact hj
set_option maxRecDepth 100000 in
set_option maxHeartbeats 4000000 in
theorem w_X5_shorten {E : Envt} {d : Nat} {Q : Pst} {h : mS} {I : mI} {L : mL} (hs : SL h) (x1 : Int32) (x2 : Int32) 
    (hW : (vp_in x1 25 ∧ ((((I 23 x1.toNatClampNeg) = (-1)) → Q none h (uI I 23 x1.toNatClampNeg x2) L) ∧ (¬ ((I 23 x1.toNatClampNeg) = (-1)) → ((((I 23 x1.toNatClampNeg) ≤ x2) → Q none h I L) ∧ (¬ ((I 23 x1.toNatClampNeg) ≤ x2) → Q none h (uI I 23 x1.toNatClampNeg x2) L)))))) :
    CT E mX5_shorten d 0 0 [.ref (eB E + 17), .int x1, .int x2] h I L Q := by
  refine CT.of (by decide) [some (.ref (eB E + 17)), some (.int x1), some (.int x2)] rfl (Nat.le_of_ble_eq_true rfl) ?_
  refine J.aload_n dX5_shorten_0 rfl rfl ?_
  refine J.getR (r := 23) fl_X5_27 rfl dX5_shorten_1 (lt17 hs) (kk17 hs) (rr17_6 hs) ?_
  refine J.iload_n dX5_shorten_4 rfl rfl ?_
  obtain ⟨hb1, hW⟩ := hW
  refine J.iald (x := I 23 x1.toNatClampNeg) dX5_shorten_5 (lt23 hs) (kk23 hs) hb1 rfl ?_
  refine J.iconst (v := (-1)) dX5_shorten_6 (by decide) ?_
  refine J.ic_eq 20 dX5_shorten_7 (by decide) (fun hc2 => ?_) (fun hc2 => ?_)
  · have hW := hW.1 hc2
    refine J.aload_n dX5_shorten_20 rfl rfl ?_
    refine J.getR (r := 23) fl_X5_27 rfl dX5_shorten_21 (lt17 hs) (kk17 hs) (rr17_6 hs) ?_
    refine J.iload_n dX5_shorten_24 rfl rfl ?_
    refine J.iload_n dX5_shorten_25 rfl rfl ?_
    refine J.iast dX5_shorten_26 (lt23 hs) (kk23 hs) hb1 ?_
    exact J.retv dX5_shorten_27 rfl hW
  · have hW := hW.2 hc2
    refine J.aload_n dX5_shorten_10 rfl rfl ?_
    refine J.getR (r := 23) fl_X5_27 rfl dX5_shorten_11 (lt17 hs) (kk17 hs) (rr17_6 hs) ?_
    refine J.iload_n dX5_shorten_14 rfl rfl ?_
    refine J.iald (x := I 23 x1.toNatClampNeg) dX5_shorten_15 (lt23 hs) (kk23 hs) hb1 rfl ?_
    refine J.iload_n dX5_shorten_16 rfl rfl ?_
    refine J.ic_le 27 dX5_shorten_17 (by decide) (fun hc3 => ?_) (fun hc3 => ?_)
    · have hW := hW.1 hc3
      exact J.retv dX5_shorten_27 rfl hW
    · have hW := hW.2 hc3
      refine J.aload_n dX5_shorten_20 rfl rfl ?_
      refine J.getR (r := 23) fl_X5_27 rfl dX5_shorten_21 (lt17 hs) (kk17 hs) (rr17_6 hs) ?_
      refine J.iload_n dX5_shorten_24 rfl rfl ?_
      refine J.iload_n dX5_shorten_25 rfl rfl ?_
      refine J.iast dX5_shorten_26 (lt23 hs) (kk23 hs) hb1 ?_
      exact J.retv dX5_shorten_27 rfl hW
set_option maxRecDepth 100000 in
set_option maxHeartbeats 4000000 in
theorem w_X5_shortenWays {E : Envt} {d : Nat} {Q : Pst} {h : mS} {I : mI} {L : mL} (hs : SL h) (x1 : Int32) 
    (hW : J E mX5_shortenWays (d + 1) Q 0 0 2 [some (.ref (eB E + 17)), some (.int x1), some (.int 0), none, none, none] [] h I L) :
    CT E mX5_shortenWays (d + 1) 0 0 [.ref (eB E + 17), .int x1] h I L Q := by
  refine CT.of (by decide) [some (.ref (eB E + 17)), some (.int x1), none, none, none, none] rfl (Nat.le_of_ble_eq_true rfl) ?_
  refine J.iconst (v := 0) dX5_shortenWays_0 (by decide) ?_
  refine J.istore_n (vs' := [some (.ref (eB E + 17)), some (.int x1), some (.int 0), none, none, none]) dX5_shortenWays_1 rfl (by decide) rfl ?_
  exact hW
set_option maxRecDepth 100000 in
set_option maxHeartbeats 4000000 in
theorem w_X5_shortenWays_2 {E : Envt} {d : Nat} {Q : Pst} {h : mS} {I : mI} {L : mL} (hs : SL h)    (x1 : Int32) (x2 : Int32)
    (hW : (((5 ≤ x2) → Q none h I L) ∧ (¬ (5 ≤ x2) → (vp_in ((x2 * 5) + x1) 25 ∧ (∀ y3 : Int32, y3 = I 23 (((x2 * 5) + x1).toNatClampNeg) → J E mX5_shortenWays (d + 1) Q 0 0 21 [some (.ref (eB E + 17)), some (.int x1), some (.int x2), some (.int y3), some (.int 0), none] [] h I L))))) :
    J E mX5_shortenWays (d + 1) Q 0 0 2 [some (.ref (eB E + 17)), some (.int x1), some (.int x2), none, none, none] [] h I L := by
  refine J.iload_n dX5_shortenWays_2 rfl rfl ?_
  refine J.iconst (v := 5) dX5_shortenWays_3 (by decide) ?_
  refine J.ic_ge 77 dX5_shortenWays_4 (by decide) (fun hc1 => ?_) (fun hc1 => ?_)
  · have hW := hW.1 hc1
    exact J.retv dX5_shortenWays_77 rfl hW
  · have hW := hW.2 hc1
    refine J.aload_n dX5_shortenWays_7 rfl rfl ?_
    refine J.getR (r := 23) fl_X5_27 rfl dX5_shortenWays_8 (lt17 hs) (kk17 hs) (rr17_6 hs) ?_
    refine J.iload_n dX5_shortenWays_11 rfl rfl ?_
    refine J.iconst (v := 5) dX5_shortenWays_12 (by decide) ?_
    refine J.imul dX5_shortenWays_13 ?_
    refine J.iload_n dX5_shortenWays_14 rfl rfl ?_
    refine J.iadd dX5_shortenWays_15 ?_
    obtain ⟨hb2, hW⟩ := hW
    refine J.iald (x := I 23 (((x2 * 5) + x1).toNatClampNeg)) dX5_shortenWays_16 (lt23 hs) (kk23 hs) hb2 rfl ?_
    refine J.topi (fun y3 hyy3 => ?_)
    have hW := hW y3 hyy3
    refine J.istore_n (vs' := [some (.ref (eB E + 17)), some (.int x1), some (.int x2), some (.int y3), none, none]) dX5_shortenWays_17 rfl (by decide) rfl ?_
    refine J.iconst (v := 0) dX5_shortenWays_18 (by decide) ?_
    refine J.istore (vs' := [some (.ref (eB E + 17)), some (.int x1), some (.int x2), some (.int y3), some (.int 0), none]) dX5_shortenWays_19 (by decide) rfl ?_
    exact hW
set_option maxRecDepth 100000 in
set_option maxHeartbeats 4000000 in
theorem w_X5_shortenWays_21 {E : Envt} {d : Nat} {Q : Pst} {h : mS} {I : mI} {L : mL} (hs : SL h)    (x1 : Int32) (x2 : Int32) (x3 : Int32) (x4 : Int32)
    (hW : (((5 ≤ x4) → J E mX5_shortenWays (d + 1) Q 0 0 2 [some (.ref (eB E + 17)), some (.int x1), some (.int (x2 + 1)), none, none, none] [] h I L) ∧ (¬ (5 ≤ x4) → (((x3 = (-1)) → J E mX5_shortenWays (d + 1) Q 0 0 2 [some (.ref (eB E + 17)), some (.int x1), some (.int (x2 + 1)), none, none, none] [] h I L) ∧ (¬ (x3 = (-1)) → (vp_in ((x1 * 5) + x4) 25 ∧ (∀ y4 : Int32, y4 = I 23 (((x1 * 5) + x4).toNatClampNeg) → (((y4 = (-1)) → J E mX5_shortenWays (d + 1) Q 0 0 21 [some (.ref (eB E + 17)), some (.int x1), some (.int x2), some (.int x3), some (.int (x4 + 1)), none] [] h I L) ∧ (¬ (y4 = (-1)) → (CT E mX5_shorten d 0 0 [.ref (eB E + 17), .int ((x2 * 5) + x4), .int (x3 + y4)] h I L (qv h L fun I6 => J E mX5_shortenWays (d + 1) Q 0 0 21 [some (.ref (eB E + 17)), some (.int x1), some (.int x2), some (.int x3), some (.int (x4 + 1)), none] [] h I6 L))))))))))) :
    J E mX5_shortenWays (d + 1) Q 0 0 21 [some (.ref (eB E + 17)), some (.int x1), some (.int x2), some (.int x3), some (.int x4), none] [] h I L := by
  refine J.iload dX5_shortenWays_21 rfl ?_
  refine J.iconst (v := 5) dX5_shortenWays_23 (by decide) ?_
  refine J.ic_ge 71 dX5_shortenWays_24 (by decide) (fun hc1 => ?_) (fun hc1 => ?_)
  · have hW := hW.1 hc1
    refine J.iinc (v := x2 + 1) (vs' := [some (.ref (eB E + 17)), some (.int x1), some (.int (x2 + 1)), some (.int x3), some (.int x4), none]) dX5_shortenWays_71 rfl (by rfl) (by decide) rfl ?_
    refine J.goto 2 dX5_shortenWays_74 (by decide) ?_
    exact J.mask [true, true, true, false, false, false] rfl hW
  · have hW := hW.2 hc1
    refine J.iload_n dX5_shortenWays_27 rfl rfl ?_
    refine J.iconst (v := (-1)) dX5_shortenWays_28 (by decide) ?_
    refine J.ic_eq 71 dX5_shortenWays_29 (by decide) (fun hc2 => ?_) (fun hc2 => ?_)
    · have hW := hW.1 hc2
      refine J.iinc (v := x2 + 1) (vs' := [some (.ref (eB E + 17)), some (.int x1), some (.int (x2 + 1)), some (.int x3), some (.int x4), none]) dX5_shortenWays_71 rfl (by rfl) (by decide) rfl ?_
      refine J.goto 2 dX5_shortenWays_74 (by decide) ?_
      exact J.mask [true, true, true, false, false, false] rfl hW
    · have hW := hW.2 hc2
      refine J.aload_n dX5_shortenWays_32 rfl rfl ?_
      refine J.getR (r := 23) fl_X5_27 rfl dX5_shortenWays_33 (lt17 hs) (kk17 hs) (rr17_6 hs) ?_
      refine J.iload_n dX5_shortenWays_36 rfl rfl ?_
      refine J.iconst (v := 5) dX5_shortenWays_37 (by decide) ?_
      refine J.imul dX5_shortenWays_38 ?_
      refine J.iload dX5_shortenWays_39 rfl ?_
      refine J.iadd dX5_shortenWays_41 ?_
      obtain ⟨hb3, hW⟩ := hW
      refine J.iald (x := I 23 (((x1 * 5) + x4).toNatClampNeg)) dX5_shortenWays_42 (lt23 hs) (kk23 hs) hb3 rfl ?_
      refine J.topi (fun y4 hyy4 => ?_)
      have hW := hW y4 hyy4
      refine J.istore (vs' := [some (.ref (eB E + 17)), some (.int x1), some (.int x2), some (.int x3), some (.int x4), some (.int y4)]) dX5_shortenWays_43 (by decide) rfl ?_
      refine J.iload dX5_shortenWays_45 rfl ?_
      refine J.iconst (v := (-1)) dX5_shortenWays_47 (by decide) ?_
      refine J.ic_eq 65 dX5_shortenWays_48 (by decide) (fun hc5 => ?_) (fun hc5 => ?_)
      · have hW := hW.1 hc5
        refine J.iinc (v := x4 + 1) (vs' := [some (.ref (eB E + 17)), some (.int x1), some (.int x2), some (.int x3), some (.int (x4 + 1)), some (.int y4)]) dX5_shortenWays_65 rfl (by rfl) (by decide) rfl ?_
        refine J.goto 21 dX5_shortenWays_68 (by decide) ?_
        exact J.mask [true, true, true, true, true, false] rfl hW
      · have hW := hW.2 hc5
        refine J.aload_n dX5_shortenWays_51 rfl rfl ?_
        refine J.iload_n dX5_shortenWays_52 rfl rfl ?_
        refine J.iconst (v := 5) dX5_shortenWays_53 (by decide) ?_
        refine J.imul dX5_shortenWays_54 ?_
        refine J.iload dX5_shortenWays_55 rfl ?_
        refine J.iadd dX5_shortenWays_57 ?_
        refine J.iload_n dX5_shortenWays_58 rfl rfl ?_
        refine J.iload dX5_shortenWays_59 rfl ?_
        refine J.iadd dX5_shortenWays_61 ?_
        refine J.callV (M' := mX5_shorten) (index := 44) (bc := 0) (bs := 0) (bc' := 0) (bs' := 0) (st := []) [.int ((x2 * 5) + x4), .int (x3 + y4)] ml_X5_44 cv_X5_shorten dX5_shortenWays_62 (lt17 hs) (kk17 hs) (by decide) rfl rfl rfl rfl (Nat.le_of_ble_eq_true rfl) (kqv hW (fun I6 hW => ?_))
        refine J.iinc (v := x4 + 1) (vs' := [some (.ref (eB E + 17)), some (.int x1), some (.int x2), some (.int x3), some (.int (x4 + 1)), some (.int y4)]) dX5_shortenWays_65 rfl (by rfl) (by decide) rfl ?_
        refine J.goto 21 dX5_shortenWays_68 (by decide) ?_
        exact J.mask [true, true, true, true, true, false] rfl hW
set_option maxRecDepth 100000 in
set_option maxHeartbeats 4000000 in
theorem w_X5_setRoad {E : Envt} {d : Nat} {Q : Pst} {h : mS} {I : mI} {L : mL} (hs : SL h) (x1 : Int32) (x2 : Int32) (x3 : Int32) 
    (hW : (vp_in ((x1 * 5) + x2) 25 ∧ (vp_in ((x2 * 5) + x1) 25 ∧ (CT E mX11_copy (d + 1) 0 0 [.ref (eB E + 22), .ref (eB E + 23)] h (uI (uI I 22 (((x1 * 5) + x2).toNatClampNeg) x3) 22 (((x2 * 5) + x1).toNatClampNeg) x3) L (qv h L fun I3 => J E mX5_setRoad (d + 2) Q 0 0 36 [some (.ref (eB E + 17)), some (.int x1), some (.int x2), some (.int x3), some (.int 0)] [] h I3 L))))) :
    CT E mX5_setRoad (d + 2) 0 0 [.ref (eB E + 17), .int x1, .int x2, .int x3] h I L Q := by
  refine CT.of (by decide) [some (.ref (eB E + 17)), some (.int x1), some (.int x2), some (.int x3), none] rfl (Nat.le_of_ble_eq_true rfl) ?_
  refine J.aload_n dX5_setRoad_0 rfl rfl ?_
  refine J.getR (r := 22) fl_X5_24 rfl dX5_setRoad_1 (lt17 hs) (kk17 hs) (rr17_5 hs) ?_
  refine J.iload_n dX5_setRoad_4 rfl rfl ?_
  refine J.iconst (v := 5) dX5_setRoad_5 (by decide) ?_
  refine J.imul dX5_setRoad_6 ?_
  refine J.iload_n dX5_setRoad_7 rfl rfl ?_
  refine J.iadd dX5_setRoad_8 ?_
  refine J.iload_n dX5_setRoad_9 rfl rfl ?_
  obtain ⟨hb1, hW⟩ := hW
  refine J.iast dX5_setRoad_10 (lt22 hs) (kk22 hs) hb1 ?_
  refine J.aload_n dX5_setRoad_11 rfl rfl ?_
  refine J.getR (r := 22) fl_X5_24 rfl dX5_setRoad_12 (lt17 hs) (kk17 hs) (rr17_5 hs) ?_
  refine J.iload_n dX5_setRoad_15 rfl rfl ?_
  refine J.iconst (v := 5) dX5_setRoad_16 (by decide) ?_
  refine J.imul dX5_setRoad_17 ?_
  refine J.iload_n dX5_setRoad_18 rfl rfl ?_
  refine J.iadd dX5_setRoad_19 ?_
  refine J.iload_n dX5_setRoad_20 rfl rfl ?_
  obtain ⟨hb2, hW⟩ := hW
  refine J.iast dX5_setRoad_21 (lt22 hs) (kk22 hs) hb2 ?_
  refine J.aload_n dX5_setRoad_22 rfl rfl ?_
  refine J.getR (r := 22) fl_X5_24 rfl dX5_setRoad_23 (lt17 hs) (kk17 hs) (rr17_5 hs) ?_
  refine J.aload_n dX5_setRoad_26 rfl rfl ?_
  refine J.getR (r := 23) fl_X5_27 rfl dX5_setRoad_27 (lt17 hs) (kk17 hs) (rr17_6 hs) ?_
  refine J.callSN (M' := mX11_copy) (index := 36) (bc := 0) (bs := 0) (bc' := 0) (bs' := 0) (st := []) [.ref (eB E + 22), .ref (eB E + 23)] nk_X5_36 cv_X11_copy dX5_setRoad_30 rfl rfl (Nat.le_of_ble_eq_true rfl) (kqv hW (fun I3 hW => ?_))
  refine J.iconst (v := 0) dX5_setRoad_33 (by decide) ?_
  refine J.istore (vs' := [some (.ref (eB E + 17)), some (.int x1), some (.int x2), some (.int x3), some (.int 0)]) dX5_setRoad_34 (by decide) rfl ?_
  exact hW
set_option maxRecDepth 100000 in
set_option maxHeartbeats 4000000 in
theorem w_X5_setRoad_36 {E : Envt} {d : Nat} {Q : Pst} {h : mS} {I : mI} {L : mL} (hs : SL h)    (x1 : Int32) (x2 : Int32) (x3 : Int32) (x4 : Int32)
    (hW : (((5 ≤ x4) → Q none h I L) ∧ (¬ (5 ≤ x4) → (CT E mX5_shortenWays (d + 1) 0 0 [.ref (eB E + 17), .int x4] h I L (qv h L fun I2 => J E mX5_setRoad (d + 2) Q 0 0 36 [some (.ref (eB E + 17)), some (.int x1), some (.int x2), some (.int x3), some (.int (x4 + 1))] [] h I2 L))))) :
    J E mX5_setRoad (d + 2) Q 0 0 36 [some (.ref (eB E + 17)), some (.int x1), some (.int x2), some (.int x3), some (.int x4)] [] h I L := by
  refine J.iload dX5_setRoad_36 rfl ?_
  refine J.iconst (v := 5) dX5_setRoad_38 (by decide) ?_
  refine J.ic_ge 54 dX5_setRoad_39 (by decide) (fun hc1 => ?_) (fun hc1 => ?_)
  · have hW := hW.1 hc1
    exact J.retv dX5_setRoad_54 rfl hW
  · have hW := hW.2 hc1
    refine J.aload_n dX5_setRoad_42 rfl rfl ?_
    refine J.iload dX5_setRoad_43 rfl ?_
    refine J.callV (M' := mX5_shortenWays) (index := 40) (bc := 0) (bs := 0) (bc' := 0) (bs' := 0) (st := []) [.int x4] ml_X5_40 cv_X5_shortenWays dX5_setRoad_45 (lt17 hs) (kk17 hs) (by decide) rfl rfl rfl rfl (Nat.le_of_ble_eq_true rfl) (kqv hW (fun I2 hW => ?_))
    refine J.iinc (v := x4 + 1) (vs' := [some (.ref (eB E + 17)), some (.int x1), some (.int x2), some (.int x3), some (.int (x4 + 1))]) dX5_setRoad_48 rfl (by rfl) (by decide) rfl ?_
    refine J.goto 36 dX5_setRoad_51 (by decide) ?_
    exact hW
set_option maxRecDepth 100000 in
set_option maxHeartbeats 4000000 in
theorem w_X5_has {E : Envt} {d : Nat} {Q : Pst} {h : mS} {I : mI} {L : mL} (hs : SL h) (x1 : Int32) 
    (hW : Q (some (.int (bI (¬ (x1 < 0) ∧ (¬ ((I 17 0) ≤ x1)))))) h I L) :
    CT E mX5_has d 0 0 [.ref (eB E + 17), .int x1] h I L Q := by
  refine CT.of (by decide) [some (.ref (eB E + 17)), some (.int x1)] rfl (Nat.le_of_ble_eq_true rfl) ?_
  refine J.iload_n dX5_has_0 rfl rfl ?_
  have hj : J E mX5_has d Q 0 0 17 [some (.ref (eB E + 17)), some (.int x1)] [.int (bI (¬ (x1 < 0) ∧ (¬ ((I 17 0) ≤ x1))))] h I L := by
    exact J.reti dX5_has_17 rfl (bz_nar (bI_bz _)) hW
  refine J.if_lt 16 dX5_has_1 (by decide) (fun hc1 => ?_) (fun hc1 => ?_)
  · refine J.iconst (v := 0) dX5_has_16 (by decide) ?_
    rw [show bI (¬ (x1 < 0) ∧ (¬ ((I 17 0) ≤ x1))) = 0 from bI_f (by simp only [eq_true hc1, and_true, true_and, and_false, false_and, or_true, true_or, or_false, false_or, not_true_eq_false, not_false_eq_true])] at hj
    exact hj
  · refine J.iload_n dX5_has_4 rfl rfl ?_
    refine J.aload_n dX5_has_5 rfl rfl ?_
    refine J.getI (x := I 17 0) fl_X5_48 rfl dX5_has_6 (lt17 hs) (kk17 hs) rfl ?_
    refine J.ic_ge 16 dX5_has_9 (by decide) (fun hc2 => ?_) (fun hc2 => ?_)
    · refine J.iconst (v := 0) dX5_has_16 (by decide) ?_
      rw [show bI (¬ (x1 < 0) ∧ (¬ ((I 17 0) ≤ x1))) = 0 from bI_f (by simp only [eq_false hc1, eq_true hc2, and_true, true_and, and_false, false_and, or_true, true_or, or_false, false_or, not_true_eq_false, not_false_eq_true])] at hj
      exact hj
    · refine J.iconst (v := 1) dX5_has_12 (by decide) ?_
      refine J.goto 17 dX5_has_13 (by decide) ?_
      rw [show bI (¬ (x1 < 0) ∧ (¬ ((I 17 0) ≤ x1))) = 1 from bI_t (by simp only [eq_false hc1, eq_false hc2, and_true, true_and, and_false, false_and, or_true, true_or, or_false, false_or, not_true_eq_false, not_false_eq_true])] at hj
      exact hj
set_option maxRecDepth 100000 in
set_option maxHeartbeats 4000000 in
theorem w_X5_add {E : Envt} {d : Nat} {Q : Pst} {h : mS} {I : mI} {L : mL} (hs : SL h) (x1 : Int32) (x2 : Int32) (x3 : Int32) (x4 : Int32) 
    (hW : ((((I 17 0) < 60) → (vp_in (I 17 0) 60 ∧ Q (some (.int (((I 17 0) + 1) - 1))) h (uI (uI (uI (uI (uI I 18 ((I 17 0).toNatClampNeg) x1) 19 ((I 17 0).toNatClampNeg) x2) 20 ((I 17 0).toNatClampNeg) x3) 21 ((I 17 0).toNatClampNeg) x4) 17 0 ((I 17 0) + 1)) L)) ∧ (¬ ((I 17 0) < 60) → Q (some (.int (-1))) h I L))) :
    CT E mX5_add d 0 0 [.ref (eB E + 17), .int x1, .int x2, .int x3, .int x4] h I L Q := by
  refine CT.of (by decide) [some (.ref (eB E + 17)), some (.int x1), some (.int x2), some (.int x3), some (.int x4)] rfl (Nat.le_of_ble_eq_true rfl) ?_
  refine J.aload_n dX5_add_0 rfl rfl ?_
  refine J.getI (x := I 17 0) fl_X5_48 rfl dX5_add_1 (lt17 hs) (kk17 hs) rfl ?_
  refine J.bipush (v := 60) dX5_add_4 (by decide) ?_
  refine J.ic_lt 11 dX5_add_6 (by decide) (fun hc1 => ?_) (fun hc1 => ?_)
  · have hW := hW.1 hc1
    refine J.aload_n dX5_add_11 rfl rfl ?_
    refine J.getR (r := 18) fl_X5_9 rfl dX5_add_12 (lt17 hs) (kk17 hs) (rr17_1 hs) ?_
    refine J.aload_n dX5_add_15 rfl rfl ?_
    refine J.getI (x := I 17 0) fl_X5_48 rfl dX5_add_16 (lt17 hs) (kk17 hs) rfl ?_
    refine J.iload_n dX5_add_19 rfl rfl ?_
    obtain ⟨hb2, hW⟩ := hW
    refine J.iast dX5_add_20 (lt18 hs) (kk18 hs) hb2 ?_
    refine J.aload_n dX5_add_21 rfl rfl ?_
    refine J.getR (r := 19) fl_X5_15 rfl dX5_add_22 (lt17 hs) (kk17 hs) (rr17_2 hs) ?_
    refine J.aload_n dX5_add_25 rfl rfl ?_
    refine J.getI (x := I 17 0) fl_X5_48 rfl dX5_add_26 (lt17 hs) (kk17 hs) rfl ?_
    refine J.iload_n dX5_add_29 rfl rfl ?_
    refine J.iast dX5_add_30 (lt19 hs) (kk19 hs) hb2 ?_
    refine J.aload_n dX5_add_31 rfl rfl ?_
    refine J.getR (r := 20) fl_X5_18 rfl dX5_add_32 (lt17 hs) (kk17 hs) (rr17_3 hs) ?_
    refine J.aload_n dX5_add_35 rfl rfl ?_
    refine J.getI (x := I 17 0) fl_X5_48 rfl dX5_add_36 (lt17 hs) (kk17 hs) rfl ?_
    refine J.iload_n dX5_add_39 rfl rfl ?_
    refine J.iast dX5_add_40 (lt20 hs) (kk20 hs) hb2 ?_
    refine J.aload_n dX5_add_41 rfl rfl ?_
    refine J.getR (r := 21) fl_X5_21 rfl dX5_add_42 (lt17 hs) (kk17 hs) (rr17_4 hs) ?_
    refine J.aload_n dX5_add_45 rfl rfl ?_
    refine J.getI (x := I 17 0) fl_X5_48 rfl dX5_add_46 (lt17 hs) (kk17 hs) rfl ?_
    refine J.iload dX5_add_49 rfl ?_
    refine J.iast dX5_add_51 (lt21 hs) (kk21 hs) hb2 ?_
    refine J.aload_n dX5_add_52 rfl rfl ?_
    refine J.dup dX5_add_53 rfl ?_
    refine J.getI (x := I 17 0) fl_X5_48 rfl dX5_add_54 (lt17 hs) (kk17 hs) rfl ?_
    refine J.iconst (v := 1) dX5_add_57 (by decide) ?_
    refine J.iadd dX5_add_58 ?_
    refine J.putI fw_X5_48 rfl dX5_add_59 (lt17 hs) (kk17 hs) ?_
    refine J.aload_n dX5_add_62 rfl rfl ?_
    refine J.getI (x := (I 17 0) + 1) fl_X5_48 rfl dX5_add_63 (lt17 hs) (kk17 hs) (by simp [uI]) ?_
    refine J.iconst (v := 1) dX5_add_66 (by decide) ?_
    refine J.isub dX5_add_67 ?_
    exact J.reti dX5_add_68 rfl rfl hW
  · have hW := hW.2 hc1
    refine J.iconst (v := (-1)) dX5_add_9 (by decide) ?_
    exact J.reti dX5_add_10 rfl rfl hW
