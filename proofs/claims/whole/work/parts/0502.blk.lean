set_option maxRecDepth 100000 in
set_option maxHeartbeats 4000000 in
theorem w_X3_nearest {E : Envt} {d : Nat} {Q : Pst} {h : mS} {I : mI} {L : mL} (hs : SL h) (x1 : Int32) (x2 : Int32) (x3 : Int32) (x4 : Int32) 
    (hW : (vp_in x3 5 ∧ ((((I 57 x3.toNatClampNeg) = x4) → J E mX3_nearest (d + 2) Q 0 0 26 [some (.ref (eB E + 56)), some (.int x1), some (.int x2), some (.int x3), some (.int x4), none, none] [] h (uI I 56 7 (x3 * 40)) L) ∧ (¬ ((I 57 x3.toNatClampNeg) = x4) → (CT E mX3_fill (d + 1) 0 0 [.ref (eB E + 56), .int x3, .int x4] h (uI I 56 7 (x3 * 40)) L (qv h L fun I3 => J E mX3_nearest (d + 2) Q 0 0 26 [some (.ref (eB E + 56)), some (.int x1), some (.int x2), some (.int x3), some (.int x4), none, none] [] h I3 L)))))) :
    CT E mX3_nearest (d + 2) 0 0 [.ref (eB E + 56), .int x1, .int x2, .int x3, .int x4] h I L Q := by
  refine CT.of (by decide) [some (.ref (eB E + 56)), some (.int x1), some (.int x2), some (.int x3), some (.int x4), none, none] rfl (Nat.le_of_ble_eq_true rfl) ?_
  refine J.aload_n dX3_nearest_0 rfl rfl ?_
  refine J.iload_n dX3_nearest_1 rfl rfl ?_
  refine J.bipush (v := 40) dX3_nearest_2 (by decide) ?_
  refine J.imul dX3_nearest_4 ?_
  refine J.putI fw_X3_52 rfl dX3_nearest_5 (lt56 hs) (kk56 hs) ?_
  refine J.aload_n dX3_nearest_8 rfl rfl ?_
  refine J.getR (r := 57) fl_X3_11 rfl dX3_nearest_9 (lt56 hs) (kk56 hs) (rr56_1 hs) ?_
  refine J.iload_n dX3_nearest_12 rfl rfl ?_
  obtain ⟨hb1, hW⟩ := hW
  refine J.iald (x := I 57 x3.toNatClampNeg) dX3_nearest_13 (lt57 hs) (kk57 hs) hb1 rfl ?_
  refine J.iload dX3_nearest_14 rfl ?_
  refine J.ic_eq 26 dX3_nearest_16 (by decide) (fun hc2 => ?_) (fun hc2 => ?_)
  · have hW := hW.1 hc2
    exact hW
  · have hW := hW.2 hc2
    refine J.aload_n dX3_nearest_19 rfl rfl ?_
    refine J.iload_n dX3_nearest_20 rfl rfl ?_
    refine J.iload dX3_nearest_21 rfl ?_
    refine J.callV (M' := mX3_fill) (index := 56) (bc := 0) (bs := 0) (bc' := 0) (bs' := 0) (st := []) [.int x3, .int x4] ml_X3_56 cv_X3_fill dX3_nearest_23 (lt56 hs) (kk56 hs) (by decide) rfl rfl rfl rfl (Nat.le_of_ble_eq_true rfl) (kqv hW (fun I3 hW => ?_))
    exact hW
set_option maxRecDepth 100000 in
set_option maxHeartbeats 4000000 in
theorem w_X3_nearest_26 {E : Envt} {d : Nat} {Q : Pst} {h : mS} {I : mI} {L : mL} (hs : SL h)    (x1 : Int32) (x2 : Int32) (x3 : Int32) (x4 : Int32)
    (hW : (CT E mX3_climb (d + 1) 0 0 [.ref (eB E + 56), .int x1, .ref (eB E + 59)] h I L (qv h L fun I1 => (CT E mX3_climb (d + 1) 0 0 [.ref (eB E + 56), .int x2, .ref (eB E + 60)] h I1 L (qv h L fun I2 => J E mX3_nearest (d + 2) Q 0 0 50 [some (.ref (eB E + 56)), some (.int x1), some (.int x2), some (.int x3), some (.int x4), some (.int (-1)), some (.int 0)] [] h I2 L))))) :
    J E mX3_nearest (d + 2) Q 0 0 26 [some (.ref (eB E + 56)), some (.int x1), some (.int x2), some (.int x3), some (.int x4), none, none] [] h I L := by
  refine J.aload_n dX3_nearest_26 rfl rfl ?_
  refine J.iload_n dX3_nearest_27 rfl rfl ?_
  refine J.aload_n dX3_nearest_28 rfl rfl ?_
  refine J.getR (r := 59) fl_X3_18 rfl dX3_nearest_29 (lt56 hs) (kk56 hs) (rr56_3 hs) ?_
  refine J.callV (M' := mX3_climb) (index := 59) (bc := 0) (bs := 0) (bc' := 0) (bs' := 0) (st := []) [.int x1, .ref (eB E + 59)] ml_X3_59 cv_X3_climb dX3_nearest_32 (lt56 hs) (kk56 hs) (by decide) rfl rfl rfl rfl (Nat.le_of_ble_eq_true rfl) (kqv hW (fun I1 hW => ?_))
  refine J.aload_n dX3_nearest_35 rfl rfl ?_
  refine J.iload_n dX3_nearest_36 rfl rfl ?_
  refine J.aload_n dX3_nearest_37 rfl rfl ?_
  refine J.getR (r := 60) fl_X3_21 rfl dX3_nearest_38 (lt56 hs) (kk56 hs) (rr56_4 hs) ?_
  refine J.callV (M' := mX3_climb) (index := 59) (bc := 0) (bs := 0) (bc' := 0) (bs' := 0) (st := []) [.int x2, .ref (eB E + 60)] ml_X3_59 cv_X3_climb dX3_nearest_41 (lt56 hs) (kk56 hs) (by decide) rfl rfl rfl rfl (Nat.le_of_ble_eq_true rfl) (kqv hW (fun I2 hW => ?_))
  refine J.iconst (v := (-1)) dX3_nearest_44 (by decide) ?_
  refine J.istore (vs' := [some (.ref (eB E + 56)), some (.int x1), some (.int x2), some (.int x3), some (.int x4), some (.int (-1)), none]) dX3_nearest_45 (by decide) rfl ?_
  refine J.iconst (v := 0) dX3_nearest_47 (by decide) ?_
  refine J.istore (vs' := [some (.ref (eB E + 56)), some (.int x1), some (.int x2), some (.int x3), some (.int x4), some (.int (-1)), some (.int 0)]) dX3_nearest_48 (by decide) rfl ?_
  exact hW
set_option maxRecDepth 100000 in
set_option maxHeartbeats 4000000 in
theorem w_X3_nearest_50 {E : Envt} {d : Nat} {Q : Pst} {h : mS} {I : mI} {L : mL} (hs : SL h)    (x1 : Int32) (x2 : Int32) (x3 : Int32) (x4 : Int32) (x5 : Int32) (x6 : Int32)
    (hW : ((((I 7 0) ≤ x6) → Q (some (.int x5)) h I L) ∧ (¬ ((I 7 0) ≤ x6) → (vp_in x6 20 ∧ ((((I 59 x6.toNatClampNeg) = (-1)) → J E mX3_nearest (d + 2) Q 0 0 50 [some (.ref (eB E + 56)), some (.int x1), some (.int x2), some (.int x3), some (.int x4), some (.int x5), some (.int (x6 + 1))] [] h I L) ∧ (¬ ((I 59 x6.toNatClampNeg) = (-1)) → ((((I 60 x6.toNatClampNeg) = (-1)) → J E mX3_nearest (d + 2) Q 0 0 50 [some (.ref (eB E + 56)), some (.int x1), some (.int x2), some (.int x3), some (.int x4), some (.int x5), some (.int (x6 + 1))] [] h I L) ∧ (¬ ((I 60 x6.toNatClampNeg) = (-1)) → (((x5 = (-1)) → J E mX3_nearest (d + 2) Q 0 0 50 [some (.ref (eB E + 56)), some (.int x1), some (.int x2), some (.int x3), some (.int x4), some (.int x6), some (.int (x6 + 1))] [] h I L) ∧ (¬ (x5 = (-1)) → (CT E mX3_isNearer (d + 1) 0 0 [.ref (eB E + 56), .int x6, .int x5] h I L (qi h L fun r7 I6 => J E mX3_nearest (d + 2) Q 0 0 50 [some (.ref (eB E + 56)), some (.int x1), some (.int x2), some (.int x3), some (.int x4), some (.int (if r7 = 0 then x5 else x6 : Int32)), some (.int (x6 + 1))] [] h I6 L)))))))))))) :
    J E mX3_nearest (d + 2) Q 0 0 50 [some (.ref (eB E + 56)), some (.int x1), some (.int x2), some (.int x3), some (.int x4), some (.int x5), some (.int x6)] [] h I L := by
  refine J.iload dX3_nearest_50 rfl ?_
  refine J.aload_n dX3_nearest_52 rfl rfl ?_
  refine J.getR (r := 1) fl_X3_30 rfl dX3_nearest_53 (lt56 hs) (kk56 hs) (rr56_0 hs) ?_
  refine J.getR (r := 7) fl_X3_63 rfl dX3_nearest_56 (lt1 hs) (kk1 hs) (rr1_2 hs) ?_
  refine J.getI (x := I 7 0) fl_X3_69 rfl dX3_nearest_59 (lt7 hs) (kk7 hs) rfl ?_
  refine J.ic_ge 114 dX3_nearest_62 (by decide) (fun hc1 => ?_) (fun hc1 => ?_)
  · have hW := hW.1 hc1
    refine J.iload dX3_nearest_114 rfl ?_
    exact J.reti dX3_nearest_116 rfl rfl hW
  · have hW := hW.2 hc1
    refine J.aload_n dX3_nearest_65 rfl rfl ?_
    refine J.getR (r := 59) fl_X3_18 rfl dX3_nearest_66 (lt56 hs) (kk56 hs) (rr56_3 hs) ?_
    refine J.iload dX3_nearest_69 rfl ?_
    obtain ⟨hb2, hW⟩ := hW
    refine J.iald (x := I 59 x6.toNatClampNeg) dX3_nearest_71 (lt59 hs) (kk59 hs) hb2 rfl ?_
    refine J.iconst (v := (-1)) dX3_nearest_72 (by decide) ?_
    refine J.ic_eq 108 dX3_nearest_73 (by decide) (fun hc3 => ?_) (fun hc3 => ?_)
    · have hW := hW.1 hc3
      refine J.iinc (v := x6 + 1) (vs' := [some (.ref (eB E + 56)), some (.int x1), some (.int x2), some (.int x3), some (.int x4), some (.int x5), some (.int (x6 + 1))]) dX3_nearest_108 rfl (by rfl) (by decide) rfl ?_
      refine J.goto 50 dX3_nearest_111 (by decide) ?_
      exact hW
    · have hW := hW.2 hc3
      refine J.aload_n dX3_nearest_76 rfl rfl ?_
      refine J.getR (r := 60) fl_X3_21 rfl dX3_nearest_77 (lt56 hs) (kk56 hs) (rr56_4 hs) ?_
      refine J.iload dX3_nearest_80 rfl ?_
      refine J.iald (x := I 60 x6.toNatClampNeg) dX3_nearest_82 (lt60 hs) (kk60 hs) hb2 rfl ?_
      refine J.iconst (v := (-1)) dX3_nearest_83 (by decide) ?_
      refine J.ic_eq 108 dX3_nearest_84 (by decide) (fun hc4 => ?_) (fun hc4 => ?_)
      · have hW := hW.1 hc4
        refine J.iinc (v := x6 + 1) (vs' := [some (.ref (eB E + 56)), some (.int x1), some (.int x2), some (.int x3), some (.int x4), some (.int x5), some (.int (x6 + 1))]) dX3_nearest_108 rfl (by rfl) (by decide) rfl ?_
        refine J.goto 50 dX3_nearest_111 (by decide) ?_
        exact hW
      · have hW := hW.2 hc4
        refine J.iload dX3_nearest_87 rfl ?_
        refine J.iconst (v := (-1)) dX3_nearest_89 (by decide) ?_
        refine J.ic_eq 104 dX3_nearest_90 (by decide) (fun hc5 => ?_) (fun hc5 => ?_)
        · have hW := hW.1 hc5
          refine J.iload dX3_nearest_104 rfl ?_
          refine J.istore (vs' := [some (.ref (eB E + 56)), some (.int x1), some (.int x2), some (.int x3), some (.int x4), some (.int x6), some (.int x6)]) dX3_nearest_106 (by decide) rfl ?_
          refine J.iinc (v := x6 + 1) (vs' := [some (.ref (eB E + 56)), some (.int x1), some (.int x2), some (.int x3), some (.int x4), some (.int x6), some (.int (x6 + 1))]) dX3_nearest_108 rfl (by rfl) (by decide) rfl ?_
          refine J.goto 50 dX3_nearest_111 (by decide) ?_
          exact hW
        · have hW := hW.2 hc5
          refine J.aload_n dX3_nearest_93 rfl rfl ?_
          refine J.iload dX3_nearest_94 rfl ?_
          refine J.iload dX3_nearest_96 rfl ?_
          refine J.callV (M' := mX3_isNearer) (index := 74) (bc := 0) (bs := 0) (bc' := 0) (bs' := 0) (st := []) [.int x6, .int x5] ml_X3_74 cv_X3_isNearer dX3_nearest_98 (lt56 hs) (kk56 hs) (by decide) rfl rfl rfl rfl (Nat.le_of_ble_eq_true rfl) (kqi hW (fun r7 I6 hW => ?_))
          have hj : J E mX3_nearest (d + 2) Q 0 0 108 [some (.ref (eB E + 56)), some (.int x1), some (.int x2), some (.int x3), some (.int x4), some (.int (if r7 = 0 then x5 else x6 : Int32)), some (.int x6)] [] h I6 L := by
            refine J.iinc (v := x6 + 1) (vs' := [some (.ref (eB E + 56)), some (.int x1), some (.int x2), some (.int x3), some (.int x4), some (.int (if r7 = 0 then x5 else x6 : Int32)), some (.int (x6 + 1))]) dX3_nearest_108 rfl (by rfl) (by decide) rfl ?_
            refine J.goto 50 dX3_nearest_111 (by decide) ?_
            exact hW
          refine J.if_eq 108 dX3_nearest_101 (by decide) (fun hc8 => ?_) (fun hc8 => ?_)
          · rw [show ((if r7 = 0 then x5 else x6 : Int32) = x5) from by simp only [eq_true hc8, if_true, if_false, bI_true, bI_false, and_true, true_and, and_false, false_and, or_true, true_or, or_false, false_or, not_true_eq_false, not_false_eq_true]] at hj
            exact hj
          · refine J.iload dX3_nearest_104 rfl ?_
            refine J.istore (vs' := [some (.ref (eB E + 56)), some (.int x1), some (.int x2), some (.int x3), some (.int x4), some (.int x6), some (.int x6)]) dX3_nearest_106 (by decide) rfl ?_
            rw [show ((if r7 = 0 then x5 else x6 : Int32) = x6) from by simp only [eq_false hc8, if_true, if_false, bI_true, bI_false, and_true, true_and, and_false, false_and, or_true, true_or, or_false, false_or, not_true_eq_false, not_false_eq_true]] at hj
            exact hj
set_option maxRecDepth 100000 in
set_option maxHeartbeats 4000000 in
theorem w_X3_steps {E : Envt} {d : Nat} {Q : Pst} {h : mS} {I : mI} {L : mL} (hs : SL h) (x1 : Int32) (x2 : Int32) (x3 : Int32) (x4 : Int32) 
    (hW : (CT E mX3_nearest (d + 2) 0 0 [.ref (eB E + 56), .int x1, .int x2, .int x3, .int x4] h I L (qi h L fun r2 I1 => ((¬ (r2 = (-1)) → vp_in r2 20) ∧ Q (some (.int (if r2 = (-1) then 99 else (I1 59 r2.toNatClampNeg) + (I1 60 r2.toNatClampNeg) : Int32))) h I1 L)))) :
    CT E mX3_steps (d + 3) 0 0 [.ref (eB E + 56), .int x1, .int x2, .int x3, .int x4] h I L Q := by
  refine CT.of (by decide) [some (.ref (eB E + 56)), some (.int x1), some (.int x2), some (.int x3), some (.int x4), none] rfl (Nat.le_of_ble_eq_true rfl) ?_
  refine J.aload_n dX3_steps_0 rfl rfl ?_
  refine J.iload_n dX3_steps_1 rfl rfl ?_
  refine J.iload_n dX3_steps_2 rfl rfl ?_
  refine J.iload_n dX3_steps_3 rfl rfl ?_
  refine J.iload dX3_steps_4 rfl ?_
  refine J.callV (M' := mX3_nearest) (index := 40) (bc := 0) (bs := 0) (bc' := 0) (bs' := 0) (st := []) [.int x1, .int x2, .int x3, .int x4] ml_X3_40 cv_X3_nearest dX3_steps_6 (lt56 hs) (kk56 hs) (by decide) rfl rfl rfl rfl (Nat.le_of_ble_eq_true rfl) (kqi hW (fun r2 I1 hW => ?_))
  refine J.istore (vs' := [some (.ref (eB E + 56)), some (.int x1), some (.int x2), some (.int x3), some (.int x4), some (.int r2)]) dX3_steps_9 (by decide) rfl ?_
  refine J.iload dX3_steps_11 rfl ?_
  refine J.iconst (v := (-1)) dX3_steps_13 (by decide) ?_
  obtain ⟨hq5, hW⟩ := hW
  have hj : J E mX3_steps (d + 3) Q 0 0 37 [some (.ref (eB E + 56)), some (.int x1), some (.int x2), some (.int x3), some (.int x4), some (.int r2)] [.int (if r2 = (-1) then 99 else (I1 59 r2.toNatClampNeg) + (I1 60 r2.toNatClampNeg) : Int32)] h I1 L := by
    exact J.reti dX3_steps_37 rfl rfl hW
  refine J.ic_ne 22 dX3_steps_14 (by decide) (fun hc3 => ?_) (fun hc3 => ?_)
  · refine J.aload_n dX3_steps_22 rfl rfl ?_
    refine J.getR (r := 59) fl_X3_18 rfl dX3_steps_23 (lt56 hs) (kk56 hs) (rr56_3 hs) ?_
    refine J.iload dX3_steps_26 rfl ?_
    have hb4 := hq5 hc3
    refine J.iald (x := I1 59 r2.toNatClampNeg) dX3_steps_28 (lt59 hs) (kk59 hs) hb4 rfl ?_
    refine J.aload_n dX3_steps_29 rfl rfl ?_
    refine J.getR (r := 60) fl_X3_21 rfl dX3_steps_30 (lt56 hs) (kk56 hs) (rr56_4 hs) ?_
    refine J.iload dX3_steps_33 rfl ?_
    refine J.iald (x := I1 60 r2.toNatClampNeg) dX3_steps_35 (lt60 hs) (kk60 hs) hb4 rfl ?_
    refine J.iadd dX3_steps_36 ?_
    rw [show ((if r2 = (-1) then 99 else (I1 59 r2.toNatClampNeg) + (I1 60 r2.toNatClampNeg) : Int32) = (I1 59 r2.toNatClampNeg) + (I1 60 r2.toNatClampNeg)) from by simp only [eq_false hc3, if_true, if_false, bI_true, bI_false, and_true, true_and, and_false, false_and, or_true, true_or, or_false, false_or, not_true_eq_false, not_false_eq_true]] at hj
    exact hj
  · refine J.bipush (v := 99) dX3_steps_17 (by decide) ?_
    refine J.goto 37 dX3_steps_19 (by decide) ?_
    rw [show ((if r2 = (-1) then 99 else (I1 59 r2.toNatClampNeg) + (I1 60 r2.toNatClampNeg) : Int32) = 99) from by simp only [eq_true hc3, if_true, if_false, bI_true, bI_false, and_true, true_and, and_false, false_and, or_true, true_or, or_false, false_or, not_true_eq_false, not_false_eq_true]] at hj
    exact hj
set_option maxRecDepth 100000 in
set_option maxHeartbeats 4000000 in
theorem w_X10_passes {E : Envt} {d : Nat} {Q : Pst} {h : mS} {I : mI} {L : mL} (hs : SL h) {t nl nt : Nat} (x1 : Int32) (x2 : Int32) (ht : LT h t nl nt)
    (hW : (vp_in x1 nt ∧ (((I (t + 5) x1.toNatClampNeg) = 60 → Q (some (.int (bI (¬ ((I (t + 6) x1.toNatClampNeg) ≤ x2))))) h I L) ∧ ((I (t + 5) x1.toNatClampNeg) = 61 → Q (some (.int (bI (x2 = (I (t + 6) x1.toNatClampNeg))))) h I L) ∧ ((I (t + 5) x1.toNatClampNeg) = 62 → Q (some (.int (bI (¬ (x2 ≤ (I (t + 6) x1.toNatClampNeg)))))) h I L) ∧ (¬ (I (t + 5) x1.toNatClampNeg) = 60 → ¬ (I (t + 5) x1.toNatClampNeg) = 61 → ¬ (I (t + 5) x1.toNatClampNeg) = 62 → Q (some (.int (bI (¬ (x2 = 0))))) h I L)))) :
    CT E mX10_passes d 0 0 [.ref (eB E + t), .int x1, .int x2] h I L Q := by
  refine CT.of (by decide) [some (.ref (eB E + t)), some (.int x1), some (.int x2)] rfl (Nat.le_of_ble_eq_true rfl) ?_
  refine J.aload_n dX10_passes_0 rfl rfl ?_
  refine J.getR (r := t + 5) fl_X10_28 rfl dX10_passes_1 ht.l0 ht.k0 ht.r5 ?_
  refine J.iload_n dX10_passes_4 rfl rfl ?_
  obtain ⟨hb1, hW⟩ := hW
  refine J.iald (x := I (t + 5) x1.toNatClampNeg) dX10_passes_5 ht.l5 ht.k5 hb1 rfl ?_
  by_cases hk6 : (I (t + 5) x1.toNatClampNeg) = 60
  · have hW := hW.1 hk6
    refine J.tableIn (off := 26) 32 dX10_passes_6 (by rw [hk6] <;> decide) (by rw [hk6] <;> decide) (by rw [hk6] <;> rfl) (by decide) ?_
    refine J.iload_n dX10_passes_32 rfl rfl ?_
    refine J.aload_n dX10_passes_33 rfl rfl ?_
    refine J.getR (r := t + 6) fl_X10_31 rfl dX10_passes_34 ht.l0 ht.k0 ht.r6 ?_
    refine J.iload_n dX10_passes_37 rfl rfl ?_
    refine J.iald (x := I (t + 6) x1.toNatClampNeg) dX10_passes_38 ht.l6 ht.k6 hb1 rfl ?_
    have hj : J E mX10_passes d Q 0 0 47 [some (.ref (eB E + t)), some (.int x1), some (.int x2)] [.int (bI (¬ ((I (t + 6) x1.toNatClampNeg) ≤ x2)))] h I L := by
      exact J.reti dX10_passes_47 rfl (bz_nar (bI_bz _)) hW
    refine J.ic_ge 46 dX10_passes_39 (by decide) (fun hc2 => ?_) (fun hc2 => ?_)
    · refine J.iconst (v := 0) dX10_passes_46 (by decide) ?_
      rw [show bI (¬ ((I (t + 6) x1.toNatClampNeg) ≤ x2)) = 0 from bI_f (by simp only [eq_true hc2, and_true, true_and, and_false, false_and, or_true, true_or, or_false, false_or, not_true_eq_false, not_false_eq_true])] at hj
      exact hj
    · refine J.iconst (v := 1) dX10_passes_42 (by decide) ?_
      refine J.goto 47 dX10_passes_43 (by decide) ?_
      rw [show bI (¬ ((I (t + 6) x1.toNatClampNeg) ≤ x2)) = 1 from bI_t (by simp only [eq_false hc2, and_true, true_and, and_false, false_and, or_true, true_or, or_false, false_or, not_true_eq_false, not_false_eq_true])] at hj
      exact hj
  by_cases hk7 : (I (t + 5) x1.toNatClampNeg) = 61
  · have hW := hW.2.1 hk7
    refine J.tableIn (off := 58) 64 dX10_passes_6 (by rw [hk7] <;> decide) (by rw [hk7] <;> decide) (by rw [hk7] <;> rfl) (by decide) ?_
    refine J.iload_n dX10_passes_64 rfl rfl ?_
    refine J.aload_n dX10_passes_65 rfl rfl ?_
    refine J.getR (r := t + 6) fl_X10_31 rfl dX10_passes_66 ht.l0 ht.k0 ht.r6 ?_
    refine J.iload_n dX10_passes_69 rfl rfl ?_
    refine J.iald (x := I (t + 6) x1.toNatClampNeg) dX10_passes_70 ht.l6 ht.k6 hb1 rfl ?_
    have hj : J E mX10_passes d Q 0 0 79 [some (.ref (eB E + t)), some (.int x1), some (.int x2)] [.int (bI (x2 = (I (t + 6) x1.toNatClampNeg)))] h I L := by
      exact J.reti dX10_passes_79 rfl (bz_nar (bI_bz _)) hW
    refine J.ic_ne 78 dX10_passes_71 (by decide) (fun hc3 => ?_) (fun hc3 => ?_)
    · refine J.iconst (v := 0) dX10_passes_78 (by decide) ?_
      rw [show bI (x2 = (I (t + 6) x1.toNatClampNeg)) = 0 from bI_f (by simp only [eq_false hc3, and_true, true_and, and_false, false_and, or_true, true_or, or_false, false_or, not_true_eq_false, not_false_eq_true])] at hj
      exact hj
    · refine J.iconst (v := 1) dX10_passes_74 (by decide) ?_
      refine J.goto 79 dX10_passes_75 (by decide) ?_
      rw [show bI (x2 = (I (t + 6) x1.toNatClampNeg)) = 1 from bI_t (by simp only [eq_true hc3, and_true, true_and, and_false, false_and, or_true, true_or, or_false, false_or, not_true_eq_false, not_false_eq_true])] at hj
      exact hj
  by_cases hk8 : (I (t + 5) x1.toNatClampNeg) = 62
  · have hW := hW.2.2.1 hk8
    refine J.tableIn (off := 42) 48 dX10_passes_6 (by rw [hk8] <;> decide) (by rw [hk8] <;> decide) (by rw [hk8] <;> rfl) (by decide) ?_
    refine J.iload_n dX10_passes_48 rfl rfl ?_
    refine J.aload_n dX10_passes_49 rfl rfl ?_
    refine J.getR (r := t + 6) fl_X10_31 rfl dX10_passes_50 ht.l0 ht.k0 ht.r6 ?_
    refine J.iload_n dX10_passes_53 rfl rfl ?_
    refine J.iald (x := I (t + 6) x1.toNatClampNeg) dX10_passes_54 ht.l6 ht.k6 hb1 rfl ?_
    have hj : J E mX10_passes d Q 0 0 63 [some (.ref (eB E + t)), some (.int x1), some (.int x2)] [.int (bI (¬ (x2 ≤ (I (t + 6) x1.toNatClampNeg))))] h I L := by
      exact J.reti dX10_passes_63 rfl (bz_nar (bI_bz _)) hW
    refine J.ic_le 62 dX10_passes_55 (by decide) (fun hc4 => ?_) (fun hc4 => ?_)
    · refine J.iconst (v := 0) dX10_passes_62 (by decide) ?_
      rw [show bI (¬ (x2 ≤ (I (t + 6) x1.toNatClampNeg))) = 0 from bI_f (by simp only [eq_true hc4, and_true, true_and, and_false, false_and, or_true, true_or, or_false, false_or, not_true_eq_false, not_false_eq_true])] at hj
      exact hj
    · refine J.iconst (v := 1) dX10_passes_58 (by decide) ?_
      refine J.goto 63 dX10_passes_59 (by decide) ?_
      rw [show bI (¬ (x2 ≤ (I (t + 6) x1.toNatClampNeg))) = 1 from bI_t (by simp only [eq_false hc4, and_true, true_and, and_false, false_and, or_true, true_or, or_false, false_or, not_true_eq_false, not_false_eq_true])] at hj
      exact hj
  have hW := hW.2.2.2 hk6 hk7 hk8
  refine J.tableOut 80 dX10_passes_6 (by have := toInt_ne (k := 60) (by decide) hk6; have := toInt_ne (k := 61) (by decide) hk7; have := toInt_ne (k := 62) (by decide) hk8; omega) (by decide) ?_
  refine J.iload_n dX10_passes_80 rfl rfl ?_
  have hj : J E mX10_passes d Q 0 0 89 [some (.ref (eB E + t)), some (.int x1), some (.int x2)] [.int (bI (¬ (x2 = 0)))] h I L := by
    exact J.reti dX10_passes_89 rfl (bz_nar (bI_bz _)) hW
  refine J.if_eq 88 dX10_passes_81 (by decide) (fun hc5 => ?_) (fun hc5 => ?_)
  · refine J.iconst (v := 0) dX10_passes_88 (by decide) ?_
    rw [show bI (¬ (x2 = 0)) = 0 from bI_f (by simp only [eq_true hc5, and_true, true_and, and_false, false_and, or_true, true_or, or_false, false_or, not_true_eq_false, not_false_eq_true])] at hj
    exact hj
  · refine J.iconst (v := 1) dX10_passes_84 (by decide) ?_
    refine J.goto 89 dX10_passes_85 (by decide) ?_
    rw [show bI (¬ (x2 = 0)) = 1 from bI_t (by simp only [eq_false hc5, and_true, true_and, and_false, false_and, or_true, true_or, or_false, false_or, not_true_eq_false, not_false_eq_true])] at hj
    exact hj
set_option maxRecDepth 100000 in
set_option maxHeartbeats 4000000 in
theorem w_X10_holds {E : Envt} {d : Nat} {Q : Pst} {h : mS} {I : mI} {L : mL} (hs : SL h) {t nl nt : Nat} (x1 : Int32) {a2 n2 : Nat} (ht : LT h t nl nt) (hl2 : a2 < h.2.2) (hk2 : h.1 a2 = (14, n2))
    (hW : (vp_in x1 (nl + 1) ∧ (∀ y2 : Int32, y2 = I (t + 3) x1.toNatClampNeg → J E mX10_holds (d + 1) Q 0 0 7 [some (.ref (eB E + t)), some (.int x1), some (.ref (eB E + a2)), some (.int y2)] [] h I L))) :
    CT E mX10_holds (d + 1) 0 0 [.ref (eB E + t), .int x1, .ref (eB E + a2)] h I L Q := by
  refine CT.of (by decide) [some (.ref (eB E + t)), some (.int x1), some (.ref (eB E + a2)), none] rfl (Nat.le_of_ble_eq_true rfl) ?_
  refine J.aload_n dX10_holds_0 rfl rfl ?_
  refine J.getR (r := t + 3) fl_X10_22 rfl dX10_holds_1 ht.l0 ht.k0 ht.r3 ?_
  refine J.iload_n dX10_holds_4 rfl rfl ?_
  obtain ⟨hb1, hW⟩ := hW
  refine J.iald (x := I (t + 3) x1.toNatClampNeg) dX10_holds_5 ht.l3 ht.k3 hb1 rfl ?_
  refine J.topi (fun y2 hyy2 => ?_)
  have hW := hW y2 hyy2
  refine J.istore_n (vs' := [some (.ref (eB E + t)), some (.int x1), some (.ref (eB E + a2)), some (.int y2)]) dX10_holds_6 rfl (by decide) rfl ?_
  exact hW
set_option maxRecDepth 100000 in
set_option maxHeartbeats 4000000 in
theorem w_X10_holds_7 {E : Envt} {d : Nat} {Q : Pst} {h : mS} {I : mI} {L : mL} (hs : SL h) {t nl nt : Nat} {a2 n2 : Nat} (ht : LT h t nl nt) (hl2 : a2 < h.2.2) (hk2 : h.1 a2 = (14, n2))  (x1 : Int32) (x3 : Int32)
    (hW : (vp_in (x1 + 1) (nl + 1) ∧ ((((I (t + 3) ((x1 + 1).toNatClampNeg)) ≤ x3) → Q (some (.int 1)) h I L) ∧ (¬ ((I (t + 3) ((x1 + 1).toNatClampNeg)) ≤ x3) → (vp_in x3 nt ∧ (vp_in (I (t + 4) x3.toNatClampNeg) n2 ∧ (CT E mX10_passes d 0 0 [.ref (eB E + t), .int x3, .int (I a2 ((I (t + 4) x3.toNatClampNeg).toNatClampNeg))] h I L (qi h L fun r6 I5 => (((r6 = (I5 (t + 7) x3.toNatClampNeg)) → Q (some (.int 0)) h I5 L) ∧ (¬ (r6 = (I5 (t + 7) x3.toNatClampNeg)) → J E mX10_holds (d + 1) Q 0 0 7 [some (.ref (eB E + t)), some (.int x1), some (.ref (eB E + a2)), some (.int (x3 + 1))] [] h I5 L)))))))))) :
    J E mX10_holds (d + 1) Q 0 0 7 [some (.ref (eB E + t)), some (.int x1), some (.ref (eB E + a2)), some (.int x3)] [] h I L := by
  refine J.iload_n dX10_holds_7 rfl rfl ?_
  refine J.aload_n dX10_holds_8 rfl rfl ?_
  refine J.getR (r := t + 3) fl_X10_22 rfl dX10_holds_9 ht.l0 ht.k0 ht.r3 ?_
  refine J.iload_n dX10_holds_12 rfl rfl ?_
  refine J.iconst (v := 1) dX10_holds_13 (by decide) ?_
  refine J.iadd dX10_holds_14 ?_
  obtain ⟨hb1, hW⟩ := hW
  refine J.iald (x := I (t + 3) ((x1 + 1).toNatClampNeg)) dX10_holds_15 ht.l3 ht.k3 hb1 rfl ?_
  refine J.ic_ge 49 dX10_holds_16 (by decide) (fun hc2 => ?_) (fun hc2 => ?_)
  · have hW := hW.1 hc2
    refine J.iconst (v := 1) dX10_holds_49 (by decide) ?_
    exact J.reti dX10_holds_50 rfl (bz_nar (Or.inr rfl)) hW
  · have hW := hW.2 hc2
    refine J.aload_n dX10_holds_19 rfl rfl ?_
    refine J.iload_n dX10_holds_20 rfl rfl ?_
    refine J.aload_n dX10_holds_21 rfl rfl ?_
    refine J.aload_n dX10_holds_22 rfl rfl ?_
    refine J.getR (r := t + 4) fl_X10_25 rfl dX10_holds_23 ht.l0 ht.k0 ht.r4 ?_
    refine J.iload_n dX10_holds_26 rfl rfl ?_
    obtain ⟨hb3, hW⟩ := hW
    refine J.iald (x := I (t + 4) x3.toNatClampNeg) dX10_holds_27 ht.l4 ht.k4 hb3 rfl ?_
    obtain ⟨hb4, hW⟩ := hW
    refine J.iald (x := I a2 ((I (t + 4) x3.toNatClampNeg).toNatClampNeg)) dX10_holds_28 hl2 hk2 hb4 rfl ?_
    refine J.callV (M' := mX10_passes) (index := 38) (bc := 0) (bs := 0) (bc' := 0) (bs' := 0) (st := []) [.int x3, .int (I a2 ((I (t + 4) x3.toNatClampNeg).toNatClampNeg))] ml_X10_38 cv_X10_passes dX10_holds_29 ht.l0 ht.k0 (by decide) rfl rfl rfl rfl (Nat.le_of_ble_eq_true rfl) (kqi hW (fun r6 I5 hW => ?_))
    refine J.aload_n dX10_holds_32 rfl rfl ?_
    refine J.getR (r := t + 7) fl_X10_34 rfl dX10_holds_33 ht.l0 ht.k0 ht.r7 ?_
    refine J.iload_n dX10_holds_36 rfl rfl ?_
    refine J.zald (x := I5 (t + 7) x3.toNatClampNeg) dX10_holds_37 ht.l7 ht.k7 hb3 rfl ?_
    refine J.ic_ne 43 dX10_holds_38 (by decide) (fun hc7 => ?_) (fun hc7 => ?_)
    · have hW := hW.2 hc7
      refine J.iinc (v := x3 + 1) (vs' := [some (.ref (eB E + t)), some (.int x1), some (.ref (eB E + a2)), some (.int (x3 + 1))]) dX10_holds_43 rfl (by rfl) (by decide) rfl ?_
      refine J.goto 7 dX10_holds_46 (by decide) ?_
      exact hW
    · have hW := hW.1 hc7
      refine J.iconst (v := 0) dX10_holds_41 (by decide) ?_
      exact J.reti dX10_holds_42 rfl (bz_nar (Or.inl rfl)) hW
set_option maxRecDepth 100000 in
set_option maxHeartbeats 4000000 in
theorem w_X2_obey {E : Envt} {d : Nat} {Q : Pst} {h : mS} {I : mI} {L : mL} (hs : SL h) {t1 nl1 nt1 : Nat} (x2 : Int32) (ht1 : LT h t1 nl1 nt1)
    (hW : (vp_in x2 nl1 ∧ (((I (t1 + 1) x2.toNatClampNeg) = 0 → Q none h (uI I 63 5 (if (I 63 5) = (-1) then x2 else I 63 5 : Int32)) L) ∧ ((I (t1 + 1) x2.toNatClampNeg) = 1 → Q none h (uI I 63 6 ((I 63 6) + (I (t1 + 2) x2.toNatClampNeg))) L) ∧ (¬ (I (t1 + 1) x2.toNatClampNeg) = 0 → ¬ (I (t1 + 1) x2.toNatClampNeg) = 1 → Q none h (uI I 63 7 (I (t1 + 2) x2.toNatClampNeg)) L)))) :
    CT E mX2_obey d 0 0 [.ref (eB E + 63), .ref (eB E + t1), .int x2] h I L Q := by
  refine CT.of (by decide) [some (.ref (eB E + 63)), some (.ref (eB E + t1)), some (.int x2)] rfl (Nat.le_of_ble_eq_true rfl) ?_
  refine J.aload_n dX2_obey_0 rfl rfl ?_
  refine J.getR (r := t1 + 1) fl_X2_123 rfl dX2_obey_1 ht1.l0 ht1.k0 ht1.r1 ?_
  refine J.iload_n dX2_obey_4 rfl rfl ?_
  obtain ⟨hb1, hW⟩ := hW
  refine J.iald (x := I (t1 + 1) x2.toNatClampNeg) dX2_obey_5 ht1.l1 ht1.k1 hb1 rfl ?_
  by_cases hk3 : (I (t1 + 1) x2.toNatClampNeg) = 0
  · have hW := hW.1 hk3
    refine J.lookup (off := 26) 32 dX2_obey_6 (by decide) (by rw [hk3] <;> rfl) (by decide) ?_
    refine J.aload_n dX2_obey_32 rfl rfl ?_
    refine J.aload_n dX2_obey_33 rfl rfl ?_
    refine J.getI (x := I 63 5) fl_X2_103 rfl dX2_obey_34 (lt63 hs) (kk63 hs) rfl ?_
    refine J.iconst (v := (-1)) dX2_obey_37 (by decide) ?_
    have hj : J E mX2_obey d Q 0 0 49 [some (.ref (eB E + 63)), some (.ref (eB E + t1)), some (.int x2)] [.int (if (I 63 5) = (-1) then x2 else I 63 5 : Int32), .ref (eB E + 63)] h I L := by
      refine J.putI fw_X2_103 rfl dX2_obey_49 (lt63 hs) (kk63 hs) ?_
      refine J.goto 83 dX2_obey_52 (by decide) ?_
      exact J.retv dX2_obey_83 rfl hW
    refine J.ic_ne 45 dX2_obey_38 (by decide) (fun hc2 => ?_) (fun hc2 => ?_)
    · refine J.aload_n dX2_obey_45 rfl rfl ?_
      refine J.getI (x := I 63 5) fl_X2_103 rfl dX2_obey_46 (lt63 hs) (kk63 hs) rfl ?_
      rw [show ((if (I 63 5) = (-1) then x2 else I 63 5 : Int32) = I 63 5) from by simp only [eq_false hc2, if_true, if_false, bI_true, bI_false, and_true, true_and, and_false, false_and, or_true, true_or, or_false, false_or, not_true_eq_false, not_false_eq_true]] at hj
      exact hj
    · refine J.iload_n dX2_obey_41 rfl rfl ?_
      refine J.goto 49 dX2_obey_42 (by decide) ?_
      rw [show ((if (I 63 5) = (-1) then x2 else I 63 5 : Int32) = x2) from by simp only [eq_true hc2, if_true, if_false, bI_true, bI_false, and_true, true_and, and_false, false_and, or_true, true_or, or_false, false_or, not_true_eq_false, not_false_eq_true]] at hj
      exact hj
  by_cases hk4 : (I (t1 + 1) x2.toNatClampNeg) = 1
  · have hW := hW.2.1 hk4
    refine J.lookup (off := 49) 55 dX2_obey_6 (by decide) (by rw [hk4] <;> rfl) (by decide) ?_
    refine J.aload_n dX2_obey_55 rfl rfl ?_
    refine J.dup dX2_obey_56 rfl ?_
    refine J.getI (x := I 63 6) fl_X2_106 rfl dX2_obey_57 (lt63 hs) (kk63 hs) rfl ?_
    refine J.aload_n dX2_obey_60 rfl rfl ?_
    refine J.getR (r := t1 + 2) fl_X2_126 rfl dX2_obey_61 ht1.l0 ht1.k0 ht1.r2 ?_
    refine J.iload_n dX2_obey_64 rfl rfl ?_
    refine J.iald (x := I (t1 + 2) x2.toNatClampNeg) dX2_obey_65 ht1.l2 ht1.k2 hb1 rfl ?_
    refine J.iadd dX2_obey_66 ?_
    refine J.putI fw_X2_106 rfl dX2_obey_67 (lt63 hs) (kk63 hs) ?_
    refine J.goto 83 dX2_obey_70 (by decide) ?_
    exact J.retv dX2_obey_83 rfl hW
  have hW := hW.2.2 hk3 hk4
  refine J.lookup (off := 67) 73 dX2_obey_6 (by decide) (by simp [Op.lookupswitch.offset, (toInt_ne (k := 0) (by decide) hk3).symm, (toInt_ne (k := 1) (by decide) hk4).symm]) (by decide) ?_
  refine J.aload_n dX2_obey_73 rfl rfl ?_
  refine J.aload_n dX2_obey_74 rfl rfl ?_
  refine J.getR (r := t1 + 2) fl_X2_126 rfl dX2_obey_75 ht1.l0 ht1.k0 ht1.r2 ?_
  refine J.iload_n dX2_obey_78 rfl rfl ?_
  refine J.iald (x := I (t1 + 2) x2.toNatClampNeg) dX2_obey_79 ht1.l2 ht1.k2 hb1 rfl ?_
  refine J.putI fw_X2_109 rfl dX2_obey_80 (lt63 hs) (kk63 hs) ?_
  exact J.retv dX2_obey_83 rfl hW
set_option maxRecDepth 100000 in
set_option maxHeartbeats 4000000 in
theorem w_X2_readBy {E : Envt} {d : Nat} {Q : Pst} {h : mS} {I : mI} {L : mL} (hs : SL h) {t1 nl1 nt1 : Nat} (x2 : Int32) (ht1 : LT h t1 nl1 nt1)
    (hW : (CT E mX10_asksKin (d + 3) 0 0 [.ref (eB E + t1)] h I L (qi h L fun r2 I1 => (((r2 = 0) → J E mX2_readBy (d + 4) Q 0 0 54 [some (.ref (eB E + 63)), some (.ref (eB E + t1)), some (.int x2), some (.int 0)] [] h (uI (uI (uI I1 63 5 (-1)) 63 6 0) 63 7 0) L) ∧ (¬ (r2 = 0) → (CT E mX3_steps (d + 3) 0 0 [.ref (eB E + 56), .int (I1 63 2), .int (I1 63 3), .int x2, .int (I1 1 0)] h I1 L (qi h L fun r5 I4 => J E mX2_readBy (d + 4) Q 0 0 54 [some (.ref (eB E + 63)), some (.ref (eB E + t1)), some (.int x2), some (.int 0)] [] h (uI (uI (uI (uI I4 64 6 r5) 63 5 (-1)) 63 6 0) 63 7 0) L))))))) :
    CT E mX2_readBy (d + 4) 0 0 [.ref (eB E + 63), .ref (eB E + t1), .int x2] h I L Q := by
  refine CT.of (by decide) [some (.ref (eB E + 63)), some (.ref (eB E + t1)), some (.int x2), none] rfl (Nat.le_of_ble_eq_true rfl) ?_
  refine J.aload_n dX2_readBy_0 rfl rfl ?_
  refine J.callV (M' := mX10_asksKin) (index := 91) (bc := 0) (bs := 0) (bc' := 0) (bs' := 0) (st := []) [] ml_X2_91 cv_X10_asksKin dX2_readBy_1 ht1.l0 ht1.k0 (by decide) rfl rfl rfl rfl (Nat.le_of_ble_eq_true rfl) (kqi hW (fun r2 I1 hW => ?_))
  refine J.if_eq 37 dX2_readBy_4 (by decide) (fun hc3 => ?_) (fun hc3 => ?_)
  · have hW := hW.1 hc3
    refine J.aload_n dX2_readBy_37 rfl rfl ?_
    refine J.iconst (v := (-1)) dX2_readBy_38 (by decide) ?_
    refine J.putI fw_X2_103 rfl dX2_readBy_39 (lt63 hs) (kk63 hs) ?_
    refine J.aload_n dX2_readBy_42 rfl rfl ?_
    refine J.iconst (v := 0) dX2_readBy_43 (by decide) ?_
    refine J.putI fw_X2_106 rfl dX2_readBy_44 (lt63 hs) (kk63 hs) ?_
    refine J.aload_n dX2_readBy_47 rfl rfl ?_
    refine J.iconst (v := 0) dX2_readBy_48 (by decide) ?_
    refine J.putI fw_X2_109 rfl dX2_readBy_49 (lt63 hs) (kk63 hs) ?_
    refine J.iconst (v := 0) dX2_readBy_52 (by decide) ?_
    refine J.istore_n (vs' := [some (.ref (eB E + 63)), some (.ref (eB E + t1)), some (.int x2), some (.int 0)]) dX2_readBy_53 rfl (by decide) rfl ?_
    exact hW
  · have hW := hW.2 hc3
    refine J.aload_n dX2_readBy_7 rfl rfl ?_
    refine J.getR (r := 64) fl_X2_9 rfl dX2_readBy_8 (lt63 hs) (kk63 hs) (rr63_4 hs) ?_
    refine J.bipush (v := 6) dX2_readBy_11 (by decide) ?_
    refine J.aload_n dX2_readBy_13 rfl rfl ?_
    refine J.getR (r := 56) fl_X2_19 rfl dX2_readBy_14 (lt63 hs) (kk63 hs) (rr63_1 hs) ?_
    refine J.aload_n dX2_readBy_17 rfl rfl ?_
    refine J.getI (x := I1 63 2) fl_X2_23 rfl dX2_readBy_18 (lt63 hs) (kk63 hs) rfl ?_
    refine J.aload_n dX2_readBy_21 rfl rfl ?_
    refine J.getI (x := I1 63 3) fl_X2_27 rfl dX2_readBy_22 (lt63 hs) (kk63 hs) rfl ?_
    refine J.iload_n dX2_readBy_25 rfl rfl ?_
    refine J.aload_n dX2_readBy_26 rfl rfl ?_
    refine J.getR (r := 1) fl_X2_15 rfl dX2_readBy_27 (lt63 hs) (kk63 hs) (rr63_0 hs) ?_
    refine J.getI (x := I1 1 0) fl_X2_82 rfl dX2_readBy_30 (lt1 hs) (kk1 hs) rfl ?_
    refine J.callV (M' := mX3_steps) (index := 97) (bc := 0) (bs := 0) (bc' := 0) (bs' := 0) (st := [.int 6, .ref (eB E + 64)]) [.int (I1 63 2), .int (I1 63 3), .int x2, .int (I1 1 0)] ml_X2_97 cv_X3_steps dX2_readBy_33 (lt56 hs) (kk56 hs) (by decide) rfl rfl rfl rfl (Nat.le_of_ble_eq_true rfl) (kqi hW (fun r5 I4 hW => ?_))
    refine J.iast dX2_readBy_36 (lt64 hs) (kk64 hs) (by unfold vp_in; decide) ?_
    refine J.aload_n dX2_readBy_37 rfl rfl ?_
    refine J.iconst (v := (-1)) dX2_readBy_38 (by decide) ?_
    refine J.putI fw_X2_103 rfl dX2_readBy_39 (lt63 hs) (kk63 hs) ?_
    refine J.aload_n dX2_readBy_42 rfl rfl ?_
    refine J.iconst (v := 0) dX2_readBy_43 (by decide) ?_
    refine J.putI fw_X2_106 rfl dX2_readBy_44 (lt63 hs) (kk63 hs) ?_
    refine J.aload_n dX2_readBy_47 rfl rfl ?_
    refine J.iconst (v := 0) dX2_readBy_48 (by decide) ?_
    refine J.putI fw_X2_109 rfl dX2_readBy_49 (lt63 hs) (kk63 hs) ?_
    refine J.iconst (v := 0) dX2_readBy_52 (by decide) ?_
    refine J.istore_n (vs' := [some (.ref (eB E + 63)), some (.ref (eB E + t1)), some (.int x2), some (.int 0)]) dX2_readBy_53 rfl (by decide) rfl ?_
    exact hW
set_option maxRecDepth 100000 in
set_option maxHeartbeats 4000000 in
theorem w_X2_readBy_54 {E : Envt} {d : Nat} {Q : Pst} {h : mS} {I : mI} {L : mL} (hs : SL h) {t1 nl1 nt1 : Nat} (ht1 : LT h t1 nl1 nt1)  (x2 : Int32) (x3 : Int32)
    (hW : ((((I t1 0) ≤ x3) → Q none h I L) ∧ (¬ ((I t1 0) ≤ x3) → (CT E mX10_holds (d + 3) 0 0 [.ref (eB E + t1), .int x3, .ref (eB E + 64)] h I L (qi h L fun r3 I2 => (((r3 = 0) → J E mX2_readBy (d + 4) Q 0 0 54 [some (.ref (eB E + 63)), some (.ref (eB E + t1)), some (.int x2), some (.int (x3 + 1))] [] h I2 L) ∧ (¬ (r3 = 0) → (CT E mX2_obey (d + 3) 0 0 [.ref (eB E + 63), .ref (eB E + t1), .int x3] h I2 L (qv h L fun I5 => J E mX2_readBy (d + 4) Q 0 0 54 [some (.ref (eB E + 63)), some (.ref (eB E + t1)), some (.int x2), some (.int (x3 + 1))] [] h I5 L))))))))) :
    J E mX2_readBy (d + 4) Q 0 0 54 [some (.ref (eB E + 63)), some (.ref (eB E + t1)), some (.int x2), some (.int x3)] [] h I L := by
  refine J.iload_n dX2_readBy_54 rfl rfl ?_
  refine J.aload_n dX2_readBy_55 rfl rfl ?_
  refine J.getI (x := I t1 0) fl_X2_112 rfl dX2_readBy_56 ht1.l0 ht1.k0 rfl ?_
  refine J.ic_ge 86 dX2_readBy_59 (by decide) (fun hc1 => ?_) (fun hc1 => ?_)
  · have hW := hW.1 hc1
    exact J.retv dX2_readBy_86 rfl hW
  · have hW := hW.2 hc1
    refine J.aload_n dX2_readBy_62 rfl rfl ?_
    refine J.iload_n dX2_readBy_63 rfl rfl ?_
    refine J.aload_n dX2_readBy_64 rfl rfl ?_
    refine J.getR (r := 64) fl_X2_9 rfl dX2_readBy_65 (lt63 hs) (kk63 hs) (rr63_4 hs) ?_
    refine J.callV (M' := mX10_holds) (index := 115) (bc := 0) (bs := 0) (bc' := 0) (bs' := 0) (st := []) [.int x3, .ref (eB E + 64)] ml_X2_115 cv_X10_holds dX2_readBy_68 ht1.l0 ht1.k0 (by decide) rfl rfl rfl rfl (Nat.le_of_ble_eq_true rfl) (kqi hW (fun r3 I2 hW => ?_))
    refine J.if_eq 80 dX2_readBy_71 (by decide) (fun hc4 => ?_) (fun hc4 => ?_)
    · have hW := hW.1 hc4
      refine J.iinc (v := x3 + 1) (vs' := [some (.ref (eB E + 63)), some (.ref (eB E + t1)), some (.int x2), some (.int (x3 + 1))]) dX2_readBy_80 rfl (by rfl) (by decide) rfl ?_
      refine J.goto 54 dX2_readBy_83 (by decide) ?_
      exact hW
    · have hW := hW.2 hc4
      refine J.aload_n dX2_readBy_74 rfl rfl ?_
      refine J.aload_n dX2_readBy_75 rfl rfl ?_
      refine J.iload_n dX2_readBy_76 rfl rfl ?_
      refine J.callV (M' := mX2_obey) (index := 119) (bc := 0) (bs := 0) (bc' := 0) (bs' := 0) (st := []) [.ref (eB E + t1), .int x3] ml_X2_119 cv_X2_obey dX2_readBy_77 (lt63 hs) (kk63 hs) (by decide) rfl rfl rfl rfl (Nat.le_of_ble_eq_true rfl) (kqv hW (fun I5 hW => ?_))
      refine J.iinc (v := x3 + 1) (vs' := [some (.ref (eB E + 63)), some (.ref (eB E + t1)), some (.int x2), some (.int (x3 + 1))]) dX2_readBy_80 rfl (by rfl) (by decide) rfl ?_
      refine J.goto 54 dX2_readBy_83 (by decide) ?_
      exact hW
set_option maxRecDepth 100000 in
set_option maxHeartbeats 4000000 in
theorem w_J9_max_7cf53 {E : Envt} {d : Nat} {Q : Pst} {h : mS} {I : mI} {L : mL} (hs : SL h) (x0 : Int32) (x1 : Int32) 
    (hW : Q (some (.int (if x0 < x1 then x1 else x0 : Int32))) h I L) :
    CT E mJ9_max_7cf53 d 0 0 [.int x0, .int x1] h I L Q := by
  refine CT.ofF (by decide +kernel) [some (.int x0), some (.int x1)] rfl (Nat.le_of_ble_eq_true rfl) ?_
  refine J.iload_n dJ9_max_7cf53_0 rfl rfl ?_
  refine J.iload_n dJ9_max_7cf53_1 rfl rfl ?_
  have hj : J E mJ9_max_7cf53 d Q 0 0 10 [some (.int x0), some (.int x1)] [.int (if x0 < x1 then x1 else x0 : Int32)] h I L := by
    exact J.reti dJ9_max_7cf53_10 rfl rfl hW
  refine J.ic_lt 9 dJ9_max_7cf53_2 (by decide) (fun hc1 => ?_) (fun hc1 => ?_)
  · refine J.iload_n dJ9_max_7cf53_9 rfl rfl ?_
    rw [show ((if x0 < x1 then x1 else x0 : Int32) = x1) from by simp only [eq_true hc1, if_true, if_false, bI_true, bI_false, and_true, true_and, and_false, false_and, or_true, true_or, or_false, false_or, not_true_eq_false, not_false_eq_true]] at hj
    exact hj
  · refine J.iload_n dJ9_max_7cf53_5 rfl rfl ?_
    refine J.goto 10 dJ9_max_7cf53_6 (by decide) ?_
    rw [show ((if x0 < x1 then x1 else x0 : Int32) = x0) from by simp only [eq_false hc1, if_true, if_false, bI_true, bI_false, and_true, true_and, and_false, false_and, or_true, true_or, or_false, false_or, not_true_eq_false, not_false_eq_true]] at hj
    exact hj
set_option maxRecDepth 100000 in
set_option maxHeartbeats 4000000 in
theorem w_X2_letsWed {E : Envt} {d : Nat} {Q : Pst} {h : mS} {I : mI} {L : mL} (hs : SL h) (x1 : Int32) (x2 : Int32) 
    (hW : (CT E mX2_face (d + 4) 0 0 [.ref (eB E + 63), .int x1, .int x2] h I L (qv h L fun I1 => (vp_in (I1 63 2) 20 ∧ (∀ y3 : Int32, y3 = I1 8 ((I1 63 2).toNatClampNeg) → (vp_in (I1 63 3) 20 ∧ (∀ y5 : Int32, y5 = I1 8 ((I1 63 3).toNatClampNeg) → (CT E mX0_customOf (d + 4) 0 0 [.ref (eB E + 1), .int y3] h I1 L (qt E h L fun t7 I6 => (vp_in y3 8 ∧ (CT E mX2_readBy (d + 4) 0 0 [.ref (eB E + 63), .ref (eB E + t7), .int (I6 4 y3.toNatClampNeg)] h I6 L (qv h L fun I9 => (CT E mX0_customOf (d + 4) 0 0 [.ref (eB E + 1), .int y5] h (uI (uI I9 63 8 (I9 63 6)) 63 9 (I9 63 7)) L (qt E h L fun t12 I11 => (vp_in y5 8 ∧ (CT E mX2_readBy (d + 4) 0 0 [.ref (eB E + 63), .ref (eB E + t12), .int (I11 4 y5.toNatClampNeg)] h I11 L (qv h L fun I14 => Q (some (.int (bI (¬ (y3 = y5) ∧ (¬ (¬ ((I9 63 5) = (-1))) ∧ ((I14 63 5) = (-1))))))) h (uI I14 63 8 (if (I14 63 8) < (I14 63 6) then (I14 63 6) else (I14 63 8) : Int32)) L))))))))))))))))) :
    CT E mX2_letsWed (d + 5) 0 0 [.ref (eB E + 63), .int x1, .int x2] h I L Q := by
  refine CT.of (by decide) [some (.ref (eB E + 63)), some (.int x1), some (.int x2), none, none, none] rfl (Nat.le_of_ble_eq_true rfl) ?_
  refine J.aload_n dX2_letsWed_0 rfl rfl ?_
  refine J.iload_n dX2_letsWed_1 rfl rfl ?_
  refine J.iload_n dX2_letsWed_2 rfl rfl ?_
  refine J.callV (M' := mX2_face) (index := 129) (bc := 0) (bs := 0) (bc' := 0) (bs' := 0) (st := []) [.int x1, .int x2] ml_X2_129 cv_X2_face dX2_letsWed_3 (lt63 hs) (kk63 hs) (by decide) rfl rfl rfl rfl (Nat.le_of_ble_eq_true rfl) (kqv hW (fun I1 hW => ?_))
  refine J.aload_n dX2_letsWed_6 rfl rfl ?_
  refine J.getR (r := 1) fl_X2_15 rfl dX2_letsWed_7 (lt63 hs) (kk63 hs) (rr63_0 hs) ?_
  refine J.getR (r := 7) fl_X2_30 rfl dX2_letsWed_10 (lt1 hs) (kk1 hs) (rr1_2 hs) ?_
  refine J.getR (r := 8) fl_X2_40 rfl dX2_letsWed_13 (lt7 hs) (kk7 hs) (rr7_1 hs) ?_
  refine J.aload_n dX2_letsWed_16 rfl rfl ?_
  refine J.getI (x := I1 63 2) fl_X2_23 rfl dX2_letsWed_17 (lt63 hs) (kk63 hs) rfl ?_
  obtain ⟨hb2, hW⟩ := hW
  refine J.iald (x := I1 8 ((I1 63 2).toNatClampNeg)) dX2_letsWed_20 (lt8 hs) (kk8 hs) hb2 rfl ?_
  refine J.topi (fun y3 hyy3 => ?_)
  have hW := hW y3 hyy3
  refine J.istore_n (vs' := [some (.ref (eB E + 63)), some (.int x1), some (.int x2), some (.int y3), none, none]) dX2_letsWed_21 rfl (by decide) rfl ?_
  refine J.aload_n dX2_letsWed_22 rfl rfl ?_
  refine J.getR (r := 1) fl_X2_15 rfl dX2_letsWed_23 (lt63 hs) (kk63 hs) (rr63_0 hs) ?_
  refine J.getR (r := 7) fl_X2_30 rfl dX2_letsWed_26 (lt1 hs) (kk1 hs) (rr1_2 hs) ?_
  refine J.getR (r := 8) fl_X2_40 rfl dX2_letsWed_29 (lt7 hs) (kk7 hs) (rr7_1 hs) ?_
  refine J.aload_n dX2_letsWed_32 rfl rfl ?_
  refine J.getI (x := I1 63 3) fl_X2_27 rfl dX2_letsWed_33 (lt63 hs) (kk63 hs) rfl ?_
  obtain ⟨hb4, hW⟩ := hW
  refine J.iald (x := I1 8 ((I1 63 3).toNatClampNeg)) dX2_letsWed_36 (lt8 hs) (kk8 hs) hb4 rfl ?_
  refine J.topi (fun y5 hyy5 => ?_)
  have hW := hW y5 hyy5
  refine J.istore (vs' := [some (.ref (eB E + 63)), some (.int x1), some (.int x2), some (.int y3), some (.int y5), none]) dX2_letsWed_37 (by decide) rfl ?_
  refine J.aload_n dX2_letsWed_39 rfl rfl ?_
  refine J.aload_n dX2_letsWed_40 rfl rfl ?_
  refine J.getR (r := 1) fl_X2_15 rfl dX2_letsWed_41 (lt63 hs) (kk63 hs) (rr63_0 hs) ?_
  refine J.iload_n dX2_letsWed_44 rfl rfl ?_
  refine J.callV (M' := mX0_customOf) (index := 133) (bc := 0) (bs := 0) (bc' := 0) (bs' := 0) (st := [.ref (eB E + 63)]) [.int y3] ml_X2_133 cv_X0_customOf dX2_letsWed_45 (lt1 hs) (kk1 hs) (by decide) rfl rfl rfl rfl (Nat.le_of_ble_eq_true rfl) (kqt hW (fun t7 I6 hW => ?_))
  refine J.aload_n dX2_letsWed_48 rfl rfl ?_
  refine J.getR (r := 1) fl_X2_15 rfl dX2_letsWed_49 (lt63 hs) (kk63 hs) (rr63_0 hs) ?_
  refine J.getR (r := 2) fl_X2_36 rfl dX2_letsWed_52 (lt1 hs) (kk1 hs) (rr1_1 hs) ?_
  refine J.getR (r := 4) fl_X2_63 rfl dX2_letsWed_55 (lt2 hs) (kk2 hs) (rr2_2 hs) ?_
  refine J.iload_n dX2_letsWed_58 rfl rfl ?_
  obtain ⟨hb8, hW⟩ := hW
  refine J.iald (x := I6 4 y3.toNatClampNeg) dX2_letsWed_59 (lt4 hs) (kk4 hs) hb8 rfl ?_
  refine J.callV (M' := mX2_readBy) (index := 137) (bc := 0) (bs := 0) (bc' := 0) (bs' := 0) (st := []) [.ref (eB E + t7), .int (I6 4 y3.toNatClampNeg)] ml_X2_137 cv_X2_readBy dX2_letsWed_60 (lt63 hs) (kk63 hs) (by decide) rfl rfl rfl rfl (Nat.le_of_ble_eq_true rfl) (kqv hW (fun I9 hW => ?_))
  refine J.aload_n dX2_letsWed_63 rfl rfl ?_
  refine J.getI (x := I9 63 5) fl_X2_103 rfl dX2_letsWed_64 (lt63 hs) (kk63 hs) rfl ?_
  refine J.iconst (v := (-1)) dX2_letsWed_67 (by decide) ?_
  have hj : J E mX2_letsWed (d + 5) Q 0 0 76 [some (.ref (eB E + 63)), some (.int x1), some (.int x2), some (.int y3), some (.int y5), none] [.int (bI (¬ ((I9 63 5) = (-1))))] h I9 L := by
    refine J.istore (vs' := [some (.ref (eB E + 63)), some (.int x1), some (.int x2), some (.int y3), some (.int y5), some (.int (bI (¬ ((I9 63 5) = (-1)))))]) dX2_letsWed_76 (by decide) rfl ?_
    refine J.aload_n dX2_letsWed_78 rfl rfl ?_
    refine J.aload_n dX2_letsWed_79 rfl rfl ?_
    refine J.getI (x := I9 63 6) fl_X2_106 rfl dX2_letsWed_80 (lt63 hs) (kk63 hs) rfl ?_
    refine J.putI fw_X2_140 rfl dX2_letsWed_83 (lt63 hs) (kk63 hs) ?_
    refine J.aload_n dX2_letsWed_86 rfl rfl ?_
    refine J.aload_n dX2_letsWed_87 rfl rfl ?_
    refine J.getI (x := I9 63 7) fl_X2_109 rfl dX2_letsWed_88 (lt63 hs) (kk63 hs) rfl ?_
    refine J.putI fw_X2_143 rfl dX2_letsWed_91 (lt63 hs) (kk63 hs) ?_
    refine J.aload_n dX2_letsWed_94 rfl rfl ?_
    refine J.aload_n dX2_letsWed_95 rfl rfl ?_
    refine J.getR (r := 1) fl_X2_15 rfl dX2_letsWed_96 (lt63 hs) (kk63 hs) (rr63_0 hs) ?_
    refine J.iload dX2_letsWed_99 rfl ?_
    refine J.callV (M' := mX0_customOf) (index := 133) (bc := 0) (bs := 0) (bc' := 0) (bs' := 0) (st := [.ref (eB E + 63)]) [.int y5] ml_X2_133 cv_X0_customOf dX2_letsWed_101 (lt1 hs) (kk1 hs) (by decide) rfl rfl rfl rfl (Nat.le_of_ble_eq_true rfl) (kqt hW (fun t12 I11 hW => ?_))
    refine J.aload_n dX2_letsWed_104 rfl rfl ?_
    refine J.getR (r := 1) fl_X2_15 rfl dX2_letsWed_105 (lt63 hs) (kk63 hs) (rr63_0 hs) ?_
    refine J.getR (r := 2) fl_X2_36 rfl dX2_letsWed_108 (lt1 hs) (kk1 hs) (rr1_1 hs) ?_
    refine J.getR (r := 4) fl_X2_63 rfl dX2_letsWed_111 (lt2 hs) (kk2 hs) (rr2_2 hs) ?_
    refine J.iload dX2_letsWed_114 rfl ?_
    obtain ⟨hb13, hW⟩ := hW
    refine J.iald (x := I11 4 y5.toNatClampNeg) dX2_letsWed_116 (lt4 hs) (kk4 hs) hb13 rfl ?_
    refine J.callV (M' := mX2_readBy) (index := 137) (bc := 0) (bs := 0) (bc' := 0) (bs' := 0) (st := []) [.ref (eB E + t12), .int (I11 4 y5.toNatClampNeg)] ml_X2_137 cv_X2_readBy dX2_letsWed_117 (lt63 hs) (kk63 hs) (by decide) rfl rfl rfl rfl (Nat.le_of_ble_eq_true rfl) (kqv hW (fun I14 hW => ?_))
    refine J.aload_n dX2_letsWed_120 rfl rfl ?_
    refine J.aload_n dX2_letsWed_121 rfl rfl ?_
    refine J.getI (x := I14 63 8) fl_X2_140 rfl dX2_letsWed_122 (lt63 hs) (kk63 hs) rfl ?_
    refine J.aload_n dX2_letsWed_125 rfl rfl ?_
    refine J.getI (x := I14 63 6) fl_X2_106 rfl dX2_letsWed_126 (lt63 hs) (kk63 hs) rfl ?_
    refine J.callS (M' := mJ9_max_7cf53) (index := 146) (bc := 0) (bs := 0) (bc' := 0) (bs' := 0) (st := [.ref (eB E + 63)]) [.int (I14 63 8), .int (I14 63 6)] ml_X2_146 cv_J9_max_7cf53 dX2_letsWed_129 rfl rfl (Nat.le_of_ble_eq_true rfl) (kqi (w_J9_max_7cf53 (d := d + 4) (Q := qi h L (fun v I' => I' = I14 ∧ v = (if (I14 63 8) < (I14 63 6) then (I14 63 6) else (I14 63 8) : Int32))) hs (I14 63 8) (I14 63 6) ⟨rfl, rfl, _, rfl, rfl, rfl⟩) (fun v15 I16 hv => ?_))
    rw [hv.1, hv.2]
    refine J.putI fw_X2_140 rfl dX2_letsWed_132 (lt63 hs) (kk63 hs) ?_
    refine J.iload_n dX2_letsWed_135 rfl rfl ?_
    refine J.iload dX2_letsWed_136 rfl ?_
    have hj : J E mX2_letsWed (d + 5) Q 0 0 159 [some (.ref (eB E + 63)), some (.int x1), some (.int x2), some (.int y3), some (.int y5), some (.int (bI (¬ ((I9 63 5) = (-1)))))] [.int (bI (¬ (y3 = y5) ∧ (¬ (¬ ((I9 63 5) = (-1))) ∧ ((I14 63 5) = (-1)))))] h (uI I14 63 8 (if (I14 63 8) < (I14 63 6) then (I14 63 6) else (I14 63 8) : Int32)) L := by
      exact J.reti dX2_letsWed_159 rfl (bz_nar (bI_bz _)) hW
    refine J.ic_eq 158 dX2_letsWed_138 (by decide) (fun hc17 => ?_) (fun hc17 => ?_)
    · refine J.iconst (v := 0) dX2_letsWed_158 (by decide) ?_
      rw [show bI (¬ (y3 = y5) ∧ (¬ (¬ ((I9 63 5) = (-1))) ∧ ((I14 63 5) = (-1)))) = 0 from bI_f (by simp only [eq_true hc17, and_true, true_and, and_false, false_and, or_true, true_or, or_false, false_or, not_true_eq_false, not_false_eq_true])] at hj
      exact hj
    · refine J.iload dX2_letsWed_141 rfl ?_
      refine J.if_ne 158 dX2_letsWed_143 (by decide) (fun hc18 => ?_) (fun hc18 => ?_)
      · have hc18 := bI_n0.mp hc18
        refine J.iconst (v := 0) dX2_letsWed_158 (by decide) ?_
        rw [show bI (¬ (y3 = y5) ∧ (¬ (¬ ((I9 63 5) = (-1))) ∧ ((I14 63 5) = (-1)))) = 0 from bI_f (by simp only [eq_false hc17, eq_true hc18, and_true, true_and, and_false, false_and, or_true, true_or, or_false, false_or, not_true_eq_false, not_false_eq_true])] at hj
        exact hj
      · have hc18 := bI_0.mp hc18
        refine J.aload_n dX2_letsWed_146 rfl rfl ?_
        refine J.getI (x := I14 63 5) fl_X2_103 rfl dX2_letsWed_147 (lt63 hs) (kk63 hs) rfl ?_
        refine J.iconst (v := (-1)) dX2_letsWed_150 (by decide) ?_
        refine J.ic_ne 158 dX2_letsWed_151 (by decide) (fun hc19 => ?_) (fun hc19 => ?_)
        · refine J.iconst (v := 0) dX2_letsWed_158 (by decide) ?_
          rw [show bI (¬ (y3 = y5) ∧ (¬ (¬ ((I9 63 5) = (-1))) ∧ ((I14 63 5) = (-1)))) = 0 from bI_f (by simp only [eq_false hc17, eq_false hc18, eq_false hc19, and_true, true_and, and_false, false_and, or_true, true_or, or_false, false_or, not_true_eq_false, not_false_eq_true])] at hj
          exact hj
        · refine J.iconst (v := 1) dX2_letsWed_154 (by decide) ?_
          refine J.goto 159 dX2_letsWed_155 (by decide) ?_
          rw [show bI (¬ (y3 = y5) ∧ (¬ (¬ ((I9 63 5) = (-1))) ∧ ((I14 63 5) = (-1)))) = 1 from bI_t (by simp only [eq_false hc17, eq_false hc18, eq_true hc19, and_true, true_and, and_false, false_and, or_true, true_or, or_false, false_or, not_true_eq_false, not_false_eq_true])] at hj
          exact hj
  refine J.ic_eq 75 dX2_letsWed_68 (by decide) (fun hc10 => ?_) (fun hc10 => ?_)
  · refine J.iconst (v := 0) dX2_letsWed_75 (by decide) ?_
    rw [show bI (¬ ((I9 63 5) = (-1))) = 0 from bI_f (by simp only [eq_true hc10, and_true, true_and, and_false, false_and, or_true, true_or, or_false, false_or, not_true_eq_false, not_false_eq_true])] at hj
    exact hj
  · refine J.iconst (v := 1) dX2_letsWed_71 (by decide) ?_
    refine J.goto 76 dX2_letsWed_72 (by decide) ?_
    rw [show bI (¬ ((I9 63 5) = (-1))) = 1 from bI_t (by simp only [eq_false hc10, and_true, true_and, and_false, false_and, or_true, true_or, or_false, false_or, not_true_eq_false, not_false_eq_true])] at hj
    exact hj
set_option maxRecDepth 100000 in
set_option maxHeartbeats 4000000 in
theorem w_X2_likes {E : Envt} {d : Nat} {Q : Pst} {h : mS} {I : mI} {L : mL} (hs : SL h) (x1 : Int32) (x2 : Int32) 
    (hW : (vp_in x1 20 ∧ (vp_in (5 + (I 9 x1.toNatClampNeg)) 7 ∧ (∃ t4 : Nat, h.2.1 36 (5 + (I 9 x1.toNatClampNeg)).toNatClampNeg = some t4 ∧ (CT E mX2_face (d + 3) 0 0 [.ref (eB E + 63), .int (if (I 9 x1.toNatClampNeg) = 0 then x1 else x2 : Int32), .int (if (I 9 x1.toNatClampNeg) = 0 then x2 else x1 : Int32)] h I L (qv h L fun I7 => (vp_in x2 20 ∧ (vp_in (I7 8 x2.toNatClampNeg) 8 ∧ (∃ nl11 nt12 : Nat, LT h t4 nl11 nt12 ∧ (CT E mX10_asksKin (d + 3) 0 0 [.ref (eB E + t4)] h (uI I7 64 10 (I7 5 ((I7 8 x2.toNatClampNeg).toNatClampNeg))) L (qi h L fun r14 I13 => (((r14 = 0) → J E mX2_likes (d + 4) Q 0 0 141 [some (.ref (eB E + 63)), some (.int x1), some (.int x2), some (.ref (eB E + 7)), some (.int (bI ((I 9 x1.toNatClampNeg) = 0))), some (.ref (eB E + t4)), some (.int 0), some (.int 0)] [] h I13 L) ∧ (¬ (r14 = 0) → ((vp_in x1 20) ∧ ((vp_in (I13 8 x1.toNatClampNeg) 8) ∧ (CT E mX3_steps (d + 3) 0 0 [.ref (eB E + 56), .int (I13 63 2), .int (I13 63 3), .int (I13 4 ((I13 8 x1.toNatClampNeg).toNatClampNeg)), .int (I13 1 0)] h I13 L (qi h L fun r21 I20 => J E mX2_likes (d + 4) Q 0 0 141 [some (.ref (eB E + 63)), some (.int x1), some (.int x2), some (.ref (eB E + 7)), some (.int (bI ((I 9 x1.toNatClampNeg) = 0))), some (.ref (eB E + t4)), some (.int 0), some (.int 0)] [] h (uI I20 64 6 r21) L))))))))))))))))) :
    CT E mX2_likes (d + 4) 0 0 [.ref (eB E + 63), .int x1, .int x2] h I L Q := by
  refine CT.of (by decide) [some (.ref (eB E + 63)), some (.int x1), some (.int x2), none, none, none, none, none] rfl (Nat.le_of_ble_eq_true rfl) ?_
  refine J.aload_n dX2_likes_0 rfl rfl ?_
  refine J.getR (r := 1) fl_X2_15 rfl dX2_likes_1 (lt63 hs) (kk63 hs) (rr63_0 hs) ?_
  refine J.getR (r := 7) fl_X2_30 rfl dX2_likes_4 (lt1 hs) (kk1 hs) (rr1_2 hs) ?_
  refine J.astore_n (vs' := [some (.ref (eB E + 63)), some (.int x1), some (.int x2), some (.ref (eB E + 7)), none, none, none, none]) dX2_likes_7 rfl (by decide) rfl ?_
  refine J.aload_n dX2_likes_8 rfl rfl ?_
  refine J.getR (r := 9) fl_X2_149 rfl dX2_likes_9 (lt7 hs) (kk7 hs) (rr7_2 hs) ?_
  refine J.iload_n dX2_likes_12 rfl rfl ?_
  obtain ⟨hb1, hW⟩ := hW
  refine J.iald (x := I 9 x1.toNatClampNeg) dX2_likes_13 (lt9 hs) (kk9 hs) hb1 rfl ?_
  have hj : J E mX2_likes (d + 4) Q 0 0 22 [some (.ref (eB E + 63)), some (.int x1), some (.int x2), some (.ref (eB E + 7)), none, none, none, none] [.int (bI ((I 9 x1.toNatClampNeg) = 0))] h I L := by
    refine J.istore (vs' := [some (.ref (eB E + 63)), some (.int x1), some (.int x2), some (.ref (eB E + 7)), some (.int (bI ((I 9 x1.toNatClampNeg) = 0))), none, none, none]) dX2_likes_22 (by decide) rfl ?_
    refine J.aload_n dX2_likes_24 rfl rfl ?_
    refine J.getR (r := 1) fl_X2_15 rfl dX2_likes_25 (lt63 hs) (kk63 hs) (rr63_0 hs) ?_
    refine J.getR (r := 36) fl_X2_152 rfl dX2_likes_28 (lt1 hs) (kk1 hs) (rr1_5 hs) ?_
    refine J.iconst (v := 5) dX2_likes_31 (by decide) ?_
    refine J.aload_n dX2_likes_32 rfl rfl ?_
    refine J.getR (r := 9) fl_X2_149 rfl dX2_likes_33 (lt7 hs) (kk7 hs) (rr7_2 hs) ?_
    refine J.iload_n dX2_likes_36 rfl rfl ?_
    refine J.iald (x := I 9 x1.toNatClampNeg) dX2_likes_37 (lt9 hs) (kk9 hs) hb1 rfl ?_
    refine J.iadd dX2_likes_38 ?_
    obtain ⟨hb3, hW⟩ := hW
    obtain ⟨t4, hot4, hW⟩ := hW
    refine J.aald (v := .ref (eB E + t4)) dX2_likes_39 (lt36 hs) (kk36 hs) (by decide) hb3 (by rw [hot4]; rfl) ?_
    refine J.astore (vs' := [some (.ref (eB E + 63)), some (.int x1), some (.int x2), some (.ref (eB E + 7)), some (.int (bI ((I 9 x1.toNatClampNeg) = 0))), some (.ref (eB E + t4)), none, none]) dX2_likes_40 (by decide) rfl ?_
    refine J.aload_n dX2_likes_42 rfl rfl ?_
    refine J.iload dX2_likes_43 rfl ?_
    have hj : J E mX2_likes (d + 4) Q 0 0 53 [some (.ref (eB E + 63)), some (.int x1), some (.int x2), some (.ref (eB E + 7)), some (.int (bI ((I 9 x1.toNatClampNeg) = 0))), some (.ref (eB E + t4)), none, none] [.int (if (I 9 x1.toNatClampNeg) = 0 then x1 else x2 : Int32), .ref (eB E + 63)] h I L := by
      refine J.iload dX2_likes_53 rfl ?_
      have hj : J E mX2_likes (d + 4) Q 0 0 63 [some (.ref (eB E + 63)), some (.int x1), some (.int x2), some (.ref (eB E + 7)), some (.int (bI ((I 9 x1.toNatClampNeg) = 0))), some (.ref (eB E + t4)), none, none] [.int (if (I 9 x1.toNatClampNeg) = 0 then x2 else x1 : Int32), .int (if (I 9 x1.toNatClampNeg) = 0 then x1 else x2 : Int32), .ref (eB E + 63)] h I L := by
        refine J.callV (M' := mX2_face) (index := 129) (bc := 0) (bs := 0) (bc' := 0) (bs' := 0) (st := []) [.int (if (I 9 x1.toNatClampNeg) = 0 then x1 else x2 : Int32), .int (if (I 9 x1.toNatClampNeg) = 0 then x2 else x1 : Int32)] ml_X2_129 cv_X2_face dX2_likes_63 (lt63 hs) (kk63 hs) (by decide) rfl rfl rfl rfl (Nat.le_of_ble_eq_true rfl) (kqv hW (fun I7 hW => ?_))
        refine J.aload_n dX2_likes_66 rfl rfl ?_
        refine J.getR (r := 64) fl_X2_9 rfl dX2_likes_67 (lt63 hs) (kk63 hs) (rr63_4 hs) ?_
        refine J.bipush (v := 10) dX2_likes_70 (by decide) ?_
        refine J.aload_n dX2_likes_72 rfl rfl ?_
        refine J.getR (r := 1) fl_X2_15 rfl dX2_likes_73 (lt63 hs) (kk63 hs) (rr63_0 hs) ?_
        refine J.getR (r := 2) fl_X2_36 rfl dX2_likes_76 (lt1 hs) (kk1 hs) (rr1_1 hs) ?_
        refine J.getR (r := 5) fl_X2_88 rfl dX2_likes_79 (lt2 hs) (kk2 hs) (rr2_3 hs) ?_
        refine J.aload_n dX2_likes_82 rfl rfl ?_
        refine J.getR (r := 8) fl_X2_40 rfl dX2_likes_83 (lt7 hs) (kk7 hs) (rr7_1 hs) ?_
        refine J.iload_n dX2_likes_86 rfl rfl ?_
        obtain ⟨hb8, hW⟩ := hW
        refine J.iald (x := I7 8 x2.toNatClampNeg) dX2_likes_87 (lt8 hs) (kk8 hs) hb8 rfl ?_
        obtain ⟨hb9, hW⟩ := hW
        refine J.iald (x := I7 5 ((I7 8 x2.toNatClampNeg).toNatClampNeg)) dX2_likes_88 (lt5 hs) (kk5 hs) hb9 rfl ?_
        refine J.iast dX2_likes_89 (lt64 hs) (kk64 hs) (by unfold vp_in; decide) ?_
        refine J.aload dX2_likes_90 rfl ?_
        obtain ⟨nl11, nt12, ht10, hW⟩ := hW
        refine J.callV (M' := mX10_asksKin) (index := 91) (bc := 0) (bs := 0) (bc' := 0) (bs' := 0) (st := []) [] ml_X2_91 cv_X10_asksKin dX2_likes_92 ht10.l0 ht10.k0 (by decide) rfl rfl rfl rfl (Nat.le_of_ble_eq_true rfl) (kqi hW (fun r14 I13 hW => ?_))
        refine J.if_eq 135 dX2_likes_95 (by decide) (fun hc15 => ?_) (fun hc15 => ?_)
        · have hW := hW.1 hc15
          refine J.iconst (v := 0) dX2_likes_135 (by decide) ?_
          refine J.istore (vs' := [some (.ref (eB E + 63)), some (.int x1), some (.int x2), some (.ref (eB E + 7)), some (.int (bI ((I 9 x1.toNatClampNeg) = 0))), some (.ref (eB E + t4)), some (.int 0), none]) dX2_likes_136 (by decide) rfl ?_
          refine J.iconst (v := 0) dX2_likes_138 (by decide) ?_
          refine J.istore (vs' := [some (.ref (eB E + 63)), some (.int x1), some (.int x2), some (.ref (eB E + 7)), some (.int (bI ((I 9 x1.toNatClampNeg) = 0))), some (.ref (eB E + t4)), some (.int 0), some (.int 0)]) dX2_likes_139 (by decide) rfl ?_
          exact hW
        · have hW := hW.2 hc15
          refine J.aload_n dX2_likes_98 rfl rfl ?_
          refine J.getR (r := 64) fl_X2_9 rfl dX2_likes_99 (lt63 hs) (kk63 hs) (rr63_4 hs) ?_
          refine J.bipush (v := 6) dX2_likes_102 (by decide) ?_
          refine J.aload_n dX2_likes_104 rfl rfl ?_
          refine J.getR (r := 56) fl_X2_19 rfl dX2_likes_105 (lt63 hs) (kk63 hs) (rr63_1 hs) ?_
          refine J.aload_n dX2_likes_108 rfl rfl ?_
          refine J.getI (x := I13 63 2) fl_X2_23 rfl dX2_likes_109 (lt63 hs) (kk63 hs) rfl ?_
          refine J.aload_n dX2_likes_112 rfl rfl ?_
          refine J.getI (x := I13 63 3) fl_X2_27 rfl dX2_likes_113 (lt63 hs) (kk63 hs) rfl ?_
          refine J.aload_n dX2_likes_116 rfl rfl ?_
          refine J.getR (r := 1) fl_X2_15 rfl dX2_likes_117 (lt63 hs) (kk63 hs) (rr63_0 hs) ?_
          refine J.iload_n dX2_likes_120 rfl rfl ?_
          obtain ⟨hb16, hW⟩ := hW
          obtain ⟨hb17, hW⟩ := hW
          refine J.callV (M' := mX0_villageOf) (index := 156) (bc := 0) (bs := 0) (bc' := 0) (bs' := 0) (st := [.int (I13 63 3), .int (I13 63 2), .ref (eB E + 56), .int 6, .ref (eB E + 64)]) [.int x1] ml_X2_156 cv_X0_villageOf dX2_likes_121 (lt1 hs) (kk1 hs) (by decide) rfl rfl rfl rfl (Nat.le_of_ble_eq_true rfl) (kqi (w_X0_villageOf (d := d + 3) (Q := qi h L (fun v I' => I' = I13 ∧ v = I13 4 ((I13 8 x1.toNatClampNeg).toNatClampNeg))) hs x1 ⟨hb16, hb17, rfl, rfl, _, rfl, rfl, rfl⟩) (fun v18 I19 hv => ?_))
          rw [hv.1, hv.2]
          refine J.aload_n dX2_likes_124 rfl rfl ?_
          refine J.getR (r := 1) fl_X2_15 rfl dX2_likes_125 (lt63 hs) (kk63 hs) (rr63_0 hs) ?_
          refine J.getI (x := I13 1 0) fl_X2_82 rfl dX2_likes_128 (lt1 hs) (kk1 hs) rfl ?_
          refine J.callV (M' := mX3_steps) (index := 97) (bc := 0) (bs := 0) (bc' := 0) (bs' := 0) (st := [.int 6, .ref (eB E + 64)]) [.int (I13 63 2), .int (I13 63 3), .int (I13 4 ((I13 8 x1.toNatClampNeg).toNatClampNeg)), .int (I13 1 0)] ml_X2_97 cv_X3_steps dX2_likes_131 (lt56 hs) (kk56 hs) (by decide) rfl rfl rfl rfl (Nat.le_of_ble_eq_true rfl) (kqi hW (fun r21 I20 hW => ?_))
          refine J.iast dX2_likes_134 (lt64 hs) (kk64 hs) (by unfold vp_in; decide) ?_
          refine J.iconst (v := 0) dX2_likes_135 (by decide) ?_
          refine J.istore (vs' := [some (.ref (eB E + 63)), some (.int x1), some (.int x2), some (.ref (eB E + 7)), some (.int (bI ((I 9 x1.toNatClampNeg) = 0))), some (.ref (eB E + t4)), some (.int 0), none]) dX2_likes_136 (by decide) rfl ?_
          refine J.iconst (v := 0) dX2_likes_138 (by decide) ?_
          refine J.istore (vs' := [some (.ref (eB E + 63)), some (.int x1), some (.int x2), some (.ref (eB E + 7)), some (.int (bI ((I 9 x1.toNatClampNeg) = 0))), some (.ref (eB E + t4)), some (.int 0), some (.int 0)]) dX2_likes_139 (by decide) rfl ?_
          exact hW
      refine J.if_eq 62 dX2_likes_55 (by decide) (fun hc6 => ?_) (fun hc6 => ?_)
      · have hc6 := bI_0.mp hc6
        refine J.iload_n dX2_likes_62 rfl rfl ?_
        rw [show ((if (I 9 x1.toNatClampNeg) = 0 then x2 else x1 : Int32) = x1) from by simp only [eq_false hc6, if_true, if_false, bI_true, bI_false, and_true, true_and, and_false, false_and, or_true, true_or, or_false, false_or, not_true_eq_false, not_false_eq_true]] at hj
        exact hj
      · have hc6 := bI_n0.mp hc6
        refine J.iload_n dX2_likes_58 rfl rfl ?_
        refine J.goto 63 dX2_likes_59 (by decide) ?_
        rw [show ((if (I 9 x1.toNatClampNeg) = 0 then x2 else x1 : Int32) = x2) from by simp only [eq_true hc6, if_true, if_false, bI_true, bI_false, and_true, true_and, and_false, false_and, or_true, true_or, or_false, false_or, not_true_eq_false, not_false_eq_true]] at hj
        exact hj
    refine J.if_eq 52 dX2_likes_45 (by decide) (fun hc5 => ?_) (fun hc5 => ?_)
    · have hc5 := bI_0.mp hc5
      refine J.iload_n dX2_likes_52 rfl rfl ?_
      rw [show ((if (I 9 x1.toNatClampNeg) = 0 then x1 else x2 : Int32) = x2) from by simp only [eq_false hc5, if_true, if_false, bI_true, bI_false, and_true, true_and, and_false, false_and, or_true, true_or, or_false, false_or, not_true_eq_false, not_false_eq_true]] at hj
      exact hj
    · have hc5 := bI_n0.mp hc5
      refine J.iload_n dX2_likes_48 rfl rfl ?_
      refine J.goto 53 dX2_likes_49 (by decide) ?_
      rw [show ((if (I 9 x1.toNatClampNeg) = 0 then x1 else x2 : Int32) = x1) from by simp only [eq_true hc5, if_true, if_false, bI_true, bI_false, and_true, true_and, and_false, false_and, or_true, true_or, or_false, false_or, not_true_eq_false, not_false_eq_true]] at hj
      exact hj
  refine J.if_ne 21 dX2_likes_14 (by decide) (fun hc2 => ?_) (fun hc2 => ?_)
  · refine J.iconst (v := 0) dX2_likes_21 (by decide) ?_
    rw [show bI ((I 9 x1.toNatClampNeg) = 0) = 0 from bI_f (by simp only [eq_false hc2, and_true, true_and, and_false, false_and, or_true, true_or, or_false, false_or, not_true_eq_false, not_false_eq_true])] at hj
    exact hj
  · refine J.iconst (v := 1) dX2_likes_17 (by decide) ?_
    refine J.goto 22 dX2_likes_18 (by decide) ?_
    rw [show bI ((I 9 x1.toNatClampNeg) = 0) = 1 from bI_t (by simp only [eq_true hc2, and_true, true_and, and_false, false_and, or_true, true_or, or_false, false_or, not_true_eq_false, not_false_eq_true])] at hj
    exact hj
set_option maxRecDepth 100000 in
set_option maxHeartbeats 4000000 in
theorem w_X2_likes_141 {E : Envt} {d : Nat} {Q : Pst} {h : mS} {I : mI} {L : mL} (hs : SL h)   {t4 nl_t4 nt_t4 : Nat} (ht_t4 : LT h t4 nl_t4 nt_t4) (x1 : Int32) (x2 : Int32) (x4 : Int32) (x6 : Int32) (x7 : Int32)
    (hW : ((((I t4 0) ≤ x7) → Q (some (.int x6)) h I L) ∧ (¬ ((I t4 0) ≤ x7) → (CT E mX10_holds (d + 3) 0 0 [.ref (eB E + t4), .int x7, .ref (eB E + 64)] h I L (qi h L fun r3 I2 => ((¬ (r3 = 0) → vp_in x7 nl_t4) ∧ (∀ y8 : Int32, y8 = (if r3 = 0 then x6 else if (I2 (t4 + 1) x7.toNatClampNeg) = 4 then x6 + (-(I2 (t4 + 2) x7.toNatClampNeg)) else x6 + (I2 (t4 + 2) x7.toNatClampNeg)) → J E mX2_likes (d + 4) Q 0 0 141 [some (.ref (eB E + 63)), some (.int x1), some (.int x2), some (.ref (eB E + 7)), some (.int x4), some (.ref (eB E + t4)), some (.int y8), some (.int (x7 + 1))] [] h I2 L))))))) :
    J E mX2_likes (d + 4) Q 0 0 141 [some (.ref (eB E + 63)), some (.int x1), some (.int x2), some (.ref (eB E + 7)), some (.int x4), some (.ref (eB E + t4)), some (.int x6), some (.int x7)] [] h I L := by
  refine J.iload dX2_likes_141 rfl ?_
  refine J.aload dX2_likes_143 rfl ?_
  refine J.getI (x := I t4 0) fl_X2_112 rfl dX2_likes_145 ht_t4.l0 ht_t4.k0 rfl ?_
  refine J.ic_ge 208 dX2_likes_148 (by decide) (fun hc1 => ?_) (fun hc1 => ?_)
  · have hW := hW.1 hc1
    refine J.iload dX2_likes_208 rfl ?_
    exact J.reti dX2_likes_210 rfl rfl hW
  · have hW := hW.2 hc1
    refine J.aload dX2_likes_151 rfl ?_
    refine J.iload dX2_likes_153 rfl ?_
    refine J.aload_n dX2_likes_155 rfl rfl ?_
    refine J.getR (r := 64) fl_X2_9 rfl dX2_likes_156 (lt63 hs) (kk63 hs) (rr63_4 hs) ?_
    refine J.callV (M' := mX10_holds) (index := 115) (bc := 0) (bs := 0) (bc' := 0) (bs' := 0) (st := []) [.int x7, .ref (eB E + 64)] ml_X2_115 cv_X10_holds dX2_likes_159 ht_t4.l0 ht_t4.k0 (by decide) rfl rfl rfl rfl (Nat.le_of_ble_eq_true rfl) (kqi hW (fun r3 I2 hW => ?_))
    obtain ⟨hq6, hW⟩ := hW
    obtain ⟨y8, hyy8⟩ : ∃ y8 : Int32, y8 = (if r3 = 0 then x6 else if (I2 (t4 + 1) x7.toNatClampNeg) = 4 then x6 + (-(I2 (t4 + 2) x7.toNatClampNeg)) else x6 + (I2 (t4 + 2) x7.toNatClampNeg)) := ⟨_, rfl⟩
    have hW := hW y8 hyy8
    have hj : J E mX2_likes (d + 4) Q 0 0 202 [some (.ref (eB E + 63)), some (.int x1), some (.int x2), some (.ref (eB E + 7)), some (.int x4), some (.ref (eB E + t4)), some (.int y8), some (.int x7)] [] h I2 L := by
      refine J.iinc (v := x7 + 1) (vs' := [some (.ref (eB E + 63)), some (.int x1), some (.int x2), some (.ref (eB E + 7)), some (.int x4), some (.ref (eB E + t4)), some (.int y8), some (.int (x7 + 1))]) dX2_likes_202 rfl (by rfl) (by decide) rfl ?_
      refine J.goto 141 dX2_likes_205 (by decide) ?_
      exact hW
    refine J.if_eq 202 dX2_likes_162 (by decide) (fun hc4 => ?_) (fun hc4 => ?_)
    · rw [show y8 = x6 from by simp only [hyy8, eq_true hc4, if_true, if_false, bI_true, bI_false, and_true, true_and, and_false, false_and, or_true, true_or, or_false, false_or, not_true_eq_false, not_false_eq_true]] at hj
      exact hj
    · refine J.iload dX2_likes_165 rfl ?_
      refine J.aload dX2_likes_167 rfl ?_
      refine J.getR (r := t4 + 1) fl_X2_123 rfl dX2_likes_169 ht_t4.l0 ht_t4.k0 ht_t4.r1 ?_
      refine J.iload dX2_likes_172 rfl ?_
      have hb5 := hq6 hc4
      refine J.iald (x := I2 (t4 + 1) x7.toNatClampNeg) dX2_likes_174 ht_t4.l1 ht_t4.k1 hb5 rfl ?_
      refine J.iconst (v := 4) dX2_likes_175 (by decide) ?_
      refine J.ic_ne 191 dX2_likes_176 (by decide) (fun hc7 => ?_) (fun hc7 => ?_)
      · refine J.aload dX2_likes_191 rfl ?_
        refine J.getR (r := t4 + 2) fl_X2_126 rfl dX2_likes_193 ht_t4.l0 ht_t4.k0 ht_t4.r2 ?_
        refine J.iload dX2_likes_196 rfl ?_
        refine J.iald (x := I2 (t4 + 2) x7.toNatClampNeg) dX2_likes_198 ht_t4.l2 ht_t4.k2 hb5 rfl ?_
        refine J.iadd dX2_likes_199 ?_
        refine J.istore (vs' := [some (.ref (eB E + 63)), some (.int x1), some (.int x2), some (.ref (eB E + 7)), some (.int x4), some (.ref (eB E + t4)), some (.int (x6 + (I2 (t4 + 2) x7.toNatClampNeg))), some (.int x7)]) dX2_likes_200 (by decide) rfl ?_
        rw [show y8 = x6 + (I2 (t4 + 2) x7.toNatClampNeg) from by simp only [hyy8, eq_false hc4, eq_false hc7, if_true, if_false, bI_true, bI_false, and_true, true_and, and_false, false_and, or_true, true_or, or_false, false_or, not_true_eq_false, not_false_eq_true]] at hj
        exact hj
      · refine J.aload dX2_likes_179 rfl ?_
        refine J.getR (r := t4 + 2) fl_X2_126 rfl dX2_likes_181 ht_t4.l0 ht_t4.k0 ht_t4.r2 ?_
        refine J.iload dX2_likes_184 rfl ?_
        refine J.iald (x := I2 (t4 + 2) x7.toNatClampNeg) dX2_likes_186 ht_t4.l2 ht_t4.k2 hb5 rfl ?_
        refine J.ineg dX2_likes_187 ?_
        refine J.goto 199 dX2_likes_188 (by decide) ?_
        refine J.iadd dX2_likes_199 ?_
        refine J.istore (vs' := [some (.ref (eB E + 63)), some (.int x1), some (.int x2), some (.ref (eB E + 7)), some (.int x4), some (.ref (eB E + t4)), some (.int (x6 + (-(I2 (t4 + 2) x7.toNatClampNeg)))), some (.int x7)]) dX2_likes_200 (by decide) rfl ?_
        rw [show y8 = x6 + (-(I2 (t4 + 2) x7.toNatClampNeg)) from by simp only [hyy8, eq_false hc4, eq_true hc7, if_true, if_false, bI_true, bI_false, and_true, true_and, and_false, false_and, or_true, true_or, or_false, false_or, not_true_eq_false, not_false_eq_true]] at hj
        exact hj
