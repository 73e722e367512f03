set_option maxRecDepth 100000 in
set_option maxHeartbeats 4000000 in
theorem w_X11_late {E : Envt} {d : Nat} {Q : Pst} {h : mS} {I : mI} {L : mL} (hs : SL h) (x1 : Int32) 
    (hW : J E mX11_late (d + 6) Q 0 0 4 [some (.ref (eB E + 0)), some (.int x1), some (.int x1), some (.int 0)] [] h I L) :
    CT E mX11_late (d + 6) 0 0 [.ref (eB E + 0), .int x1] h I L Q := by
  refine CT.of (by decide) [some (.ref (eB E + 0)), some (.int x1), none, none] rfl (Nat.le_of_ble_eq_true rfl) ?_
  refine J.iload_n dX11_late_0 rfl rfl ?_
  refine J.istore_n (vs' := [some (.ref (eB E + 0)), some (.int x1), some (.int x1), none]) dX11_late_1 rfl (by decide) rfl ?_
  refine J.iconst (v := 0) dX11_late_2 (by decide) ?_
  refine J.istore_n (vs' := [some (.ref (eB E + 0)), some (.int x1), some (.int x1), some (.int 0)]) dX11_late_3 rfl (by decide) rfl ?_
  exact hW
set_option maxRecDepth 100000 in
set_option maxHeartbeats 4000000 in
theorem w_X11_late_4 {E : Envt} {d : Nat} {Q : Pst} {h : mS} {I : mI} {L : mL} (hs : SL h)    (x1 : Int32) (x2 : Int32) (x3 : Int32)
    (hW : ((((I 24 0) ≤ x3) → Q (some (.int (-1))) h I L) ∧ (¬ ((I 24 0) ≤ x3) → (((x2 < 0) → Q (some (.int (-1))) h I L) ∧ (¬ (x2 < 0) → (CT E mX2_isLate (d + 5) 0 0 [.ref (eB E + 63), .int x3] h I L (qi h L fun r4 I3 => (((r4 = 0) → J E mX11_late (d + 6) Q 0 0 4 [some (.ref (eB E + 0)), some (.int x1), some (.int x2), some (.int (x3 + 1))] [] h I3 L) ∧ (¬ (r4 = 0) → (((x2 = 0) → Q (some (.int x3)) h I3 L) ∧ (¬ (x2 = 0) → J E mX11_late (d + 6) Q 0 0 4 [some (.ref (eB E + 0)), some (.int x1), some (.int (x2 + (-1))), some (.int (x3 + 1))] [] h I3 L))))))))))) :
    J E mX11_late (d + 6) Q 0 0 4 [some (.ref (eB E + 0)), some (.int x1), some (.int x2), some (.int x3)] [] h I L := by
  refine J.iload_n dX11_late_4 rfl rfl ?_
  refine J.aload_n dX11_late_5 rfl rfl ?_
  refine J.getR (r := 1) fl_X11_12 rfl dX11_late_6 (lt0 hs) (kk0 hs) (rr0_0 hs) ?_
  refine J.getR (r := 24) fl_X11_140 rfl dX11_late_9 (lt1 hs) (kk1 hs) (rr1_4 hs) ?_
  refine J.getI (x := I 24 0) fl_X11_322 rfl dX11_late_12 (lt24 hs) (kk24 hs) rfl ?_
  refine J.ic_ge 48 dX11_late_15 (by decide) (fun hc1 => ?_) (fun hc1 => ?_)
  · have hW := hW.1 hc1
    refine J.iconst (v := (-1)) dX11_late_48 (by decide) ?_
    exact J.reti dX11_late_49 rfl rfl hW
  · have hW := hW.2 hc1
    refine J.iload_n dX11_late_18 rfl rfl ?_
    refine J.if_lt 48 dX11_late_19 (by decide) (fun hc2 => ?_) (fun hc2 => ?_)
    · have hW := hW.1 hc2
      refine J.iconst (v := (-1)) dX11_late_48 (by decide) ?_
      exact J.reti dX11_late_49 rfl rfl hW
    · have hW := hW.2 hc2
      refine J.aload_n dX11_late_22 rfl rfl ?_
      refine J.getR (r := 63) fl_X11_41 rfl dX11_late_23 (lt0 hs) (kk0 hs) (rr0_4 hs) ?_
      refine J.iload_n dX11_late_26 rfl rfl ?_
      refine J.callV (M' := mX2_isLate) (index := 319) (bc := 0) (bs := 0) (bc' := 0) (bs' := 0) (st := []) [.int x3] ml_X11_319 cv_X2_isLate dX11_late_27 (lt63 hs) (kk63 hs) (by decide) rfl rfl rfl rfl (Nat.le_of_ble_eq_true rfl) (kqi hW (fun r4 I3 hW => ?_))
      refine J.if_eq 42 dX11_late_30 (by decide) (fun hc5 => ?_) (fun hc5 => ?_)
      · have hW := hW.1 hc5
        refine J.iinc (v := x3 + 1) (vs' := [some (.ref (eB E + 0)), some (.int x1), some (.int x2), some (.int (x3 + 1))]) dX11_late_42 rfl (by rfl) (by decide) rfl ?_
        refine J.goto 4 dX11_late_45 (by decide) ?_
        exact hW
      · have hW := hW.2 hc5
        refine J.iload_n dX11_late_33 rfl rfl ?_
        refine J.if_ne 39 dX11_late_34 (by decide) (fun hc6 => ?_) (fun hc6 => ?_)
        · have hW := hW.2 hc6
          refine J.iinc (v := x2 + (-1)) (vs' := [some (.ref (eB E + 0)), some (.int x1), some (.int (x2 + (-1))), some (.int x3)]) dX11_late_39 rfl (by rfl) (by decide) rfl ?_
          refine J.iinc (v := x3 + 1) (vs' := [some (.ref (eB E + 0)), some (.int x1), some (.int (x2 + (-1))), some (.int (x3 + 1))]) dX11_late_42 rfl (by rfl) (by decide) rfl ?_
          refine J.goto 4 dX11_late_45 (by decide) ?_
          exact hW
        · have hW := hW.1 hc6
          refine J.iload_n dX11_late_37 rfl rfl ?_
          exact J.reti dX11_late_38 rfl rfl hW
set_option maxRecDepth 100000 in
set_option maxHeartbeats 4000000 in
theorem w_X11_parts {E : Envt} {d : Nat} {Q : Pst} {h : mS} {I : mI} {L : mL} (hs : SL h) (x1 : Int32) 
    (hW : J E mX11_parts (d + 7) Q 0 0 4 [some (.ref (eB E + 0)), some (.int x1), some (.int x1), some (.int 0), none] [] h I L) :
    CT E mX11_parts (d + 7) 0 0 [.ref (eB E + 0), .int x1] h I L Q := by
  refine CT.of (by decide) [some (.ref (eB E + 0)), some (.int x1), none, none, none] rfl (Nat.le_of_ble_eq_true rfl) ?_
  refine J.iload_n dX11_parts_0 rfl rfl ?_
  refine J.istore_n (vs' := [some (.ref (eB E + 0)), some (.int x1), some (.int x1), none, none]) dX11_parts_1 rfl (by decide) rfl ?_
  refine J.iconst (v := 0) dX11_parts_2 (by decide) ?_
  refine J.istore_n (vs' := [some (.ref (eB E + 0)), some (.int x1), some (.int x1), some (.int 0), none]) dX11_parts_3 rfl (by decide) rfl ?_
  exact hW
set_option maxRecDepth 100000 in
set_option maxHeartbeats 4000000 in
theorem w_X11_parts_4 {E : Envt} {d : Nat} {Q : Pst} {h : mS} {I : mI} {L : mL} (hs : SL h)    (x1 : Int32) (x2 : Int32) (x3 : Int32)
    (hW : ((((I 7 0) ≤ x3) → Q (some (.int (-1))) h I L) ∧ (¬ ((I 7 0) ≤ x3) → (((x2 < 0) → Q (some (.int (-1))) h I L) ∧ (¬ (x2 < 0) → J E mX11_parts (d + 7) Q 0 0 25 [some (.ref (eB E + 0)), some (.int x1), some (.int x2), some (.int x3), some (.int 0)] [] h I L))))) :
    J E mX11_parts (d + 7) Q 0 0 4 [some (.ref (eB E + 0)), some (.int x1), some (.int x2), some (.int x3), none] [] h I L := by
  refine J.iload_n dX11_parts_4 rfl rfl ?_
  refine J.aload_n dX11_parts_5 rfl rfl ?_
  refine J.getR (r := 1) fl_X11_12 rfl dX11_parts_6 (lt0 hs) (kk0 hs) (rr0_0 hs) ?_
  refine J.getR (r := 7) fl_X11_89 rfl dX11_parts_9 (lt1 hs) (kk1 hs) (rr1_2 hs) ?_
  refine J.getI (x := I 7 0) fl_X11_325 rfl dX11_parts_12 (lt7 hs) (kk7 hs) rfl ?_
  refine J.ic_ge 90 dX11_parts_15 (by decide) (fun hc1 => ?_) (fun hc1 => ?_)
  · have hW := hW.1 hc1
    refine J.iconst (v := (-1)) dX11_parts_90 (by decide) ?_
    exact J.reti dX11_parts_91 rfl rfl hW
  · have hW := hW.2 hc1
    refine J.iload_n dX11_parts_18 rfl rfl ?_
    refine J.if_lt 90 dX11_parts_19 (by decide) (fun hc2 => ?_) (fun hc2 => ?_)
    · have hW := hW.1 hc2
      refine J.iconst (v := (-1)) dX11_parts_90 (by decide) ?_
      exact J.reti dX11_parts_91 rfl rfl hW
    · have hW := hW.2 hc2
      refine J.iconst (v := 0) dX11_parts_22 (by decide) ?_
      refine J.istore (vs' := [some (.ref (eB E + 0)), some (.int x1), some (.int x2), some (.int x3), some (.int 0)]) dX11_parts_23 (by decide) rfl ?_
      exact hW
set_option maxRecDepth 100000 in
set_option maxHeartbeats 4000000 in
theorem w_X11_parts_25 {E : Envt} {d : Nat} {Q : Pst} {h : mS} {I : mI} {L : mL} (hs : SL h)    (x1 : Int32) (x2 : Int32) (x3 : Int32) (x4 : Int32)
    (hW : ((((I 7 0) ≤ x4) → J E mX11_parts (d + 7) Q 0 0 4 [some (.ref (eB E + 0)), some (.int x1), some (.int x2), some (.int (x3 + 1)), none] [] h I L) ∧ (¬ ((I 7 0) ≤ x4) → (((¬ (x3 < 0) ∧ (¬ ((I 7 0) ≤ x3))) → vp_in x3 20) ∧ ((((¬ (x3 < 0) ∧ (¬ ((I 7 0) ≤ x3))) ∧ ((I 9 x3.toNatClampNeg) = 0)) → ((¬ (x4 < 0) ∧ (¬ ((I 7 0) ≤ x4))) → vp_in x4 20)) ∧ (((((¬ (x3 < 0) ∧ (¬ ((I 7 0) ≤ x3))) ∧ ((I 9 x3.toNatClampNeg) = 0)) ∧ ((¬ (x4 < 0) ∧ (¬ ((I 7 0) ≤ x4))) ∧ ((I 9 x4.toNatClampNeg) = 1))) → (CT E mX2_wouldPart (d + 6) 0 0 [.ref (eB E + 63), .int x3, .int x4] h I L (qi h L fun r8 I7 => (((r8 = 0) → J E mX11_parts (d + 7) Q 0 0 25 [some (.ref (eB E + 0)), some (.int x1), some (.int x2), some (.int x3), some (.int (x4 + 1))] [] h I7 L) ∧ (¬ (r8 = 0) → (((x2 = 0) → Q (some (.int ((100 * x3) + x4))) h I7 L) ∧ (¬ (x2 = 0) → J E mX11_parts (d + 7) Q 0 0 25 [some (.ref (eB E + 0)), some (.int x1), some (.int (x2 + (-1))), some (.int x3), some (.int (x4 + 1))] [] h I7 L))))))) ∧ (¬ (((¬ (x3 < 0) ∧ (¬ ((I 7 0) ≤ x3))) ∧ ((I 9 x3.toNatClampNeg) = 0)) ∧ ((¬ (x4 < 0) ∧ (¬ ((I 7 0) ≤ x4))) ∧ ((I 9 x4.toNatClampNeg) = 1))) → J E mX11_parts (d + 7) Q 0 0 25 [some (.ref (eB E + 0)), some (.int x1), some (.int x2), some (.int x3), some (.int (x4 + 1))] [] h I L))))))) :
    J E mX11_parts (d + 7) Q 0 0 25 [some (.ref (eB E + 0)), some (.int x1), some (.int x2), some (.int x3), some (.int x4)] [] h I L := by
  refine J.iload dX11_parts_25 rfl ?_
  refine J.aload_n dX11_parts_27 rfl rfl ?_
  refine J.getR (r := 1) fl_X11_12 rfl dX11_parts_28 (lt0 hs) (kk0 hs) (rr0_0 hs) ?_
  refine J.getR (r := 7) fl_X11_89 rfl dX11_parts_31 (lt1 hs) (kk1 hs) (rr1_2 hs) ?_
  refine J.getI (x := I 7 0) fl_X11_325 rfl dX11_parts_34 (lt7 hs) (kk7 hs) rfl ?_
  refine J.ic_ge 84 dX11_parts_37 (by decide) (fun hc1 => ?_) (fun hc1 => ?_)
  · have hW := hW.1 hc1
    refine J.iinc (v := x3 + 1) (vs' := [some (.ref (eB E + 0)), some (.int x1), some (.int x2), some (.int (x3 + 1)), some (.int x4)]) dX11_parts_84 rfl (by rfl) (by decide) rfl ?_
    refine J.goto 4 dX11_parts_87 (by decide) ?_
    exact J.mask [true, true, true, true, false] rfl hW
  · have hW := hW.2 hc1
    refine J.aload_n dX11_parts_40 rfl rfl ?_
    refine J.iload_n dX11_parts_41 rfl rfl ?_
    refine J.iload dX11_parts_42 rfl ?_
    obtain ⟨hb2, hW⟩ := hW
    obtain ⟨hb3, hW⟩ := hW
    refine J.callV (M' := mX11_isCouple) (index := 230) (bc := 0) (bs := 0) (bc' := 0) (bs' := 0) (st := []) [.int x3, .int x4] ml_X11_230 cv_X11_isCouple dX11_parts_44 (lt0 hs) (kk0 hs) (by decide) rfl rfl rfl rfl (Nat.le_of_ble_eq_true rfl) (kqi (w_X11_isCouple (d := d + 4) (Q := qi h L (fun v I' => I' = I ∧ v = bI (((¬ (x3 < 0) ∧ (¬ ((I 7 0) ≤ x3))) ∧ ((I 9 x3.toNatClampNeg) = 0)) ∧ ((¬ (x4 < 0) ∧ (¬ ((I 7 0) ≤ x4))) ∧ ((I 9 x4.toNatClampNeg) = 1))))) hs x3 x4 ⟨hb2, hb3, rfl, rfl, _, rfl, rfl, rfl⟩) (fun v4 I5 hv => ?_))
    rw [hv.1, hv.2]
    refine J.if_eq 78 dX11_parts_47 (by decide) (fun hc6 => ?_) (fun hc6 => ?_)
    · have hc6 := bI_0.mp hc6
      have hW := hW.2 hc6
      refine J.iinc (v := x4 + 1) (vs' := [some (.ref (eB E + 0)), some (.int x1), some (.int x2), some (.int x3), some (.int (x4 + 1))]) dX11_parts_78 rfl (by rfl) (by decide) rfl ?_
      refine J.goto 25 dX11_parts_81 (by decide) ?_
      exact hW
    · have hc6 := bI_n0.mp hc6
      have hW := hW.1 hc6
      refine J.aload_n dX11_parts_50 rfl rfl ?_
      refine J.getR (r := 63) fl_X11_41 rfl dX11_parts_51 (lt0 hs) (kk0 hs) (rr0_4 hs) ?_
      refine J.iload_n dX11_parts_54 rfl rfl ?_
      refine J.iload dX11_parts_55 rfl ?_
      refine J.callV (M' := mX2_wouldPart) (index := 326) (bc := 0) (bs := 0) (bc' := 0) (bs' := 0) (st := []) [.int x3, .int x4] ml_X11_326 cv_X2_wouldPart dX11_parts_57 (lt63 hs) (kk63 hs) (by decide) rfl rfl rfl rfl (Nat.le_of_ble_eq_true rfl) (kqi hW (fun r8 I7 hW => ?_))
      refine J.if_eq 78 dX11_parts_60 (by decide) (fun hc9 => ?_) (fun hc9 => ?_)
      · have hW := hW.1 hc9
        refine J.iinc (v := x4 + 1) (vs' := [some (.ref (eB E + 0)), some (.int x1), some (.int x2), some (.int x3), some (.int (x4 + 1))]) dX11_parts_78 rfl (by rfl) (by decide) rfl ?_
        refine J.goto 25 dX11_parts_81 (by decide) ?_
        exact hW
      · have hW := hW.2 hc9
        refine J.iload_n dX11_parts_63 rfl rfl ?_
        refine J.if_ne 75 dX11_parts_64 (by decide) (fun hc10 => ?_) (fun hc10 => ?_)
        · have hW := hW.2 hc10
          refine J.iinc (v := x2 + (-1)) (vs' := [some (.ref (eB E + 0)), some (.int x1), some (.int (x2 + (-1))), some (.int x3), some (.int x4)]) dX11_parts_75 rfl (by rfl) (by decide) rfl ?_
          refine J.iinc (v := x4 + 1) (vs' := [some (.ref (eB E + 0)), some (.int x1), some (.int (x2 + (-1))), some (.int x3), some (.int (x4 + 1))]) dX11_parts_78 rfl (by rfl) (by decide) rfl ?_
          refine J.goto 25 dX11_parts_81 (by decide) ?_
          exact hW
        · have hW := hW.1 hc10
          refine J.bipush (v := 100) dX11_parts_67 (by decide) ?_
          refine J.iload_n dX11_parts_69 rfl rfl ?_
          refine J.imul dX11_parts_70 ?_
          refine J.iload dX11_parts_71 rfl ?_
          refine J.iadd dX11_parts_73 ?_
          exact J.reti dX11_parts_74 rfl rfl hW
set_option maxRecDepth 100000 in
set_option maxHeartbeats 4000000 in
theorem w_X11_best {E : Envt} {d : Nat} {Q : Pst} {h : mS} {I : mI} {L : mL} (hs : SL h) (x1 : Int32) 
    (hW : (((¬ (x1 < 0) ∧ (¬ (2 < x1))) → (CT E mX6_gather (d + 6) 0 0 [.ref (eB E + 65)] h I L (qv h L fun I4 => (CT E mX6_settleBest (d + 6) 0 0 [.ref (eB E + 65)] h I4 L (qv h L fun I5 => ((x1 = 0 → (CT E mX6_weddings (d + 6) 0 0 [.ref (eB E + 65)] h I5 L (qi h L fun r7 I6 => Q (some (.int r7)) h I6 L))) ∧ (x1 = 1 → (CT E mX6_feudsEnded (d + 6) 0 0 [.ref (eB E + 65)] h I5 L (qi h L fun r9 I8 => Q (some (.int r9)) h I8 L))) ∧ (¬ x1 = 0 → ¬ x1 = 1 → (CT E mX6_giftsTogether (d + 6) 0 0 [.ref (eB E + 65)] h I5 L (qi h L fun r11 I10 => Q (some (.int r11)) h I10 L))))))))) ∧ (¬ (¬ (x1 < 0) ∧ (¬ (2 < x1))) → Q (some (.int (-1))) h I L))) :
    CT E mX11_best (d + 7) 0 0 [.ref (eB E + 0), .int x1] h I L Q := by
  refine CT.of (by decide) [some (.ref (eB E + 0)), some (.int x1)] rfl (Nat.le_of_ble_eq_true rfl) ?_
  refine J.iload_n dX11_best_0 rfl rfl ?_
  refine J.iconst (v := 0) dX11_best_1 (by decide) ?_
  refine J.iconst (v := 2) dX11_best_2 (by decide) ?_
  refine J.callS (M' := mX11_within) (index := 63) (bc := 0) (bs := 0) (bc' := 0) (bs' := 0) (st := []) [.int x1, .int 0, .int 2] ml_X11_63 cv_X11_within dX11_best_3 rfl rfl (Nat.le_of_ble_eq_true rfl) (kqi (w_X11_within (d := d + 6) (Q := qi h L (fun v I' => I' = I ∧ v = bI (¬ (x1 < 0) ∧ (¬ (2 < x1))))) hs x1 0 2 ⟨rfl, rfl, _, rfl, rfl, rfl⟩) (fun v1 I2 hv => ?_))
  rw [hv.1, hv.2]
  refine J.if_ne 11 dX11_best_6 (by decide) (fun hc3 => ?_) (fun hc3 => ?_)
  · have hc3 := bI_n0.mp hc3
    have hW := hW.1 hc3
    refine J.aload_n dX11_best_11 rfl rfl ?_
    refine J.getR (r := 65) fl_X11_50 rfl dX11_best_12 (lt0 hs) (kk0 hs) (rr0_5 hs) ?_
    refine J.callV (M' := mX6_gather) (index := 329) (bc := 0) (bs := 0) (bc' := 0) (bs' := 0) (st := []) [] ml_X11_329 cv_X6_gather dX11_best_15 (lt65 hs) (kk65 hs) (by decide) rfl rfl rfl rfl (Nat.le_of_ble_eq_true rfl) (kqv hW (fun I4 hW => ?_))
    refine J.aload_n dX11_best_18 rfl rfl ?_
    refine J.getR (r := 65) fl_X11_50 rfl dX11_best_19 (lt0 hs) (kk0 hs) (rr0_5 hs) ?_
    refine J.callV (M' := mX6_settleBest) (index := 332) (bc := 0) (bs := 0) (bc' := 0) (bs' := 0) (st := []) [] ml_X11_332 cv_X6_settleBest dX11_best_22 (lt65 hs) (kk65 hs) (by decide) rfl rfl rfl rfl (Nat.le_of_ble_eq_true rfl) (kqv hW (fun I5 hW => ?_))
    refine J.iload_n dX11_best_25 rfl rfl ?_
    by_cases hk12 : x1 = 0
    · have hW := hW.1 hk12
      refine J.lookup (off := 26) 52 dX11_best_26 (by decide) (by rw [hk12] <;> rfl) (by decide) ?_
      refine J.aload_n dX11_best_52 rfl rfl ?_
      refine J.getR (r := 65) fl_X11_50 rfl dX11_best_53 (lt0 hs) (kk0 hs) (rr0_5 hs) ?_
      refine J.callV (M' := mX6_weddings) (index := 335) (bc := 0) (bs := 0) (bc' := 0) (bs' := 0) (st := []) [] ml_X11_335 cv_X6_weddings dX11_best_56 (lt65 hs) (kk65 hs) (by decide) rfl rfl rfl rfl (Nat.le_of_ble_eq_true rfl) (kqi hW (fun r7 I6 hW => ?_))
      exact J.reti dX11_best_59 rfl rfl hW
    by_cases hk13 : x1 = 1
    · have hW := hW.2.1 hk13
      refine J.lookup (off := 34) 60 dX11_best_26 (by decide) (by rw [hk13] <;> rfl) (by decide) ?_
      refine J.aload_n dX11_best_60 rfl rfl ?_
      refine J.getR (r := 65) fl_X11_50 rfl dX11_best_61 (lt0 hs) (kk0 hs) (rr0_5 hs) ?_
      refine J.callV (M' := mX6_feudsEnded) (index := 339) (bc := 0) (bs := 0) (bc' := 0) (bs' := 0) (st := []) [] ml_X11_339 cv_X6_feudsEnded dX11_best_64 (lt65 hs) (kk65 hs) (by decide) rfl rfl rfl rfl (Nat.le_of_ble_eq_true rfl) (kqi hW (fun r9 I8 hW => ?_))
      exact J.reti dX11_best_67 rfl rfl hW
    have hW := hW.2.2 hk12 hk13
    refine J.lookup (off := 42) 68 dX11_best_26 (by decide) (by simp [Op.lookupswitch.offset, (toInt_ne (k := 0) (by decide) hk12).symm, (toInt_ne (k := 1) (by decide) hk13).symm]) (by decide) ?_
    refine J.aload_n dX11_best_68 rfl rfl ?_
    refine J.getR (r := 65) fl_X11_50 rfl dX11_best_69 (lt0 hs) (kk0 hs) (rr0_5 hs) ?_
    refine J.callV (M' := mX6_giftsTogether) (index := 342) (bc := 0) (bs := 0) (bc' := 0) (bs' := 0) (st := []) [] ml_X11_342 cv_X6_giftsTogether dX11_best_72 (lt65 hs) (kk65 hs) (by decide) rfl rfl rfl rfl (Nat.le_of_ble_eq_true rfl) (kqi hW (fun r11 I10 hW => ?_))
    exact J.reti dX11_best_75 rfl rfl hW
  · have hc3 := bI_0.mp hc3
    have hW := hW.2 hc3
    refine J.iconst (v := (-1)) dX11_best_9 (by decide) ?_
    exact J.reti dX11_best_10 rfl rfl hW
set_option maxRecDepth 100000 in
set_option maxHeartbeats 4000000 in
theorem w_X11_bestFor {E : Envt} {d : Nat} {Q : Pst} {h : mS} {I : mI} {L : mL} (hs : SL h) (x1 : Int32) 
    (hW : (((¬ (x1 < 0) ∧ (¬ ((I 7 0) ≤ x1))) → (CT E mX6_gather (d + 6) 0 0 [.ref (eB E + 65)] h I L (qv h L fun I4 => (CT E mX6_settleBest (d + 6) 0 0 [.ref (eB E + 65)] h I4 L (qv h L fun I5 => (CT E mX6_partnerOf (d + 6) 0 0 [.ref (eB E + 65), .int x1] h I5 L (qi h L fun r7 I6 => Q (some (.int r7)) h I6 L))))))) ∧ (¬ (¬ (x1 < 0) ∧ (¬ ((I 7 0) ≤ x1))) → Q (some (.int (-1))) h I L))) :
    CT E mX11_bestFor (d + 7) 0 0 [.ref (eB E + 0), .int x1] h I L Q := by
  refine CT.of (by decide) [some (.ref (eB E + 0)), some (.int x1)] rfl (Nat.le_of_ble_eq_true rfl) ?_
  refine J.aload_n dX11_bestFor_0 rfl rfl ?_
  refine J.getR (r := 1) fl_X11_12 rfl dX11_bestFor_1 (lt0 hs) (kk0 hs) (rr0_0 hs) ?_
  refine J.getR (r := 7) fl_X11_89 rfl dX11_bestFor_4 (lt1 hs) (kk1 hs) (rr1_2 hs) ?_
  refine J.iload_n dX11_bestFor_7 rfl rfl ?_
  refine J.callV (M' := mX7_has) (index := 123) (bc := 0) (bs := 0) (bc' := 0) (bs' := 0) (st := []) [.int x1] ml_X11_123 cv_X7_has dX11_bestFor_8 (lt7 hs) (kk7 hs) (by decide) rfl rfl rfl rfl (Nat.le_of_ble_eq_true rfl) (kqi (w_X7_has (d := d + 6) (Q := qi h L (fun v I' => I' = I ∧ v = bI (¬ (x1 < 0) ∧ (¬ ((I 7 0) ≤ x1))))) hs x1 ⟨rfl, rfl, _, rfl, rfl, rfl⟩) (fun v1 I2 hv => ?_))
  rw [hv.1, hv.2]
  refine J.if_ne 16 dX11_bestFor_11 (by decide) (fun hc3 => ?_) (fun hc3 => ?_)
  · have hc3 := bI_n0.mp hc3
    have hW := hW.1 hc3
    refine J.aload_n dX11_bestFor_16 rfl rfl ?_
    refine J.getR (r := 65) fl_X11_50 rfl dX11_bestFor_17 (lt0 hs) (kk0 hs) (rr0_5 hs) ?_
    refine J.callV (M' := mX6_gather) (index := 329) (bc := 0) (bs := 0) (bc' := 0) (bs' := 0) (st := []) [] ml_X11_329 cv_X6_gather dX11_bestFor_20 (lt65 hs) (kk65 hs) (by decide) rfl rfl rfl rfl (Nat.le_of_ble_eq_true rfl) (kqv hW (fun I4 hW => ?_))
    refine J.aload_n dX11_bestFor_23 rfl rfl ?_
    refine J.getR (r := 65) fl_X11_50 rfl dX11_bestFor_24 (lt0 hs) (kk0 hs) (rr0_5 hs) ?_
    refine J.callV (M' := mX6_settleBest) (index := 332) (bc := 0) (bs := 0) (bc' := 0) (bs' := 0) (st := []) [] ml_X11_332 cv_X6_settleBest dX11_bestFor_27 (lt65 hs) (kk65 hs) (by decide) rfl rfl rfl rfl (Nat.le_of_ble_eq_true rfl) (kqv hW (fun I5 hW => ?_))
    refine J.aload_n dX11_bestFor_30 rfl rfl ?_
    refine J.getR (r := 65) fl_X11_50 rfl dX11_bestFor_31 (lt0 hs) (kk0 hs) (rr0_5 hs) ?_
    refine J.iload_n dX11_bestFor_34 rfl rfl ?_
    refine J.callV (M' := mX6_partnerOf) (index := 345) (bc := 0) (bs := 0) (bc' := 0) (bs' := 0) (st := []) [.int x1] ml_X11_345 cv_X6_partnerOf dX11_bestFor_35 (lt65 hs) (kk65 hs) (by decide) rfl rfl rfl rfl (Nat.le_of_ble_eq_true rfl) (kqi hW (fun r7 I6 hW => ?_))
    exact J.reti dX11_bestFor_38 rfl rfl hW
  · have hc3 := bI_0.mp hc3
    have hW := hW.2 hc3
    refine J.iconst (v := (-1)) dX11_bestFor_14 (by decide) ?_
    exact J.reti dX11_bestFor_15 rfl rfl hW
set_option maxRecDepth 100000 in
set_option maxHeartbeats 4000000 in
theorem w_X11_stable {E : Envt} {d : Nat} {Q : Pst} {h : mS} {I : mI} {L : mL} (hs : SL h) (x1 : Int32) 
    (hW : (((¬ (x1 < 0) ∧ (¬ ((I 7 0) ≤ x1))) → (CT E mX6_gather (d + 6) 0 0 [.ref (eB E + 65)] h I L (qv h L fun I4 => (CT E mX6_askLikings (d + 6) 0 0 [.ref (eB E + 65)] h I4 L (qv h L fun I5 => (CT E mX6_settleStable (d + 6) 0 0 [.ref (eB E + 65)] h I5 L (qv h L fun I6 => (CT E mX6_partnerOf (d + 6) 0 0 [.ref (eB E + 65), .int x1] h I6 L (qi h L fun r8 I7 => Q (some (.int r8)) h I7 L))))))))) ∧ (¬ (¬ (x1 < 0) ∧ (¬ ((I 7 0) ≤ x1))) → Q (some (.int (-1))) h I L))) :
    CT E mX11_stable (d + 7) 0 0 [.ref (eB E + 0), .int x1] h I L Q := by
  refine CT.of (by decide) [some (.ref (eB E + 0)), some (.int x1)] rfl (Nat.le_of_ble_eq_true rfl) ?_
  refine J.aload_n dX11_stable_0 rfl rfl ?_
  refine J.getR (r := 1) fl_X11_12 rfl dX11_stable_1 (lt0 hs) (kk0 hs) (rr0_0 hs) ?_
  refine J.getR (r := 7) fl_X11_89 rfl dX11_stable_4 (lt1 hs) (kk1 hs) (rr1_2 hs) ?_
  refine J.iload_n dX11_stable_7 rfl rfl ?_
  refine J.callV (M' := mX7_has) (index := 123) (bc := 0) (bs := 0) (bc' := 0) (bs' := 0) (st := []) [.int x1] ml_X11_123 cv_X7_has dX11_stable_8 (lt7 hs) (kk7 hs) (by decide) rfl rfl rfl rfl (Nat.le_of_ble_eq_true rfl) (kqi (w_X7_has (d := d + 6) (Q := qi h L (fun v I' => I' = I ∧ v = bI (¬ (x1 < 0) ∧ (¬ ((I 7 0) ≤ x1))))) hs x1 ⟨rfl, rfl, _, rfl, rfl, rfl⟩) (fun v1 I2 hv => ?_))
  rw [hv.1, hv.2]
  refine J.if_ne 16 dX11_stable_11 (by decide) (fun hc3 => ?_) (fun hc3 => ?_)
  · have hc3 := bI_n0.mp hc3
    have hW := hW.1 hc3
    refine J.aload_n dX11_stable_16 rfl rfl ?_
    refine J.getR (r := 65) fl_X11_50 rfl dX11_stable_17 (lt0 hs) (kk0 hs) (rr0_5 hs) ?_
    refine J.callV (M' := mX6_gather) (index := 329) (bc := 0) (bs := 0) (bc' := 0) (bs' := 0) (st := []) [] ml_X11_329 cv_X6_gather dX11_stable_20 (lt65 hs) (kk65 hs) (by decide) rfl rfl rfl rfl (Nat.le_of_ble_eq_true rfl) (kqv hW (fun I4 hW => ?_))
    refine J.aload_n dX11_stable_23 rfl rfl ?_
    refine J.getR (r := 65) fl_X11_50 rfl dX11_stable_24 (lt0 hs) (kk0 hs) (rr0_5 hs) ?_
    refine J.callV (M' := mX6_askLikings) (index := 348) (bc := 0) (bs := 0) (bc' := 0) (bs' := 0) (st := []) [] ml_X11_348 cv_X6_askLikings dX11_stable_27 (lt65 hs) (kk65 hs) (by decide) rfl rfl rfl rfl (Nat.le_of_ble_eq_true rfl) (kqv hW (fun I5 hW => ?_))
    refine J.aload_n dX11_stable_30 rfl rfl ?_
    refine J.getR (r := 65) fl_X11_50 rfl dX11_stable_31 (lt0 hs) (kk0 hs) (rr0_5 hs) ?_
    refine J.callV (M' := mX6_settleStable) (index := 351) (bc := 0) (bs := 0) (bc' := 0) (bs' := 0) (st := []) [] ml_X11_351 cv_X6_settleStable dX11_stable_34 (lt65 hs) (kk65 hs) (by decide) rfl rfl rfl rfl (Nat.le_of_ble_eq_true rfl) (kqv hW (fun I6 hW => ?_))
    refine J.aload_n dX11_stable_37 rfl rfl ?_
    refine J.getR (r := 65) fl_X11_50 rfl dX11_stable_38 (lt0 hs) (kk0 hs) (rr0_5 hs) ?_
    refine J.iload_n dX11_stable_41 rfl rfl ?_
    refine J.callV (M' := mX6_partnerOf) (index := 345) (bc := 0) (bs := 0) (bc' := 0) (bs' := 0) (st := []) [.int x1] ml_X11_345 cv_X6_partnerOf dX11_stable_42 (lt65 hs) (kk65 hs) (by decide) rfl rfl rfl rfl (Nat.le_of_ble_eq_true rfl) (kqi hW (fun r8 I7 hW => ?_))
    exact J.reti dX11_stable_45 rfl rfl hW
  · have hc3 := bI_0.mp hc3
    have hW := hW.2 hc3
    refine J.iconst (v := (-1)) dX11_stable_14 (by decide) ?_
    exact J.reti dX11_stable_15 rfl rfl hW
set_option maxRecDepth 100000 in
set_option maxHeartbeats 4000000 in
theorem w_X11_ring {E : Envt} {d : Nat} {Q : Pst} {h : mS} {I : mI} {L : mL} (hs : SL h) (x1 : Int32) 
    (hW : (((¬ (x1 < 0) ∧ (¬ (1 < x1))) → (CT E mX6_gather (d + 6) 0 0 [.ref (eB E + 65)] h I L (qv h L fun I4 => (CT E mX9_search (d + 6) 0 0 [.ref (eB E + 77)] h I4 L (qv h L fun I5 => ((((I5 77 7) = 0) → Q (some (.int (-1))) h I5 L) ∧ (¬ ((I5 77 7) = 0) → Q (some (.int (if x1 = 0 then I5 77 7 else I5 77 8 : Int32))) h I5 L))))))) ∧ (¬ (¬ (x1 < 0) ∧ (¬ (1 < x1))) → Q (some (.int (-1))) h I L))) :
    CT E mX11_ring (d + 7) 0 0 [.ref (eB E + 0), .int x1] h I L Q := by
  refine CT.of (by decide) [some (.ref (eB E + 0)), some (.int x1)] rfl (Nat.le_of_ble_eq_true rfl) ?_
  refine J.iload_n dX11_ring_0 rfl rfl ?_
  refine J.iconst (v := 0) dX11_ring_1 (by decide) ?_
  refine J.iconst (v := 1) dX11_ring_2 (by decide) ?_
  refine J.callS (M' := mX11_within) (index := 63) (bc := 0) (bs := 0) (bc' := 0) (bs' := 0) (st := []) [.int x1, .int 0, .int 1] ml_X11_63 cv_X11_within dX11_ring_3 rfl rfl (Nat.le_of_ble_eq_true rfl) (kqi (w_X11_within (d := d + 6) (Q := qi h L (fun v I' => I' = I ∧ v = bI (¬ (x1 < 0) ∧ (¬ (1 < x1))))) hs x1 0 1 ⟨rfl, rfl, _, rfl, rfl, rfl⟩) (fun v1 I2 hv => ?_))
  rw [hv.1, hv.2]
  refine J.if_ne 11 dX11_ring_6 (by decide) (fun hc3 => ?_) (fun hc3 => ?_)
  · have hc3 := bI_n0.mp hc3
    have hW := hW.1 hc3
    refine J.aload_n dX11_ring_11 rfl rfl ?_
    refine J.getR (r := 65) fl_X11_50 rfl dX11_ring_12 (lt0 hs) (kk0 hs) (rr0_5 hs) ?_
    refine J.callV (M' := mX6_gather) (index := 329) (bc := 0) (bs := 0) (bc' := 0) (bs' := 0) (st := []) [] ml_X11_329 cv_X6_gather dX11_ring_15 (lt65 hs) (kk65 hs) (by decide) rfl rfl rfl rfl (Nat.le_of_ble_eq_true rfl) (kqv hW (fun I4 hW => ?_))
    refine J.aload_n dX11_ring_18 rfl rfl ?_
    refine J.getR (r := 77) fl_X11_59 rfl dX11_ring_19 (lt0 hs) (kk0 hs) (rr0_6 hs) ?_
    refine J.callV (M' := mX9_search) (index := 354) (bc := 0) (bs := 0) (bc' := 0) (bs' := 0) (st := []) [] ml_X11_354 cv_X9_search dX11_ring_22 (lt77 hs) (kk77 hs) (by decide) rfl rfl rfl rfl (Nat.le_of_ble_eq_true rfl) (kqv hW (fun I5 hW => ?_))
    refine J.aload_n dX11_ring_25 rfl rfl ?_
    refine J.getR (r := 77) fl_X11_59 rfl dX11_ring_26 (lt0 hs) (kk0 hs) (rr0_6 hs) ?_
    refine J.getI (x := I5 77 7) fl_X11_357 rfl dX11_ring_29 (lt77 hs) (kk77 hs) rfl ?_
    refine J.if_ne 37 dX11_ring_32 (by decide) (fun hc6 => ?_) (fun hc6 => ?_)
    · have hW := hW.2 hc6
      refine J.iload_n dX11_ring_37 rfl rfl ?_
      have hj : J E mX11_ring (d + 7) Q 0 0 58 [some (.ref (eB E + 0)), some (.int x1)] [.int (if x1 = 0 then I5 77 7 else I5 77 8 : Int32)] h I5 L := by
        exact J.reti dX11_ring_58 rfl rfl hW
      refine J.if_ne 51 dX11_ring_38 (by decide) (fun hc7 => ?_) (fun hc7 => ?_)
      · refine J.aload_n dX11_ring_51 rfl rfl ?_
        refine J.getR (r := 77) fl_X11_59 rfl dX11_ring_52 (lt0 hs) (kk0 hs) (rr0_6 hs) ?_
        refine J.getI (x := I5 77 8) fl_X11_360 rfl dX11_ring_55 (lt77 hs) (kk77 hs) rfl ?_
        rw [show ((if x1 = 0 then I5 77 7 else I5 77 8 : Int32) = I5 77 8) from by simp only [eq_false hc7, if_true, if_false, bI_true, bI_false, and_true, true_and, and_false, false_and, or_true, true_or, or_false, false_or, not_true_eq_false, not_false_eq_true]] at hj
        exact hj
      · refine J.aload_n dX11_ring_41 rfl rfl ?_
        refine J.getR (r := 77) fl_X11_59 rfl dX11_ring_42 (lt0 hs) (kk0 hs) (rr0_6 hs) ?_
        refine J.getI (x := I5 77 7) fl_X11_357 rfl dX11_ring_45 (lt77 hs) (kk77 hs) rfl ?_
        refine J.goto 58 dX11_ring_48 (by decide) ?_
        rw [show ((if x1 = 0 then I5 77 7 else I5 77 8 : Int32) = I5 77 7) from by simp only [eq_true hc7, if_true, if_false, bI_true, bI_false, and_true, true_and, and_false, false_and, or_true, true_or, or_false, false_or, not_true_eq_false, not_false_eq_true]] at hj
        exact hj
    · have hW := hW.1 hc6
      refine J.iconst (v := (-1)) dX11_ring_35 (by decide) ?_
      exact J.reti dX11_ring_36 rfl rfl hW
  · have hc3 := bI_0.mp hc3
    have hW := hW.2 hc3
    refine J.iconst (v := (-1)) dX11_ring_9 (by decide) ?_
    exact J.reti dX11_ring_10 rfl rfl hW
set_option maxRecDepth 100000 in
set_option maxHeartbeats 4000000 in
theorem w_X11_ringed {E : Envt} {d : Nat} {Q : Pst} {h : mS} {I : mI} {L : mL} (hs : SL h) (x1 : Int32) (x2 : Int32) 
    (hW : (((¬ (x1 < 0) ∧ (¬ (3 < x1))) → (((¬ (x2 < 0) ∧ (¬ (2 < x2))) → (CT E mX6_gather (d + 6) 0 0 [.ref (eB E + 65)] h I L (qv h L fun I7 => (CT E mX9_search (d + 6) 0 0 [.ref (eB E + 77)] h I7 L (qv h L fun I8 => (((x1 < (I8 77 7)) → ((x2 = 0 → (vp_in x1 4 ∧ Q (some (.int (I8 82 x1.toNatClampNeg))) h I8 L)) ∧ (x2 = 1 → (CT E mX9_brideAt (d + 6) 0 0 [.ref (eB E + 77), .int x1] h I8 L (qi h L fun r12 I11 => Q (some (.int r12)) h I11 L))) ∧ (¬ x2 = 0 → ¬ x2 = 1 → (CT E mX9_groomAt (d + 6) 0 0 [.ref (eB E + 77), .int x1] h I8 L (qi h L fun r14 I13 => Q (some (.int r14)) h I13 L))))) ∧ (¬ (x1 < (I8 77 7)) → Q (some (.int (-1))) h I8 L))))))) ∧ (¬ (¬ (x2 < 0) ∧ (¬ (2 < x2))) → Q (some (.int (-1))) h I L))) ∧ (¬ (¬ (x1 < 0) ∧ (¬ (3 < x1))) → Q (some (.int (-1))) h I L))) :
    CT E mX11_ringed (d + 7) 0 0 [.ref (eB E + 0), .int x1, .int x2] h I L Q := by
  refine CT.of (by decide) [some (.ref (eB E + 0)), some (.int x1), some (.int x2)] rfl (Nat.le_of_ble_eq_true rfl) ?_
  refine J.iload_n dX11_ringed_0 rfl rfl ?_
  refine J.iconst (v := 0) dX11_ringed_1 (by decide) ?_
  refine J.iconst (v := 3) dX11_ringed_2 (by decide) ?_
  refine J.callS (M' := mX11_within) (index := 63) (bc := 0) (bs := 0) (bc' := 0) (bs' := 0) (st := []) [.int x1, .int 0, .int 3] ml_X11_63 cv_X11_within dX11_ringed_3 rfl rfl (Nat.le_of_ble_eq_true rfl) (kqi (w_X11_within (d := d + 6) (Q := qi h L (fun v I' => I' = I ∧ v = bI (¬ (x1 < 0) ∧ (¬ (3 < x1))))) hs x1 0 3 ⟨rfl, rfl, _, rfl, rfl, rfl⟩) (fun v1 I2 hv => ?_))
  rw [hv.1, hv.2]
  refine J.if_eq 18 dX11_ringed_6 (by decide) (fun hc3 => ?_) (fun hc3 => ?_)
  · have hc3 := bI_0.mp hc3
    have hW := hW.2 hc3
    refine J.iconst (v := (-1)) dX11_ringed_18 (by decide) ?_
    exact J.reti dX11_ringed_19 rfl rfl hW
  · have hc3 := bI_n0.mp hc3
    have hW := hW.1 hc3
    refine J.iload_n dX11_ringed_9 rfl rfl ?_
    refine J.iconst (v := 0) dX11_ringed_10 (by decide) ?_
    refine J.iconst (v := 2) dX11_ringed_11 (by decide) ?_
    refine J.callS (M' := mX11_within) (index := 63) (bc := 0) (bs := 0) (bc' := 0) (bs' := 0) (st := []) [.int x2, .int 0, .int 2] ml_X11_63 cv_X11_within dX11_ringed_12 rfl rfl (Nat.le_of_ble_eq_true rfl) (kqi (w_X11_within (d := d + 6) (Q := qi h L (fun v I' => I' = I ∧ v = bI (¬ (x2 < 0) ∧ (¬ (2 < x2))))) hs x2 0 2 ⟨rfl, rfl, _, rfl, rfl, rfl⟩) (fun v4 I5 hv => ?_))
    rw [hv.1, hv.2]
    refine J.if_ne 20 dX11_ringed_15 (by decide) (fun hc6 => ?_) (fun hc6 => ?_)
    · have hc6 := bI_n0.mp hc6
      have hW := hW.1 hc6
      refine J.aload_n dX11_ringed_20 rfl rfl ?_
      refine J.getR (r := 65) fl_X11_50 rfl dX11_ringed_21 (lt0 hs) (kk0 hs) (rr0_5 hs) ?_
      refine J.callV (M' := mX6_gather) (index := 329) (bc := 0) (bs := 0) (bc' := 0) (bs' := 0) (st := []) [] ml_X11_329 cv_X6_gather dX11_ringed_24 (lt65 hs) (kk65 hs) (by decide) rfl rfl rfl rfl (Nat.le_of_ble_eq_true rfl) (kqv hW (fun I7 hW => ?_))
      refine J.aload_n dX11_ringed_27 rfl rfl ?_
      refine J.getR (r := 77) fl_X11_59 rfl dX11_ringed_28 (lt0 hs) (kk0 hs) (rr0_6 hs) ?_
      refine J.callV (M' := mX9_search) (index := 354) (bc := 0) (bs := 0) (bc' := 0) (bs' := 0) (st := []) [] ml_X11_354 cv_X9_search dX11_ringed_31 (lt77 hs) (kk77 hs) (by decide) rfl rfl rfl rfl (Nat.le_of_ble_eq_true rfl) (kqv hW (fun I8 hW => ?_))
      refine J.iload_n dX11_ringed_34 rfl rfl ?_
      refine J.aload_n dX11_ringed_35 rfl rfl ?_
      refine J.getR (r := 77) fl_X11_59 rfl dX11_ringed_36 (lt0 hs) (kk0 hs) (rr0_6 hs) ?_
      refine J.getI (x := I8 77 7) fl_X11_357 rfl dX11_ringed_39 (lt77 hs) (kk77 hs) rfl ?_
      refine J.ic_lt 47 dX11_ringed_42 (by decide) (fun hc9 => ?_) (fun hc9 => ?_)
      · have hW := hW.1 hc9
        refine J.iload_n dX11_ringed_47 rfl rfl ?_
        by_cases hk15 : x2 = 0
        · have hW := hW.1 hk15
          refine J.lookup (off := 28) 76 dX11_ringed_48 (by decide) (by rw [hk15] <;> rfl) (by decide) ?_
          refine J.aload_n dX11_ringed_76 rfl rfl ?_
          refine J.getR (r := 77) fl_X11_59 rfl dX11_ringed_77 (lt0 hs) (kk0 hs) (rr0_6 hs) ?_
          refine J.getR (r := 82) fl_X11_363 rfl dX11_ringed_80 (lt77 hs) (kk77 hs) (rr77_6 hs) ?_
          refine J.iload_n dX11_ringed_83 rfl rfl ?_
          obtain ⟨hb10, hW⟩ := hW
          refine J.iald (x := I8 82 x1.toNatClampNeg) dX11_ringed_84 (lt82 hs) (kk82 hs) hb10 rfl ?_
          exact J.reti dX11_ringed_85 rfl rfl hW
        by_cases hk16 : x2 = 1
        · have hW := hW.2.1 hk16
          refine J.lookup (off := 38) 86 dX11_ringed_48 (by decide) (by rw [hk16] <;> rfl) (by decide) ?_
          refine J.aload_n dX11_ringed_86 rfl rfl ?_
          refine J.getR (r := 77) fl_X11_59 rfl dX11_ringed_87 (lt0 hs) (kk0 hs) (rr0_6 hs) ?_
          refine J.iload_n dX11_ringed_90 rfl rfl ?_
          refine J.callV (M' := mX9_brideAt) (index := 366) (bc := 0) (bs := 0) (bc' := 0) (bs' := 0) (st := []) [.int x1] ml_X11_366 cv_X9_brideAt dX11_ringed_91 (lt77 hs) (kk77 hs) (by decide) rfl rfl rfl rfl (Nat.le_of_ble_eq_true rfl) (kqi hW (fun r12 I11 hW => ?_))
          exact J.reti dX11_ringed_94 rfl rfl hW
        have hW := hW.2.2 hk15 hk16
        refine J.lookup (off := 47) 95 dX11_ringed_48 (by decide) (by simp [Op.lookupswitch.offset, (toInt_ne (k := 0) (by decide) hk15).symm, (toInt_ne (k := 1) (by decide) hk16).symm]) (by decide) ?_
        refine J.aload_n dX11_ringed_95 rfl rfl ?_
        refine J.getR (r := 77) fl_X11_59 rfl dX11_ringed_96 (lt0 hs) (kk0 hs) (rr0_6 hs) ?_
        refine J.iload_n dX11_ringed_99 rfl rfl ?_
        refine J.callV (M' := mX9_groomAt) (index := 369) (bc := 0) (bs := 0) (bc' := 0) (bs' := 0) (st := []) [.int x1] ml_X11_369 cv_X9_groomAt dX11_ringed_100 (lt77 hs) (kk77 hs) (by decide) rfl rfl rfl rfl (Nat.le_of_ble_eq_true rfl) (kqi hW (fun r14 I13 hW => ?_))
        exact J.reti dX11_ringed_103 rfl rfl hW
      · have hW := hW.2 hc9
        refine J.iconst (v := (-1)) dX11_ringed_45 (by decide) ?_
        exact J.reti dX11_ringed_46 rfl rfl hW
    · have hc6 := bI_0.mp hc6
      have hW := hW.2 hc6
      refine J.iconst (v := (-1)) dX11_ringed_18 (by decide) ?_
      exact J.reti dX11_ringed_19 rfl rfl hW
set_option maxRecDepth 100000 in
set_option maxHeartbeats 4000000 in
theorem w_X11_count {E : Envt} {d : Nat} {Q : Pst} {h : mS} {I : mI} {L : mL} (hs : SL h) (x1 : Int32) 
    (hW : ((x1 = 0 → Q (some (.int (I 2 0))) h I L) ∧ (x1 = 1 → Q (some (.int (I 7 0))) h I L) ∧ (x1 = 2 → Q (some (.int (I 17 0))) h I L) ∧ (x1 = 3 → Q (some (.int (I 1 0))) h I L) ∧ (x1 = 4 → Q (some (.int (I 24 0))) h I L) ∧ (x1 = 5 → (CT E mX4_howMany (d + 6) 0 0 [.ref (eB E + 24), .int 0] h I L (qi h L fun r2 I1 => (CT E mX4_howMany (d + 6) 0 0 [.ref (eB E + 24), .int 1] h I1 L (qi h L fun r4 I3 => Q (some (.int (r2 + r4))) h I3 L))))) ∧ (x1 = 6 → (CT E mX4_howMany (d + 6) 0 0 [.ref (eB E + 24), .int 2] h I L (qi h L fun r6 I5 => Q (some (.int r6)) h I5 L))) ∧ (x1 = 7 → (CT E mX1_allFeuds (d + 6) 0 0 [.ref (eB E + 2)] h I L (qi h L fun r8 I7 => Q (some (.int r8)) h I7 L))) ∧ (x1 = 8 → (CT E mX1_allCoins (d + 6) 0 0 [.ref (eB E + 2)] h I L (qi h L fun r10 I9 => Q (some (.int r10)) h I9 L))) ∧ (x1 = 9 → (CT E mX7_allFree (d + 6) 0 0 [.ref (eB E + 7), .int 0] h I L (qi h L fun r12 I11 => Q (some (.int r12)) h I11 L))) ∧ (x1 = 10 → (CT E mX7_allFree (d + 6) 0 0 [.ref (eB E + 7), .int 1] h I L (qi h L fun r14 I13 => Q (some (.int r14)) h I13 L))) ∧ (x1 = 11 → (CT E mX2_allLate (d + 6) 0 0 [.ref (eB E + 63)] h I L (qi h L fun r16 I15 => Q (some (.int r16)) h I15 L))) ∧ (¬ x1 = 0 → ¬ x1 = 1 → ¬ x1 = 2 → ¬ x1 = 3 → ¬ x1 = 4 → ¬ x1 = 5 → ¬ x1 = 6 → ¬ x1 = 7 → ¬ x1 = 8 → ¬ x1 = 9 → ¬ x1 = 10 → ¬ x1 = 11 → Q (some (.int (-100))) h I L))) :
    CT E mX11_count (d + 7) 0 0 [.ref (eB E + 0), .int x1] h I L Q := by
  refine CT.of (by decide) [some (.ref (eB E + 0)), some (.int x1)] rfl (Nat.le_of_ble_eq_true rfl) ?_
  refine J.iload_n dX11_count_0 rfl rfl ?_
  by_cases hk17 : x1 = 0
  · have hW := hW.1 hk17
    refine J.tableIn (off := 63) 64 dX11_count_1 (by rw [hk17] <;> decide) (by rw [hk17] <;> decide) (by rw [hk17] <;> rfl) (by decide) ?_
    refine J.aload_n dX11_count_64 rfl rfl ?_
    refine J.getR (r := 1) fl_X11_12 rfl dX11_count_65 (lt0 hs) (kk0 hs) (rr0_0 hs) ?_
    refine J.getR (r := 2) fl_X11_72 rfl dX11_count_68 (lt1 hs) (kk1 hs) (rr1_1 hs) ?_
    refine J.getI (x := I 2 0) fl_X11_372 rfl dX11_count_71 (lt2 hs) (kk2 hs) rfl ?_
    exact J.reti dX11_count_74 rfl rfl hW
  by_cases hk18 : x1 = 1
  · have hW := hW.2.1 hk18
    refine J.tableIn (off := 74) 75 dX11_count_1 (by rw [hk18] <;> decide) (by rw [hk18] <;> decide) (by rw [hk18] <;> rfl) (by decide) ?_
    refine J.aload_n dX11_count_75 rfl rfl ?_
    refine J.getR (r := 1) fl_X11_12 rfl dX11_count_76 (lt0 hs) (kk0 hs) (rr0_0 hs) ?_
    refine J.getR (r := 7) fl_X11_89 rfl dX11_count_79 (lt1 hs) (kk1 hs) (rr1_2 hs) ?_
    refine J.getI (x := I 7 0) fl_X11_325 rfl dX11_count_82 (lt7 hs) (kk7 hs) rfl ?_
    exact J.reti dX11_count_85 rfl rfl hW
  by_cases hk19 : x1 = 2
  · have hW := hW.2.2.1 hk19
    refine J.tableIn (off := 85) 86 dX11_count_1 (by rw [hk19] <;> decide) (by rw [hk19] <;> decide) (by rw [hk19] <;> rfl) (by decide) ?_
    refine J.aload_n dX11_count_86 rfl rfl ?_
    refine J.getR (r := 1) fl_X11_12 rfl dX11_count_87 (lt0 hs) (kk0 hs) (rr0_0 hs) ?_
    refine J.getR (r := 17) fl_X11_98 rfl dX11_count_90 (lt1 hs) (kk1 hs) (rr1_3 hs) ?_
    refine J.getI (x := I 17 0) fl_X11_373 rfl dX11_count_93 (lt17 hs) (kk17 hs) rfl ?_
    exact J.reti dX11_count_96 rfl rfl hW
  by_cases hk20 : x1 = 3
  · have hW := hW.2.2.2.1 hk20
    refine J.tableIn (off := 96) 97 dX11_count_1 (by rw [hk20] <;> decide) (by rw [hk20] <;> decide) (by rw [hk20] <;> rfl) (by decide) ?_
    refine J.aload_n dX11_count_97 rfl rfl ?_
    refine J.getR (r := 1) fl_X11_12 rfl dX11_count_98 (lt0 hs) (kk0 hs) (rr0_0 hs) ?_
    refine J.getI (x := I 1 0) fl_X11_85 rfl dX11_count_101 (lt1 hs) (kk1 hs) rfl ?_
    exact J.reti dX11_count_104 rfl rfl hW
  by_cases hk21 : x1 = 4
  · have hW := hW.2.2.2.2.1 hk21
    refine J.tableIn (off := 104) 105 dX11_count_1 (by rw [hk21] <;> decide) (by rw [hk21] <;> decide) (by rw [hk21] <;> rfl) (by decide) ?_
    refine J.aload_n dX11_count_105 rfl rfl ?_
    refine J.getR (r := 1) fl_X11_12 rfl dX11_count_106 (lt0 hs) (kk0 hs) (rr0_0 hs) ?_
    refine J.getR (r := 24) fl_X11_140 rfl dX11_count_109 (lt1 hs) (kk1 hs) (rr1_4 hs) ?_
    refine J.getI (x := I 24 0) fl_X11_322 rfl dX11_count_112 (lt24 hs) (kk24 hs) rfl ?_
    exact J.reti dX11_count_115 rfl rfl hW
  by_cases hk22 : x1 = 5
  · have hW := hW.2.2.2.2.2.1 hk22
    refine J.tableIn (off := 115) 116 dX11_count_1 (by rw [hk22] <;> decide) (by rw [hk22] <;> decide) (by rw [hk22] <;> rfl) (by decide) ?_
    refine J.aload_n dX11_count_116 rfl rfl ?_
    refine J.getR (r := 1) fl_X11_12 rfl dX11_count_117 (lt0 hs) (kk0 hs) (rr0_0 hs) ?_
    refine J.getR (r := 24) fl_X11_140 rfl dX11_count_120 (lt1 hs) (kk1 hs) (rr1_4 hs) ?_
    refine J.iconst (v := 0) dX11_count_123 (by decide) ?_
    refine J.callV (M' := mX4_howMany) (index := 374) (bc := 0) (bs := 0) (bc' := 0) (bs' := 0) (st := []) [.int 0] ml_X11_374 cv_X4_howMany dX11_count_124 (lt24 hs) (kk24 hs) (by decide) rfl rfl rfl rfl (Nat.le_of_ble_eq_true rfl) (kqi hW (fun r2 I1 hW => ?_))
    refine J.aload_n dX11_count_127 rfl rfl ?_
    refine J.getR (r := 1) fl_X11_12 rfl dX11_count_128 (lt0 hs) (kk0 hs) (rr0_0 hs) ?_
    refine J.getR (r := 24) fl_X11_140 rfl dX11_count_131 (lt1 hs) (kk1 hs) (rr1_4 hs) ?_
    refine J.iconst (v := 1) dX11_count_134 (by decide) ?_
    refine J.callV (M' := mX4_howMany) (index := 374) (bc := 0) (bs := 0) (bc' := 0) (bs' := 0) (st := [.int r2]) [.int 1] ml_X11_374 cv_X4_howMany dX11_count_135 (lt24 hs) (kk24 hs) (by decide) rfl rfl rfl rfl (Nat.le_of_ble_eq_true rfl) (kqi hW (fun r4 I3 hW => ?_))
    refine J.iadd dX11_count_138 ?_
    exact J.reti dX11_count_139 rfl rfl hW
  by_cases hk23 : x1 = 6
  · have hW := hW.2.2.2.2.2.2.1 hk23
    refine J.tableIn (off := 139) 140 dX11_count_1 (by rw [hk23] <;> decide) (by rw [hk23] <;> decide) (by rw [hk23] <;> rfl) (by decide) ?_
    refine J.aload_n dX11_count_140 rfl rfl ?_
    refine J.getR (r := 1) fl_X11_12 rfl dX11_count_141 (lt0 hs) (kk0 hs) (rr0_0 hs) ?_
    refine J.getR (r := 24) fl_X11_140 rfl dX11_count_144 (lt1 hs) (kk1 hs) (rr1_4 hs) ?_
    refine J.iconst (v := 2) dX11_count_147 (by decide) ?_
    refine J.callV (M' := mX4_howMany) (index := 374) (bc := 0) (bs := 0) (bc' := 0) (bs' := 0) (st := []) [.int 2] ml_X11_374 cv_X4_howMany dX11_count_148 (lt24 hs) (kk24 hs) (by decide) rfl rfl rfl rfl (Nat.le_of_ble_eq_true rfl) (kqi hW (fun r6 I5 hW => ?_))
    exact J.reti dX11_count_151 rfl rfl hW
  by_cases hk24 : x1 = 7
  · have hW := hW.2.2.2.2.2.2.2.1 hk24
    refine J.tableIn (off := 151) 152 dX11_count_1 (by rw [hk24] <;> decide) (by rw [hk24] <;> decide) (by rw [hk24] <;> rfl) (by decide) ?_
    refine J.aload_n dX11_count_152 rfl rfl ?_
    refine J.getR (r := 1) fl_X11_12 rfl dX11_count_153 (lt0 hs) (kk0 hs) (rr0_0 hs) ?_
    refine J.getR (r := 2) fl_X11_72 rfl dX11_count_156 (lt1 hs) (kk1 hs) (rr1_1 hs) ?_
    refine J.callV (M' := mX1_allFeuds) (index := 377) (bc := 0) (bs := 0) (bc' := 0) (bs' := 0) (st := []) [] ml_X11_377 cv_X1_allFeuds dX11_count_159 (lt2 hs) (kk2 hs) (by decide) rfl rfl rfl rfl (Nat.le_of_ble_eq_true rfl) (kqi hW (fun r8 I7 hW => ?_))
    exact J.reti dX11_count_162 rfl rfl hW
  by_cases hk25 : x1 = 8
  · have hW := hW.2.2.2.2.2.2.2.2.1 hk25
    refine J.tableIn (off := 162) 163 dX11_count_1 (by rw [hk25] <;> decide) (by rw [hk25] <;> decide) (by rw [hk25] <;> rfl) (by decide) ?_
    refine J.aload_n dX11_count_163 rfl rfl ?_
    refine J.getR (r := 1) fl_X11_12 rfl dX11_count_164 (lt0 hs) (kk0 hs) (rr0_0 hs) ?_
    refine J.getR (r := 2) fl_X11_72 rfl dX11_count_167 (lt1 hs) (kk1 hs) (rr1_1 hs) ?_
    refine J.callV (M' := mX1_allCoins) (index := 380) (bc := 0) (bs := 0) (bc' := 0) (bs' := 0) (st := []) [] ml_X11_380 cv_X1_allCoins dX11_count_170 (lt2 hs) (kk2 hs) (by decide) rfl rfl rfl rfl (Nat.le_of_ble_eq_true rfl) (kqi hW (fun r10 I9 hW => ?_))
    exact J.reti dX11_count_173 rfl rfl hW
  by_cases hk26 : x1 = 9
  · have hW := hW.2.2.2.2.2.2.2.2.2.1 hk26
    refine J.tableIn (off := 173) 174 dX11_count_1 (by rw [hk26] <;> decide) (by rw [hk26] <;> decide) (by rw [hk26] <;> rfl) (by decide) ?_
    refine J.aload_n dX11_count_174 rfl rfl ?_
    refine J.getR (r := 1) fl_X11_12 rfl dX11_count_175 (lt0 hs) (kk0 hs) (rr0_0 hs) ?_
    refine J.getR (r := 7) fl_X11_89 rfl dX11_count_178 (lt1 hs) (kk1 hs) (rr1_2 hs) ?_
    refine J.iconst (v := 0) dX11_count_181 (by decide) ?_
    refine J.callV (M' := mX7_allFree) (index := 383) (bc := 0) (bs := 0) (bc' := 0) (bs' := 0) (st := []) [.int 0] ml_X11_383 cv_X7_allFree dX11_count_182 (lt7 hs) (kk7 hs) (by decide) rfl rfl rfl rfl (Nat.le_of_ble_eq_true rfl) (kqi hW (fun r12 I11 hW => ?_))
    exact J.reti dX11_count_185 rfl rfl hW
  by_cases hk27 : x1 = 10
  · have hW := hW.2.2.2.2.2.2.2.2.2.2.1 hk27
    refine J.tableIn (off := 185) 186 dX11_count_1 (by rw [hk27] <;> decide) (by rw [hk27] <;> decide) (by rw [hk27] <;> rfl) (by decide) ?_
    refine J.aload_n dX11_count_186 rfl rfl ?_
    refine J.getR (r := 1) fl_X11_12 rfl dX11_count_187 (lt0 hs) (kk0 hs) (rr0_0 hs) ?_
    refine J.getR (r := 7) fl_X11_89 rfl dX11_count_190 (lt1 hs) (kk1 hs) (rr1_2 hs) ?_
    refine J.iconst (v := 1) dX11_count_193 (by decide) ?_
    refine J.callV (M' := mX7_allFree) (index := 383) (bc := 0) (bs := 0) (bc' := 0) (bs' := 0) (st := []) [.int 1] ml_X11_383 cv_X7_allFree dX11_count_194 (lt7 hs) (kk7 hs) (by decide) rfl rfl rfl rfl (Nat.le_of_ble_eq_true rfl) (kqi hW (fun r14 I13 hW => ?_))
    exact J.reti dX11_count_197 rfl rfl hW
  by_cases hk28 : x1 = 11
  · have hW := hW.2.2.2.2.2.2.2.2.2.2.2.1 hk28
    refine J.tableIn (off := 197) 198 dX11_count_1 (by rw [hk28] <;> decide) (by rw [hk28] <;> decide) (by rw [hk28] <;> rfl) (by decide) ?_
    refine J.aload_n dX11_count_198 rfl rfl ?_
    refine J.getR (r := 63) fl_X11_41 rfl dX11_count_199 (lt0 hs) (kk0 hs) (rr0_4 hs) ?_
    refine J.callV (M' := mX2_allLate) (index := 386) (bc := 0) (bs := 0) (bc' := 0) (bs' := 0) (st := []) [] ml_X11_386 cv_X2_allLate dX11_count_202 (lt63 hs) (kk63 hs) (by decide) rfl rfl rfl rfl (Nat.le_of_ble_eq_true rfl) (kqi hW (fun r16 I15 hW => ?_))
    exact J.reti dX11_count_205 rfl rfl hW
  have hW := hW.2.2.2.2.2.2.2.2.2.2.2.2 hk17 hk18 hk19 hk20 hk21 hk22 hk23 hk24 hk25 hk26 hk27 hk28
  refine J.tableOut 206 dX11_count_1 (by have := toInt_ne (k := 0) (by decide) hk17; have := toInt_ne (k := 1) (by decide) hk18; have := toInt_ne (k := 2) (by decide) hk19; have := toInt_ne (k := 3) (by decide) hk20; have := toInt_ne (k := 4) (by decide) hk21; have := toInt_ne (k := 5) (by decide) hk22; have := toInt_ne (k := 6) (by decide) hk23; have := toInt_ne (k := 7) (by decide) hk24; have := toInt_ne (k := 8) (by decide) hk25; have := toInt_ne (k := 9) (by decide) hk26; have := toInt_ne (k := 10) (by decide) hk27; have := toInt_ne (k := 11) (by decide) hk28; omega) (by decide) ?_
  refine J.bipush (v := (-100)) dX11_count_206 (by decide) ?_
  exact J.reti dX11_count_208 rfl rfl hW
set_option maxRecDepth 100000 in
set_option maxHeartbeats 4000000 in
theorem w_X11_again {E : Envt} {d : Nat} {Q : Pst} {h : mS} {I : mI} {L : mL} (hs : SL h) (x1 : Int32) 
    (hW : (((¬ (x1 < 0) ∧ (¬ (2 < x1))) → (vp_in x1 3 ∧ ((h.2.1 46 x1.toNatClampNeg = none → Q (some (.int 0)) h I L) ∧ (∀ t6 : Nat, h.2.1 46 x1.toNatClampNeg = some t6 → (CT E mX0_takeFrom (d + 3) 0 0 [.ref (eB E + 1), .ref (eB E + t6)] h I L (gv fun h7 I8 L9 => SL h7 ∧ (CT E mX3_forget (d + 3) 0 0 [.ref (eB E + 56)] h7 I8 L9 (qv h7 L9 fun I11 => Q (some (.int 1)) h7 I11 L9)))))))) ∧ (¬ (¬ (x1 < 0) ∧ (¬ (2 < x1))) → Q (some (.int 0)) h I L))) :
    CT E mX11_again (d + 4) 0 0 [.ref (eB E + 0), .int x1] h I L Q := by
  refine CT.of (by decide) [some (.ref (eB E + 0)), some (.int x1), none] rfl (Nat.le_of_ble_eq_true rfl) ?_
  refine J.iload_n dX11_again_0 rfl rfl ?_
  refine J.iconst (v := 0) dX11_again_1 (by decide) ?_
  refine J.iconst (v := 2) dX11_again_2 (by decide) ?_
  refine J.callS (M' := mX11_within) (index := 63) (bc := 0) (bs := 0) (bc' := 0) (bs' := 0) (st := []) [.int x1, .int 0, .int 2] ml_X11_63 cv_X11_within dX11_again_3 rfl rfl (Nat.le_of_ble_eq_true rfl) (kqi (w_X11_within (d := d + 3) (Q := qi h L (fun v I' => I' = I ∧ v = bI (¬ (x1 < 0) ∧ (¬ (2 < x1))))) hs x1 0 2 ⟨rfl, rfl, _, rfl, rfl, rfl⟩) (fun v1 I2 hv => ?_))
  rw [hv.1, hv.2]
  refine J.if_ne 11 dX11_again_6 (by decide) (fun hc3 => ?_) (fun hc3 => ?_)
  · have hc3 := bI_n0.mp hc3
    have hW := hW.1 hc3
    refine J.aload_n dX11_again_11 rfl rfl ?_
    refine J.getR (r := 46) fl_X11_16 rfl dX11_again_12 (lt0 hs) (kk0 hs) (rr0_1 hs) ?_
    refine J.iload_n dX11_again_15 rfl rfl ?_
    obtain ⟨hb4, hW⟩ := hW
    refine J.aald (v := rlf (eB E) (h.2.1 46 x1.toNatClampNeg)) dX11_again_16 (lt46 hs) (kk46 hs) (by decide) hb4 rfl ?_
    rcases ho5 : h.2.1 46 x1.toNatClampNeg with _ | t6
    · have hW := hW.1 ho5
      rw [rlf_none]
      refine J.astore_nN (vs' := [some (.ref (eB E + 0)), some (.int x1), some (.null)]) dX11_again_17 rfl (by decide) rfl ?_
      refine J.aload_nN dX11_again_18 rfl rfl ?_
      refine J.ifnonnullN dX11_again_19 ?_
      refine J.iconst (v := 0) dX11_again_22 (by decide) ?_
      exact J.reti dX11_again_23 rfl (bz_nar (Or.inl rfl)) hW
    · have hW := hW.2 t6 ho5
      rw [rlf_some]
      refine J.astore_n (vs' := [some (.ref (eB E + 0)), some (.int x1), some (.ref (eB E + t6))]) dX11_again_17 rfl (by decide) rfl ?_
      refine J.aload_n dX11_again_18 rfl rfl ?_
      refine J.ifnonnull 24 dX11_again_19 (by decide) ?_
      refine J.aload_n dX11_again_24 rfl rfl ?_
      refine J.getR (r := 1) fl_X11_12 rfl dX11_again_25 (lt0 hs) (kk0 hs) (rr0_0 hs) ?_
      refine J.aload_n dX11_again_28 rfl rfl ?_
      refine J.callV (M' := mX0_takeFrom) (index := 389) (bc := 0) (bs := 0) (bc' := 0) (bs' := 0) (st := []) [.ref (eB E + t6)] ml_X11_389 cv_X0_takeFrom dX11_again_29 (lt1 hs) (kk1 hs) (by decide) rfl rfl rfl rfl (Nat.le_of_ble_eq_true rfl) (kgv hW (fun h7 I8 L9 hW => ?_))
      obtain ⟨hs10, hW⟩ := hW
      refine J.aload_n dX11_again_32 rfl rfl ?_
      refine J.getR (r := 56) fl_X11_32 rfl dX11_again_33 (lt0 hs10) (kk0 hs10) (rr0_3 hs10) ?_
      refine J.callV (M' := mX3_forget) (index := 108) (bc := 0) (bs := 0) (bc' := 0) (bs' := 0) (st := []) [] ml_X11_108 cv_X3_forget dX11_again_36 (lt56 hs10) (kk56 hs10) (by decide) rfl rfl rfl rfl (Nat.le_of_ble_eq_true rfl) (kqv hW (fun I11 hW => ?_))
      refine J.iconst (v := 1) dX11_again_39 (by decide) ?_
      exact J.reti dX11_again_40 rfl (bz_nar (Or.inr rfl)) hW
  · have hc3 := bI_0.mp hc3
    have hW := hW.2 hc3
    refine J.iconst (v := 0) dX11_again_9 (by decide) ?_
    exact J.reti dX11_again_10 rfl (bz_nar (Or.inl rfl)) hW
set_option maxRecDepth 100000 in
set_option maxHeartbeats 4000000 in
theorem w_X12_in {E : Envt} {d : Nat} {Q : Pst} {h : mS} {I : mI} {L : mL} (hs : SL h) (x0 : Int32) (x1 : Int32) (x2 : Int32) 
    (hW : Q (some (.int (bI (¬ (x0 < x1) ∧ (¬ (x2 < x0)))))) h I L) :
    CT E mX12_in d 0 0 [.int x0, .int x1, .int x2] h I L Q := by
  refine CT.of (by decide) [some (.int x0), some (.int x1), some (.int x2)] rfl (Nat.le_of_ble_eq_true rfl) ?_
  refine J.iload_n dX12_in_0 rfl rfl ?_
  refine J.iload_n dX12_in_1 rfl rfl ?_
  have hj : J E mX12_in d Q 0 0 15 [some (.int x0), some (.int x1), some (.int x2)] [.int (bI (¬ (x0 < x1) ∧ (¬ (x2 < x0))))] h I L := by
    exact J.reti dX12_in_15 rfl (bz_nar (bI_bz _)) hW
  refine J.ic_lt 14 dX12_in_2 (by decide) (fun hc1 => ?_) (fun hc1 => ?_)
  · refine J.iconst (v := 0) dX12_in_14 (by decide) ?_
    rw [show bI (¬ (x0 < x1) ∧ (¬ (x2 < x0))) = 0 from bI_f (by simp only [eq_true hc1, and_true, true_and, and_false, false_and, or_true, true_or, or_false, false_or, not_true_eq_false, not_false_eq_true])] at hj
    exact hj
  · refine J.iload_n dX12_in_5 rfl rfl ?_
    refine J.iload_n dX12_in_6 rfl rfl ?_
    refine J.ic_gt 14 dX12_in_7 (by decide) (fun hc2 => ?_) (fun hc2 => ?_)
    · refine J.iconst (v := 0) dX12_in_14 (by decide) ?_
      rw [show bI (¬ (x0 < x1) ∧ (¬ (x2 < x0))) = 0 from bI_f (by simp only [eq_false hc1, eq_true hc2, and_true, true_and, and_false, false_and, or_true, true_or, or_false, false_or, not_true_eq_false, not_false_eq_true])] at hj
      exact hj
    · refine J.iconst (v := 1) dX12_in_10 (by decide) ?_
      refine J.goto 15 dX12_in_11 (by decide) ?_
      rw [show bI (¬ (x0 < x1) ∧ (¬ (x2 < x0))) = 1 from bI_t (by simp only [eq_false hc1, eq_false hc2, and_true, true_and, and_false, false_and, or_true, true_or, or_false, false_or, not_true_eq_false, not_false_eq_true])] at hj
      exact hj
