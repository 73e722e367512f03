set_option maxRecDepth 100000 in
set_option maxHeartbeats 4000000 in
theorem w_X2_face {E : Envt} {d : Nat} {Q : Pst} {h : mS} {I : mI} {L : mL} (hs : SL h) (x1 : Int32) (x2 : Int32) 
    (hW : (vp_in x1 20 ∧ (∀ y2 : Int32, y2 = I 8 x1.toNatClampNeg → (vp_in x2 20 ∧ (∀ y4 : Int32, y4 = I 8 x2.toNatClampNeg → (∀ y7 : Int32, y7 = (if 0 ≤ ((I 10 x1.toNatClampNeg) - (I 10 x2.toNatClampNeg)) then ((I 10 x1.toNatClampNeg) - (I 10 x2.toNatClampNeg)) else -((I 10 x1.toNatClampNeg) - (I 10 x2.toNatClampNeg)) : Int32) → (vp_in y2 8 ∧ (vp_in y4 8 ∧ ((vp_in y2 8) ∧ (CT E mX7_hasElder (d + 1) 0 0 [.ref (eB E + 7), .int x1] h (uI (uI (uI (uI (uI (uI I 63 2 x1) 63 3 x2) 64 0 (bI (¬ ((bI ((I 3 y2.toNatClampNeg) = (I 3 y4.toNatClampNeg))) = 0)))) 64 1 (bI (¬ ((bI ((I 4 y2.toNatClampNeg) = (I 4 y4.toNatClampNeg))) = 0)))) 64 2 (bI (¬ ((bI (((((uI (uI (uI (uI I 63 2 x1) 63 3 x2) 64 0 (bI (¬ ((bI ((I 3 y2.toNatClampNeg) = (I 3 y4.toNatClampNeg))) = 0)))) 64 1 (bI (¬ ((bI ((I 4 y2.toNatClampNeg) = (I 4 y4.toNatClampNeg))) = 0)))) 6 y2.toNatClampNeg) >>> (y4 &&& 31)) &&& 1) = 1)) = 0)))) 64 3 (bI (¬ ((I 15 x1.toNatClampNeg) = 0)))) L (qi h L fun r24 I23 => (vp_in (I23 63 3) 20 ∧ (vp_in (I23 63 2) 20 ∧ Q none h (uI (uI (uI (uI (uI (uI I23 64 4 (bI (¬ (r24 = 0)))) 64 5 (if (8 - y7) < y7 then (8 - y7) else y7 : Int32)) 64 7 ((I23 1 0) - (I23 11 ((I23 63 3).toNatClampNeg)))) 64 8 ((I23 1 0) - (I23 11 ((I23 63 2).toNatClampNeg)))) 64 9 (if 0 ≤ ((I23 11 ((I23 63 2).toNatClampNeg)) - (I23 11 ((I23 63 3).toNatClampNeg))) then ((I23 11 ((I23 63 2).toNatClampNeg)) - (I23 11 ((I23 63 3).toNatClampNeg))) else -((I23 11 ((I23 63 2).toNatClampNeg)) - (I23 11 ((I23 63 3).toNatClampNeg))) : Int32)) 64 10 (I23 5 y4.toNatClampNeg)) L))))))))))))) :
    CT E mX2_face (d + 2) 0 0 [.ref (eB E + 63), .int x1, .int x2] h I L Q := by
  refine CT.of (by decide) [some (.ref (eB E + 63)), some (.int x1), some (.int x2), none, none, none, none, none] rfl (Nat.le_of_ble_eq_true rfl) ?_
  refine J.aload_n dX2_face_0 rfl rfl ?_
  refine J.iload_n dX2_face_1 rfl rfl ?_
  refine J.putI fw_X2_23 rfl dX2_face_2 (lt63 hs) (kk63 hs) ?_
  refine J.aload_n dX2_face_5 rfl rfl ?_
  refine J.iload_n dX2_face_6 rfl rfl ?_
  refine J.putI fw_X2_27 rfl dX2_face_7 (lt63 hs) (kk63 hs) ?_
  refine J.aload_n dX2_face_10 rfl rfl ?_
  refine J.getR (r := 1) fl_X2_15 rfl dX2_face_11 (lt63 hs) (kk63 hs) (rr63_0 hs) ?_
  refine J.getR (r := 7) fl_X2_30 rfl dX2_face_14 (lt1 hs) (kk1 hs) (rr1_2 hs) ?_
  refine J.astore_n (vs' := [some (.ref (eB E + 63)), some (.int x1), some (.int x2), some (.ref (eB E + 7)), none, none, none, none]) dX2_face_17 rfl (by decide) rfl ?_
  refine J.aload_n dX2_face_18 rfl rfl ?_
  refine J.getR (r := 1) fl_X2_15 rfl dX2_face_19 (lt63 hs) (kk63 hs) (rr63_0 hs) ?_
  refine J.getR (r := 2) fl_X2_36 rfl dX2_face_22 (lt1 hs) (kk1 hs) (rr1_1 hs) ?_
  refine J.astore (vs' := [some (.ref (eB E + 63)), some (.int x1), some (.int x2), some (.ref (eB E + 7)), some (.ref (eB E + 2)), none, none, none]) dX2_face_25 (by decide) rfl ?_
  refine J.aload_n dX2_face_27 rfl rfl ?_
  refine J.getR (r := 8) fl_X2_40 rfl dX2_face_28 (lt7 hs) (kk7 hs) (rr7_1 hs) ?_
  refine J.aload_n dX2_face_31 rfl rfl ?_
  refine J.getI (x := x1) fl_X2_23 rfl dX2_face_32 (lt63 hs) (kk63 hs) (by simp [uI]) ?_
  obtain ⟨hb1, hW⟩ := hW
  refine J.iald (x := I 8 x1.toNatClampNeg) dX2_face_35 (lt8 hs) (kk8 hs) hb1 rfl ?_
  refine J.topi (fun y2 hyy2 => ?_)
  have hW := hW y2 hyy2
  refine J.istore (vs' := [some (.ref (eB E + 63)), some (.int x1), some (.int x2), some (.ref (eB E + 7)), some (.ref (eB E + 2)), some (.int y2), none, none]) dX2_face_36 (by decide) rfl ?_
  refine J.aload_n dX2_face_38 rfl rfl ?_
  refine J.getR (r := 8) fl_X2_40 rfl dX2_face_39 (lt7 hs) (kk7 hs) (rr7_1 hs) ?_
  refine J.aload_n dX2_face_42 rfl rfl ?_
  refine J.getI (x := x2) fl_X2_27 rfl dX2_face_43 (lt63 hs) (kk63 hs) (by simp [uI]) ?_
  obtain ⟨hb3, hW⟩ := hW
  refine J.iald (x := I 8 x2.toNatClampNeg) dX2_face_46 (lt8 hs) (kk8 hs) hb3 rfl ?_
  refine J.topi (fun y4 hyy4 => ?_)
  have hW := hW y4 hyy4
  refine J.istore (vs' := [some (.ref (eB E + 63)), some (.int x1), some (.int x2), some (.ref (eB E + 7)), some (.ref (eB E + 2)), some (.int y2), some (.int y4), none]) dX2_face_47 (by decide) rfl ?_
  refine J.aload_n dX2_face_49 rfl rfl ?_
  refine J.getR (r := 10) fl_X2_45 rfl dX2_face_50 (lt7 hs) (kk7 hs) (rr7_3 hs) ?_
  refine J.aload_n dX2_face_53 rfl rfl ?_
  refine J.getI (x := x1) fl_X2_23 rfl dX2_face_54 (lt63 hs) (kk63 hs) (by simp [uI]) ?_
  refine J.iald (x := I 10 x1.toNatClampNeg) dX2_face_57 (lt10 hs) (kk10 hs) hb1 rfl ?_
  refine J.aload_n dX2_face_58 rfl rfl ?_
  refine J.getR (r := 10) fl_X2_45 rfl dX2_face_59 (lt7 hs) (kk7 hs) (rr7_3 hs) ?_
  refine J.aload_n dX2_face_62 rfl rfl ?_
  refine J.getI (x := x2) fl_X2_27 rfl dX2_face_63 (lt63 hs) (kk63 hs) (by simp [uI]) ?_
  refine J.iald (x := I 10 x2.toNatClampNeg) dX2_face_66 (lt10 hs) (kk10 hs) hb3 rfl ?_
  refine J.isub dX2_face_67 ?_
  refine J.callS (M' := mJ9_abs_0f7a4) (index := 48) (bc := 0) (bs := 0) (bc' := 0) (bs' := 0) (st := []) [.int ((I 10 x1.toNatClampNeg) - (I 10 x2.toNatClampNeg))] ml_X2_48 cv_J9_abs_0f7a4 dX2_face_68 rfl rfl (Nat.le_of_ble_eq_true rfl) (kqi (w_J9_abs_0f7a4 (d := d + 1) (Q := qi h L (fun v I' => I' = (uI (uI I 63 2 x1) 63 3 x2) ∧ v = (if 0 ≤ ((I 10 x1.toNatClampNeg) - (I 10 x2.toNatClampNeg)) then ((I 10 x1.toNatClampNeg) - (I 10 x2.toNatClampNeg)) else -((I 10 x1.toNatClampNeg) - (I 10 x2.toNatClampNeg)) : Int32))) hs ((I 10 x1.toNatClampNeg) - (I 10 x2.toNatClampNeg)) ⟨rfl, rfl, _, rfl, rfl, rfl⟩) (fun v5 I6 hv => ?_))
  rw [hv.1, hv.2]
  refine J.topi (fun y7 hyy7 => ?_)
  have hW := hW y7 hyy7
  refine J.istore (vs' := [some (.ref (eB E + 63)), some (.int x1), some (.int x2), some (.ref (eB E + 7)), some (.ref (eB E + 2)), some (.int y2), some (.int y4), some (.int y7)]) dX2_face_71 (by decide) rfl ?_
  refine J.aload_n dX2_face_73 rfl rfl ?_
  refine J.getR (r := 64) fl_X2_9 rfl dX2_face_74 (lt63 hs) (kk63 hs) (rr63_4 hs) ?_
  refine J.iconst (v := 0) dX2_face_77 (by decide) ?_
  refine J.aload dX2_face_78 rfl ?_
  refine J.getR (r := 3) fl_X2_54 rfl dX2_face_80 (lt2 hs) (kk2 hs) (rr2_1 hs) ?_
  refine J.iload dX2_face_83 rfl ?_
  obtain ⟨hb8, hW⟩ := hW
  refine J.iald (x := I 3 y2.toNatClampNeg) dX2_face_85 (lt3 hs) (kk3 hs) hb8 rfl ?_
  refine J.aload dX2_face_86 rfl ?_
  refine J.getR (r := 3) fl_X2_54 rfl dX2_face_88 (lt2 hs) (kk2 hs) (rr2_1 hs) ?_
  refine J.iload dX2_face_91 rfl ?_
  obtain ⟨hb9, hW⟩ := hW
  refine J.iald (x := I 3 y4.toNatClampNeg) dX2_face_93 (lt3 hs) (kk3 hs) hb9 rfl ?_
  have hj : J E mX2_face (d + 2) Q 0 0 102 [some (.ref (eB E + 63)), some (.int x1), some (.int x2), some (.ref (eB E + 7)), some (.ref (eB E + 2)), some (.int y2), some (.int y4), some (.int y7)] [.int (bI ((I 3 y2.toNatClampNeg) = (I 3 y4.toNatClampNeg))), .int 0, .ref (eB E + 64)] h (uI (uI I 63 2 x1) 63 3 x2) L := by
    refine J.callSN (M' := mX11_bit) (index := 59) (bc := 0) (bs := 0) (bc' := 0) (bs' := 0) (st := [.int 0, .ref (eB E + 64)]) [.int (bI ((I 3 y2.toNatClampNeg) = (I 3 y4.toNatClampNeg)))] nk_X2_59 cv_X11_bit dX2_face_102 rfl rfl (Nat.le_of_ble_eq_true rfl) (kqi (w_X11_bit (d := d + 1) (Q := qi h L (fun v I' => I' = (uI (uI I 63 2 x1) 63 3 x2) ∧ v = bI (¬ ((bI ((I 3 y2.toNatClampNeg) = (I 3 y4.toNatClampNeg))) = 0)))) hs (bI ((I 3 y2.toNatClampNeg) = (I 3 y4.toNatClampNeg))) ⟨rfl, rfl, _, rfl, rfl, rfl⟩) (fun v11 I12 hv => ?_))
    rw [hv.1, hv.2]
    refine J.iast dX2_face_105 (lt64 hs) (kk64 hs) (by unfold vp_in; decide) ?_
    refine J.aload_n dX2_face_106 rfl rfl ?_
    refine J.getR (r := 64) fl_X2_9 rfl dX2_face_107 (lt63 hs) (kk63 hs) (rr63_4 hs) ?_
    refine J.iconst (v := 1) dX2_face_110 (by decide) ?_
    refine J.aload dX2_face_111 rfl ?_
    refine J.getR (r := 4) fl_X2_63 rfl dX2_face_113 (lt2 hs) (kk2 hs) (rr2_2 hs) ?_
    refine J.iload dX2_face_116 rfl ?_
    refine J.iald (x := I 4 y2.toNatClampNeg) dX2_face_118 (lt4 hs) (kk4 hs) hb8 rfl ?_
    refine J.aload dX2_face_119 rfl ?_
    refine J.getR (r := 4) fl_X2_63 rfl dX2_face_121 (lt2 hs) (kk2 hs) (rr2_2 hs) ?_
    refine J.iload dX2_face_124 rfl ?_
    refine J.iald (x := I 4 y4.toNatClampNeg) dX2_face_126 (lt4 hs) (kk4 hs) hb9 rfl ?_
    have hj : J E mX2_face (d + 2) Q 0 0 135 [some (.ref (eB E + 63)), some (.int x1), some (.int x2), some (.ref (eB E + 7)), some (.ref (eB E + 2)), some (.int y2), some (.int y4), some (.int y7)] [.int (bI ((I 4 y2.toNatClampNeg) = (I 4 y4.toNatClampNeg))), .int 1, .ref (eB E + 64)] h (uI (uI (uI I 63 2 x1) 63 3 x2) 64 0 (bI (¬ ((bI ((I 3 y2.toNatClampNeg) = (I 3 y4.toNatClampNeg))) = 0)))) L := by
      refine J.callSN (M' := mX11_bit) (index := 59) (bc := 0) (bs := 0) (bc' := 0) (bs' := 0) (st := [.int 1, .ref (eB E + 64)]) [.int (bI ((I 4 y2.toNatClampNeg) = (I 4 y4.toNatClampNeg)))] nk_X2_59 cv_X11_bit dX2_face_135 rfl rfl (Nat.le_of_ble_eq_true rfl) (kqi (w_X11_bit (d := d + 1) (Q := qi h L (fun v I' => I' = (uI (uI (uI I 63 2 x1) 63 3 x2) 64 0 (bI (¬ ((bI ((I 3 y2.toNatClampNeg) = (I 3 y4.toNatClampNeg))) = 0)))) ∧ v = bI (¬ ((bI ((I 4 y2.toNatClampNeg) = (I 4 y4.toNatClampNeg))) = 0)))) hs (bI ((I 4 y2.toNatClampNeg) = (I 4 y4.toNatClampNeg))) ⟨rfl, rfl, _, rfl, rfl, rfl⟩) (fun v14 I15 hv => ?_))
      rw [hv.1, hv.2]
      refine J.iast dX2_face_138 (lt64 hs) (kk64 hs) (by unfold vp_in; decide) ?_
      refine J.aload_n dX2_face_139 rfl rfl ?_
      refine J.getR (r := 64) fl_X2_9 rfl dX2_face_140 (lt63 hs) (kk63 hs) (rr63_4 hs) ?_
      refine J.iconst (v := 2) dX2_face_143 (by decide) ?_
      refine J.aload dX2_face_144 rfl ?_
      refine J.iload dX2_face_146 rfl ?_
      refine J.iload dX2_face_148 rfl ?_
      obtain ⟨hb16, hW⟩ := hW
      refine J.callV (M' := mX1_atFeud) (index := 66) (bc := 0) (bs := 0) (bc' := 0) (bs' := 0) (st := [.int 2, .ref (eB E + 64)]) [.int y2, .int y4] ml_X2_66 cv_X1_atFeud dX2_face_150 (lt2 hs) (kk2 hs) (by decide) rfl rfl rfl rfl (Nat.le_of_ble_eq_true rfl) (kqi (w_X1_atFeud (d := d + 1) (Q := qi h L (fun v I' => I' = (uI (uI (uI (uI I 63 2 x1) 63 3 x2) 64 0 (bI (¬ ((bI ((I 3 y2.toNatClampNeg) = (I 3 y4.toNatClampNeg))) = 0)))) 64 1 (bI (¬ ((bI ((I 4 y2.toNatClampNeg) = (I 4 y4.toNatClampNeg))) = 0)))) ∧ v = bI (((((uI (uI (uI (uI I 63 2 x1) 63 3 x2) 64 0 (bI (¬ ((bI ((I 3 y2.toNatClampNeg) = (I 3 y4.toNatClampNeg))) = 0)))) 64 1 (bI (¬ ((bI ((I 4 y2.toNatClampNeg) = (I 4 y4.toNatClampNeg))) = 0)))) 6 y2.toNatClampNeg) >>> (y4 &&& 31)) &&& 1) = 1))) hs y2 y4 ⟨hb16, rfl, rfl, _, rfl, rfl, rfl⟩) (fun v17 I18 hv => ?_))
      rw [hv.1, hv.2]
      refine J.callSN (M' := mX11_bit) (index := 59) (bc := 0) (bs := 0) (bc' := 0) (bs' := 0) (st := [.int 2, .ref (eB E + 64)]) [.int (bI (((((uI (uI (uI (uI I 63 2 x1) 63 3 x2) 64 0 (bI (¬ ((bI ((I 3 y2.toNatClampNeg) = (I 3 y4.toNatClampNeg))) = 0)))) 64 1 (bI (¬ ((bI ((I 4 y2.toNatClampNeg) = (I 4 y4.toNatClampNeg))) = 0)))) 6 y2.toNatClampNeg) >>> (y4 &&& 31)) &&& 1) = 1))] nk_X2_59 cv_X11_bit dX2_face_153 rfl rfl (Nat.le_of_ble_eq_true rfl) (kqi (w_X11_bit (d := d + 1) (Q := qi h L (fun v I' => I' = (uI (uI (uI (uI I 63 2 x1) 63 3 x2) 64 0 (bI (¬ ((bI ((I 3 y2.toNatClampNeg) = (I 3 y4.toNatClampNeg))) = 0)))) 64 1 (bI (¬ ((bI ((I 4 y2.toNatClampNeg) = (I 4 y4.toNatClampNeg))) = 0)))) ∧ v = bI (¬ ((bI (((((uI (uI (uI (uI I 63 2 x1) 63 3 x2) 64 0 (bI (¬ ((bI ((I 3 y2.toNatClampNeg) = (I 3 y4.toNatClampNeg))) = 0)))) 64 1 (bI (¬ ((bI ((I 4 y2.toNatClampNeg) = (I 4 y4.toNatClampNeg))) = 0)))) 6 y2.toNatClampNeg) >>> (y4 &&& 31)) &&& 1) = 1)) = 0)))) hs (bI (((((uI (uI (uI (uI I 63 2 x1) 63 3 x2) 64 0 (bI (¬ ((bI ((I 3 y2.toNatClampNeg) = (I 3 y4.toNatClampNeg))) = 0)))) 64 1 (bI (¬ ((bI ((I 4 y2.toNatClampNeg) = (I 4 y4.toNatClampNeg))) = 0)))) 6 y2.toNatClampNeg) >>> (y4 &&& 31)) &&& 1) = 1)) ⟨rfl, rfl, _, rfl, rfl, rfl⟩) (fun v19 I20 hv => ?_))
      rw [hv.1, hv.2]
      refine J.iast dX2_face_156 (lt64 hs) (kk64 hs) (by unfold vp_in; decide) ?_
      refine J.aload_n dX2_face_157 rfl rfl ?_
      refine J.getR (r := 64) fl_X2_9 rfl dX2_face_158 (lt63 hs) (kk63 hs) (rr63_4 hs) ?_
      refine J.iconst (v := 3) dX2_face_161 (by decide) ?_
      refine J.aload_n dX2_face_162 rfl rfl ?_
      refine J.getR (r := 15) fl_X2_70 rfl dX2_face_163 (lt7 hs) (kk7 hs) (rr7_8 hs) ?_
      refine J.aload_n dX2_face_166 rfl rfl ?_
      refine J.getI (x := x1) fl_X2_23 rfl dX2_face_167 (lt63 hs) (kk63 hs) (by simp [uI]) ?_
      refine J.zald (x := I 15 x1.toNatClampNeg) dX2_face_170 (lt15 hs) (kk15 hs) hb1 rfl ?_
      refine J.callSN (M' := mX11_bit) (index := 59) (bc := 0) (bs := 0) (bc' := 0) (bs' := 0) (st := [.int 3, .ref (eB E + 64)]) [.int (I 15 x1.toNatClampNeg)] nk_X2_59 cv_X11_bit dX2_face_171 rfl rfl (Nat.le_of_ble_eq_true rfl) (kqi (w_X11_bit (d := d + 1) (Q := qi h L (fun v I' => I' = (uI (uI (uI (uI (uI I 63 2 x1) 63 3 x2) 64 0 (bI (¬ ((bI ((I 3 y2.toNatClampNeg) = (I 3 y4.toNatClampNeg))) = 0)))) 64 1 (bI (¬ ((bI ((I 4 y2.toNatClampNeg) = (I 4 y4.toNatClampNeg))) = 0)))) 64 2 (bI (¬ ((bI (((((uI (uI (uI (uI I 63 2 x1) 63 3 x2) 64 0 (bI (¬ ((bI ((I 3 y2.toNatClampNeg) = (I 3 y4.toNatClampNeg))) = 0)))) 64 1 (bI (¬ ((bI ((I 4 y2.toNatClampNeg) = (I 4 y4.toNatClampNeg))) = 0)))) 6 y2.toNatClampNeg) >>> (y4 &&& 31)) &&& 1) = 1)) = 0)))) ∧ v = bI (¬ ((I 15 x1.toNatClampNeg) = 0)))) hs (I 15 x1.toNatClampNeg) ⟨rfl, rfl, _, rfl, rfl, rfl⟩) (fun v21 I22 hv => ?_))
      rw [hv.1, hv.2]
      refine J.iast dX2_face_174 (lt64 hs) (kk64 hs) (by unfold vp_in; decide) ?_
      refine J.aload_n dX2_face_175 rfl rfl ?_
      refine J.getR (r := 64) fl_X2_9 rfl dX2_face_176 (lt63 hs) (kk63 hs) (rr63_4 hs) ?_
      refine J.iconst (v := 4) dX2_face_179 (by decide) ?_
      refine J.aload_n dX2_face_180 rfl rfl ?_
      refine J.aload_n dX2_face_181 rfl rfl ?_
      refine J.getI (x := x1) fl_X2_23 rfl dX2_face_182 (lt63 hs) (kk63 hs) (by simp [uI]) ?_
      refine J.callV (M' := mX7_hasElder) (index := 74) (bc := 0) (bs := 0) (bc' := 0) (bs' := 0) (st := [.int 4, .ref (eB E + 64)]) [.int x1] ml_X2_74 cv_X7_hasElder dX2_face_185 (lt7 hs) (kk7 hs) (by decide) rfl rfl rfl rfl (Nat.le_of_ble_eq_true rfl) (kqi hW (fun r24 I23 hW => ?_))
      refine J.callSN (M' := mX11_bit) (index := 59) (bc := 0) (bs := 0) (bc' := 0) (bs' := 0) (st := [.int 4, .ref (eB E + 64)]) [.int r24] nk_X2_59 cv_X11_bit dX2_face_188 rfl rfl (Nat.le_of_ble_eq_true rfl) (kqi (w_X11_bit (d := d + 1) (Q := qi h L (fun v I' => I' = I23 ∧ v = bI (¬ (r24 = 0)))) hs r24 ⟨rfl, rfl, _, rfl, rfl, rfl⟩) (fun v25 I26 hv => ?_))
      rw [hv.1, hv.2]
      refine J.iast dX2_face_191 (lt64 hs) (kk64 hs) (by unfold vp_in; decide) ?_
      refine J.aload_n dX2_face_192 rfl rfl ?_
      refine J.getR (r := 64) fl_X2_9 rfl dX2_face_193 (lt63 hs) (kk63 hs) (rr63_4 hs) ?_
      refine J.iconst (v := 5) dX2_face_196 (by decide) ?_
      refine J.iload dX2_face_197 rfl ?_
      refine J.bipush (v := 8) dX2_face_199 (by decide) ?_
      refine J.iload dX2_face_201 rfl ?_
      refine J.isub dX2_face_203 ?_
      refine J.callS (M' := mJ9_min_7cf53) (index := 78) (bc := 0) (bs := 0) (bc' := 0) (bs' := 0) (st := [.int 5, .ref (eB E + 64)]) [.int y7, .int (8 - y7)] ml_X2_78 cv_J9_min_7cf53 dX2_face_204 rfl rfl (Nat.le_of_ble_eq_true rfl) (kqi (w_J9_min_7cf53 (d := d + 1) (Q := qi h L (fun v I' => I' = (uI I23 64 4 (bI (¬ (r24 = 0)))) ∧ v = (if (8 - y7) < y7 then (8 - y7) else y7 : Int32))) hs y7 (8 - y7) ⟨rfl, rfl, _, rfl, rfl, rfl⟩) (fun v27 I28 hv => ?_))
      rw [hv.1, hv.2]
      refine J.iast dX2_face_207 (lt64 hs) (kk64 hs) (by unfold vp_in; decide) ?_
      refine J.aload_n dX2_face_208 rfl rfl ?_
      refine J.getR (r := 64) fl_X2_9 rfl dX2_face_209 (lt63 hs) (kk63 hs) (rr63_4 hs) ?_
      refine J.bipush (v := 7) dX2_face_212 (by decide) ?_
      refine J.aload_n dX2_face_214 rfl rfl ?_
      refine J.getR (r := 1) fl_X2_15 rfl dX2_face_215 (lt63 hs) (kk63 hs) (rr63_0 hs) ?_
      refine J.getI (x := I23 1 0) fl_X2_82 rfl dX2_face_218 (lt1 hs) (kk1 hs) rfl ?_
      refine J.aload_n dX2_face_221 rfl rfl ?_
      refine J.getR (r := 11) fl_X2_85 rfl dX2_face_222 (lt7 hs) (kk7 hs) (rr7_4 hs) ?_
      refine J.aload_n dX2_face_225 rfl rfl ?_
      refine J.getI (x := I23 63 3) fl_X2_27 rfl dX2_face_226 (lt63 hs) (kk63 hs) rfl ?_
      obtain ⟨hb29, hW⟩ := hW
      refine J.iald (x := I23 11 ((I23 63 3).toNatClampNeg)) dX2_face_229 (lt11 hs) (kk11 hs) hb29 rfl ?_
      refine J.isub dX2_face_230 ?_
      refine J.iast dX2_face_231 (lt64 hs) (kk64 hs) (by unfold vp_in; decide) ?_
      refine J.aload_n dX2_face_232 rfl rfl ?_
      refine J.getR (r := 64) fl_X2_9 rfl dX2_face_233 (lt63 hs) (kk63 hs) (rr63_4 hs) ?_
      refine J.bipush (v := 8) dX2_face_236 (by decide) ?_
      refine J.aload_n dX2_face_238 rfl rfl ?_
      refine J.getR (r := 1) fl_X2_15 rfl dX2_face_239 (lt63 hs) (kk63 hs) (rr63_0 hs) ?_
      refine J.getI (x := I23 1 0) fl_X2_82 rfl dX2_face_242 (lt1 hs) (kk1 hs) rfl ?_
      refine J.aload_n dX2_face_245 rfl rfl ?_
      refine J.getR (r := 11) fl_X2_85 rfl dX2_face_246 (lt7 hs) (kk7 hs) (rr7_4 hs) ?_
      refine J.aload_n dX2_face_249 rfl rfl ?_
      refine J.getI (x := I23 63 2) fl_X2_23 rfl dX2_face_250 (lt63 hs) (kk63 hs) rfl ?_
      obtain ⟨hb30, hW⟩ := hW
      refine J.iald (x := I23 11 ((I23 63 2).toNatClampNeg)) dX2_face_253 (lt11 hs) (kk11 hs) hb30 rfl ?_
      refine J.isub dX2_face_254 ?_
      refine J.iast dX2_face_255 (lt64 hs) (kk64 hs) (by unfold vp_in; decide) ?_
      refine J.aload_n dX2_face_256 rfl rfl ?_
      refine J.getR (r := 64) fl_X2_9 rfl dX2_face_257 (lt63 hs) (kk63 hs) (rr63_4 hs) ?_
      refine J.bipush (v := 9) dX2_face_260 (by decide) ?_
      refine J.aload_n dX2_face_262 rfl rfl ?_
      refine J.getR (r := 11) fl_X2_85 rfl dX2_face_263 (lt7 hs) (kk7 hs) (rr7_4 hs) ?_
      refine J.aload_n dX2_face_266 rfl rfl ?_
      refine J.getI (x := I23 63 2) fl_X2_23 rfl dX2_face_267 (lt63 hs) (kk63 hs) rfl ?_
      refine J.iald (x := I23 11 ((I23 63 2).toNatClampNeg)) dX2_face_270 (lt11 hs) (kk11 hs) hb30 rfl ?_
      refine J.aload_n dX2_face_271 rfl rfl ?_
      refine J.getR (r := 11) fl_X2_85 rfl dX2_face_272 (lt7 hs) (kk7 hs) (rr7_4 hs) ?_
      refine J.aload_n dX2_face_275 rfl rfl ?_
      refine J.getI (x := I23 63 3) fl_X2_27 rfl dX2_face_276 (lt63 hs) (kk63 hs) rfl ?_
      refine J.iald (x := I23 11 ((I23 63 3).toNatClampNeg)) dX2_face_279 (lt11 hs) (kk11 hs) hb29 rfl ?_
      refine J.isub dX2_face_280 ?_
      refine J.callS (M' := mJ9_abs_0f7a4) (index := 48) (bc := 0) (bs := 0) (bc' := 0) (bs' := 0) (st := [.int 9, .ref (eB E + 64)]) [.int ((I23 11 ((I23 63 2).toNatClampNeg)) - (I23 11 ((I23 63 3).toNatClampNeg)))] ml_X2_48 cv_J9_abs_0f7a4 dX2_face_281 rfl rfl (Nat.le_of_ble_eq_true rfl) (kqi (w_J9_abs_0f7a4 (d := d + 1) (Q := qi h L (fun v I' => I' = (uI (uI (uI (uI I23 64 4 (bI (¬ (r24 = 0)))) 64 5 (if (8 - y7) < y7 then (8 - y7) else y7 : Int32)) 64 7 ((I23 1 0) - (I23 11 ((I23 63 3).toNatClampNeg)))) 64 8 ((I23 1 0) - (I23 11 ((I23 63 2).toNatClampNeg)))) ∧ v = (if 0 ≤ ((I23 11 ((I23 63 2).toNatClampNeg)) - (I23 11 ((I23 63 3).toNatClampNeg))) then ((I23 11 ((I23 63 2).toNatClampNeg)) - (I23 11 ((I23 63 3).toNatClampNeg))) else -((I23 11 ((I23 63 2).toNatClampNeg)) - (I23 11 ((I23 63 3).toNatClampNeg))) : Int32))) hs ((I23 11 ((I23 63 2).toNatClampNeg)) - (I23 11 ((I23 63 3).toNatClampNeg))) ⟨rfl, rfl, _, rfl, rfl, rfl⟩) (fun v31 I32 hv => ?_))
      rw [hv.1, hv.2]
      refine J.iast dX2_face_284 (lt64 hs) (kk64 hs) (by unfold vp_in; decide) ?_
      refine J.aload_n dX2_face_285 rfl rfl ?_
      refine J.getR (r := 64) fl_X2_9 rfl dX2_face_286 (lt63 hs) (kk63 hs) (rr63_4 hs) ?_
      refine J.bipush (v := 10) dX2_face_289 (by decide) ?_
      refine J.aload dX2_face_291 rfl ?_
      refine J.getR (r := 5) fl_X2_88 rfl dX2_face_293 (lt2 hs) (kk2 hs) (rr2_3 hs) ?_
      refine J.iload dX2_face_296 rfl ?_
      refine J.iald (x := I23 5 y4.toNatClampNeg) dX2_face_298 (lt5 hs) (kk5 hs) hb9 rfl ?_
      refine J.iast dX2_face_299 (lt64 hs) (kk64 hs) (by unfold vp_in; decide) ?_
      exact J.retv dX2_face_300 rfl hW
    refine J.ic_ne 134 dX2_face_127 (by decide) (fun hc13 => ?_) (fun hc13 => ?_)
    · refine J.iconst (v := 0) dX2_face_134 (by decide) ?_
      rw [show bI ((I 4 y2.toNatClampNeg) = (I 4 y4.toNatClampNeg)) = 0 from bI_f (by simp only [eq_false hc13, and_true, true_and, and_false, false_and, or_true, true_or, or_false, false_or, not_true_eq_false, not_false_eq_true])] at hj
      exact hj
    · refine J.iconst (v := 1) dX2_face_130 (by decide) ?_
      refine J.goto 135 dX2_face_131 (by decide) ?_
      rw [show bI ((I 4 y2.toNatClampNeg) = (I 4 y4.toNatClampNeg)) = 1 from bI_t (by simp only [eq_true hc13, and_true, true_and, and_false, false_and, or_true, true_or, or_false, false_or, not_true_eq_false, not_false_eq_true])] at hj
      exact hj
  refine J.ic_ne 101 dX2_face_94 (by decide) (fun hc10 => ?_) (fun hc10 => ?_)
  · refine J.iconst (v := 0) dX2_face_101 (by decide) ?_
    rw [show bI ((I 3 y2.toNatClampNeg) = (I 3 y4.toNatClampNeg)) = 0 from bI_f (by simp only [eq_false hc10, and_true, true_and, and_false, false_and, or_true, true_or, or_false, false_or, not_true_eq_false, not_false_eq_true])] at hj
    exact hj
  · refine J.iconst (v := 1) dX2_face_97 (by decide) ?_
    refine J.goto 102 dX2_face_98 (by decide) ?_
    rw [show bI ((I 3 y2.toNatClampNeg) = (I 3 y4.toNatClampNeg)) = 1 from bI_t (by simp only [eq_true hc10, and_true, true_and, and_false, false_and, or_true, true_or, or_false, false_or, not_true_eq_false, not_false_eq_true])] at hj
    exact hj
set_option maxRecDepth 100000 in
set_option maxHeartbeats 4000000 in
theorem w_X10_asksKin {E : Envt} {d : Nat} {Q : Pst} {h : mS} {I : mI} {L : mL} (hs : SL h) {t nl nt : Nat} (ht : LT h t nl nt)
    (hW : J E mX10_asksKin d Q 0 0 2 [some (.ref (eB E + t)), some (.int 0)] [] h I L) :
    CT E mX10_asksKin d 0 0 [.ref (eB E + t)] h I L Q := by
  refine CT.of (by decide) [some (.ref (eB E + t)), none] rfl (Nat.le_of_ble_eq_true rfl) ?_
  refine J.iconst (v := 0) dX10_asksKin_0 (by decide) ?_
  refine J.istore_n (vs' := [some (.ref (eB E + t)), some (.int 0)]) dX10_asksKin_1 rfl (by decide) rfl ?_
  exact hW
set_option maxRecDepth 100000 in
set_option maxHeartbeats 4000000 in
theorem w_X10_asksKin_2 {E : Envt} {d : Nat} {Q : Pst} {h : mS} {I : mI} {L : mL} (hs : SL h) {t nl nt : Nat} (ht : LT h t nl nt)  (x1 : Int32)
    (hW : ((((Int32.ofNat nt) ≤ x1) → Q (some (.int 0)) h I L) ∧ (¬ ((Int32.ofNat nt) ≤ x1) → (vp_in x1 nt ∧ ((((I (t + 4) x1.toNatClampNeg) = 6) → Q (some (.int 1)) h I L) ∧ (¬ ((I (t + 4) x1.toNatClampNeg) = 6) → J E mX10_asksKin d Q 0 0 2 [some (.ref (eB E + t)), some (.int (x1 + 1))] [] h I L)))))) :
    J E mX10_asksKin d Q 0 0 2 [some (.ref (eB E + t)), some (.int x1)] [] h I L := by
  refine J.iload_n dX10_asksKin_2 rfl rfl ?_
  refine J.aload_n dX10_asksKin_3 rfl rfl ?_
  refine J.getR (r := t + 4) fl_X10_25 rfl dX10_asksKin_4 ht.l0 ht.k0 ht.r4 ?_
  refine J.alen (v := Int32.ofNat nt) dX10_asksKin_7 ht.l4 ht.k4 (by decide) (by rfl) ?_
  refine J.ic_ge 30 dX10_asksKin_8 (by decide) (fun hc1 => ?_) (fun hc1 => ?_)
  · have hW := hW.1 hc1
    refine J.iconst (v := 0) dX10_asksKin_30 (by decide) ?_
    exact J.reti dX10_asksKin_31 rfl (bz_nar (Or.inl rfl)) hW
  · have hW := hW.2 hc1
    refine J.aload_n dX10_asksKin_11 rfl rfl ?_
    refine J.getR (r := t + 4) fl_X10_25 rfl dX10_asksKin_12 ht.l0 ht.k0 ht.r4 ?_
    refine J.iload_n dX10_asksKin_15 rfl rfl ?_
    obtain ⟨hb2, hW⟩ := hW
    refine J.iald (x := I (t + 4) x1.toNatClampNeg) dX10_asksKin_16 ht.l4 ht.k4 hb2 rfl ?_
    refine J.bipush (v := 6) dX10_asksKin_17 (by decide) ?_
    refine J.ic_ne 24 dX10_asksKin_19 (by decide) (fun hc3 => ?_) (fun hc3 => ?_)
    · have hW := hW.2 hc3
      refine J.iinc (v := x1 + 1) (vs' := [some (.ref (eB E + t)), some (.int (x1 + 1))]) dX10_asksKin_24 rfl (by rfl) (by decide) rfl ?_
      refine J.goto 2 dX10_asksKin_27 (by decide) ?_
      exact hW
    · have hW := hW.1 hc3
      refine J.iconst (v := 1) dX10_asksKin_22 (by decide) ?_
      exact J.reti dX10_asksKin_23 rfl (bz_nar (Or.inr rfl)) hW
set_option maxRecDepth 100000 in
set_option maxHeartbeats 4000000 in
theorem w_X11_clearRow {E : Envt} {d : Nat} {Q : Pst} {h : mS} {I : mI} {L : mL} (hs : SL h) {a0 n0 : Nat} (x1 : Int32) (x2 : Int32) (hl0 : a0 < h.2.2) (hk0 : h.1 a0 = (14, n0))
    (hW : J E mX11_clearRow d Q 0 0 2 [some (.ref (eB E + a0)), some (.int x1), some (.int x2), some (.int x1)] [] h I L) :
    CT E mX11_clearRow d 0 0 [.ref (eB E + a0), .int x1, .int x2] h I L Q := by
  refine CT.of (by decide) [some (.ref (eB E + a0)), some (.int x1), some (.int x2), none] rfl (Nat.le_of_ble_eq_true rfl) ?_
  refine J.iload_n dX11_clearRow_0 rfl rfl ?_
  refine J.istore_n (vs' := [some (.ref (eB E + a0)), some (.int x1), some (.int x2), some (.int x1)]) dX11_clearRow_1 rfl (by decide) rfl ?_
  exact hW
set_option maxRecDepth 100000 in
set_option maxHeartbeats 4000000 in
theorem w_X11_clearRow_2 {E : Envt} {d : Nat} {Q : Pst} {h : mS} {I : mI} {L : mL} (hs : SL h) {a0 n0 : Nat} (hl0 : a0 < h.2.2) (hk0 : h.1 a0 = (14, n0))  (x1 : Int32) (x2 : Int32) (x3 : Int32)
    (hW : ((((x1 + x2) ≤ x3) → Q none h I L) ∧ (¬ ((x1 + x2) ≤ x3) → ((((Int32.ofNat n0) ≤ x3) → Q none h I L) ∧ (¬ ((Int32.ofNat n0) ≤ x3) → (vp_in x3 n0 ∧ J E mX11_clearRow d Q 0 0 2 [some (.ref (eB E + a0)), some (.int x1), some (.int x2), some (.int (x3 + 1))] [] h (uI I a0 x3.toNatClampNeg (-1)) L)))))) :
    J E mX11_clearRow d Q 0 0 2 [some (.ref (eB E + a0)), some (.int x1), some (.int x2), some (.int x3)] [] h I L := by
  refine J.iload_n dX11_clearRow_2 rfl rfl ?_
  refine J.iload_n dX11_clearRow_3 rfl rfl ?_
  refine J.iload_n dX11_clearRow_4 rfl rfl ?_
  refine J.iadd dX11_clearRow_5 ?_
  refine J.ic_ge 25 dX11_clearRow_6 (by decide) (fun hc1 => ?_) (fun hc1 => ?_)
  · have hW := hW.1 hc1
    exact J.retv dX11_clearRow_25 rfl hW
  · have hW := hW.2 hc1
    refine J.iload_n dX11_clearRow_9 rfl rfl ?_
    refine J.aload_n dX11_clearRow_10 rfl rfl ?_
    refine J.alen (v := Int32.ofNat n0) dX11_clearRow_11 hl0 hk0 (by decide) (by rfl) ?_
    refine J.ic_ge 25 dX11_clearRow_12 (by decide) (fun hc2 => ?_) (fun hc2 => ?_)
    · have hW := hW.1 hc2
      exact J.retv dX11_clearRow_25 rfl hW
    · have hW := hW.2 hc2
      refine J.aload_n dX11_clearRow_15 rfl rfl ?_
      refine J.iload_n dX11_clearRow_16 rfl rfl ?_
      refine J.iconst (v := (-1)) dX11_clearRow_17 (by decide) ?_
      obtain ⟨hb3, hW⟩ := hW
      refine J.iast dX11_clearRow_18 hl0 hk0 hb3 ?_
      refine J.iinc (v := x3 + 1) (vs' := [some (.ref (eB E + a0)), some (.int x1), some (.int x2), some (.int (x3 + 1))]) dX11_clearRow_19 rfl (by rfl) (by decide) rfl ?_
      refine J.goto 2 dX11_clearRow_22 (by decide) ?_
      exact hW
set_option maxRecDepth 100000 in
set_option maxHeartbeats 4000000 in
theorem w_X5_yearIn {E : Envt} {d : Nat} {Q : Pst} {h : mS} {I : mI} {L : mL} (hs : SL h) (x1 : Int32) (x2 : Int32) 
    (hW : (vp_in x1 60 ∧ (vp_in (((I 20 x1.toNatClampNeg) * 5) + x2) 25 ∧ (∀ y3 : Int32, y3 = I 23 ((((I 20 x1.toNatClampNeg) * 5) + x2).toNatClampNeg) → Q (some (.int (if y3 = (-1) then (-1) else (I 21 x1.toNatClampNeg) + y3 : Int32))) h I L)))) :
    CT E mX5_yearIn d 0 0 [.ref (eB E + 17), .int x1, .int x2] h I L Q := by
  refine CT.of (by decide) [some (.ref (eB E + 17)), some (.int x1), some (.int x2), none] rfl (Nat.le_of_ble_eq_true rfl) ?_
  refine J.aload_n dX5_yearIn_0 rfl rfl ?_
  refine J.getR (r := 23) fl_X5_27 rfl dX5_yearIn_1 (lt17 hs) (kk17 hs) (rr17_6 hs) ?_
  refine J.aload_n dX5_yearIn_4 rfl rfl ?_
  refine J.getR (r := 20) fl_X5_18 rfl dX5_yearIn_5 (lt17 hs) (kk17 hs) (rr17_3 hs) ?_
  refine J.iload_n dX5_yearIn_8 rfl rfl ?_
  obtain ⟨hb1, hW⟩ := hW
  refine J.iald (x := I 20 x1.toNatClampNeg) dX5_yearIn_9 (lt20 hs) (kk20 hs) hb1 rfl ?_
  refine J.iconst (v := 5) dX5_yearIn_10 (by decide) ?_
  refine J.imul dX5_yearIn_11 ?_
  refine J.iload_n dX5_yearIn_12 rfl rfl ?_
  refine J.iadd dX5_yearIn_13 ?_
  obtain ⟨hb2, hW⟩ := hW
  refine J.iald (x := I 23 ((((I 20 x1.toNatClampNeg) * 5) + x2).toNatClampNeg)) dX5_yearIn_14 (lt23 hs) (kk23 hs) hb2 rfl ?_
  refine J.topi (fun y3 hyy3 => ?_)
  have hW := hW y3 hyy3
  refine J.istore_n (vs' := [some (.ref (eB E + 17)), some (.int x1), some (.int x2), some (.int y3)]) dX5_yearIn_15 rfl (by decide) rfl ?_
  refine J.iload_n dX5_yearIn_16 rfl rfl ?_
  refine J.iconst (v := (-1)) dX5_yearIn_17 (by decide) ?_
  have hj : J E mX5_yearIn d Q 0 0 33 [some (.ref (eB E + 17)), some (.int x1), some (.int x2), some (.int y3)] [.int (if y3 = (-1) then (-1) else (I 21 x1.toNatClampNeg) + y3 : Int32)] h I L := by
    exact J.reti dX5_yearIn_33 rfl rfl hW
  refine J.ic_ne 25 dX5_yearIn_18 (by decide) (fun hc4 => ?_) (fun hc4 => ?_)
  · refine J.aload_n dX5_yearIn_25 rfl rfl ?_
    refine J.getR (r := 21) fl_X5_21 rfl dX5_yearIn_26 (lt17 hs) (kk17 hs) (rr17_4 hs) ?_
    refine J.iload_n dX5_yearIn_29 rfl rfl ?_
    refine J.iald (x := I 21 x1.toNatClampNeg) dX5_yearIn_30 (lt21 hs) (kk21 hs) hb1 rfl ?_
    refine J.iload_n dX5_yearIn_31 rfl rfl ?_
    refine J.iadd dX5_yearIn_32 ?_
    rw [show ((if y3 = (-1) then (-1) else (I 21 x1.toNatClampNeg) + y3 : Int32) = (I 21 x1.toNatClampNeg) + y3) from by simp only [eq_false hc4, if_true, if_false, bI_true, bI_false, and_true, true_and, and_false, false_and, or_true, true_or, or_false, false_or, not_true_eq_false, not_false_eq_true]] at hj
    exact hj
  · refine J.iconst (v := (-1)) dX5_yearIn_21 (by decide) ?_
    refine J.goto 33 dX5_yearIn_22 (by decide) ?_
    rw [show ((if y3 = (-1) then (-1) else (I 21 x1.toNatClampNeg) + y3 : Int32) = (-1)) from by simp only [eq_true hc4, if_true, if_false, bI_true, bI_false, and_true, true_and, and_false, false_and, or_true, true_or, or_false, false_or, not_true_eq_false, not_false_eq_true]] at hj
    exact hj
set_option maxRecDepth 100000 in
set_option maxHeartbeats 4000000 in
theorem w_X3_fill {E : Envt} {d : Nat} {Q : Pst} {h : mS} {I : mI} {L : mL} (hs : SL h) (x1 : Int32) (x2 : Int32) 
    (hW : (vp_in x1 5 ∧ (CT E mX11_clearRow d 0 0 [.ref (eB E + 58), .int (I 56 7), .int 40] h (uI I 57 x1.toNatClampNeg x2) L (qv h L fun I2 => J E mX3_fill (d + 1) Q 0 0 31 [some (.ref (eB E + 56)), some (.int x1), some (.int x2), some (.ref (eB E + 17)), some (.int 0), none, none] [] h I2 L)))) :
    CT E mX3_fill (d + 1) 0 0 [.ref (eB E + 56), .int x1, .int x2] h I L Q := by
  refine CT.of (by decide) [some (.ref (eB E + 56)), some (.int x1), some (.int x2), none, none, none, none] rfl (Nat.le_of_ble_eq_true rfl) ?_
  refine J.aload_n dX3_fill_0 rfl rfl ?_
  refine J.getR (r := 57) fl_X3_11 rfl dX3_fill_1 (lt56 hs) (kk56 hs) (rr56_1 hs) ?_
  refine J.iload_n dX3_fill_4 rfl rfl ?_
  refine J.iload_n dX3_fill_5 rfl rfl ?_
  obtain ⟨hb1, hW⟩ := hW
  refine J.iast dX3_fill_6 (lt57 hs) (kk57 hs) hb1 ?_
  refine J.aload_n dX3_fill_7 rfl rfl ?_
  refine J.getR (r := 58) fl_X3_15 rfl dX3_fill_8 (lt56 hs) (kk56 hs) (rr56_2 hs) ?_
  refine J.aload_n dX3_fill_11 rfl rfl ?_
  refine J.getI (x := I 56 7) fl_X3_52 rfl dX3_fill_12 (lt56 hs) (kk56 hs) rfl ?_
  refine J.bipush (v := 40) dX3_fill_15 (by decide) ?_
  refine J.callSN (M' := mX11_clearRow) (index := 78) (bc := 0) (bs := 0) (bc' := 0) (bs' := 0) (st := []) [.ref (eB E + 58), .int (I 56 7), .int 40] nk_X3_78 cv_X11_clearRow dX3_fill_17 rfl rfl (Nat.le_of_ble_eq_true rfl) (kqv hW (fun I2 hW => ?_))
  refine J.aload_n dX3_fill_20 rfl rfl ?_
  refine J.getR (r := 1) fl_X3_30 rfl dX3_fill_21 (lt56 hs) (kk56 hs) (rr56_0 hs) ?_
  refine J.getR (r := 17) fl_X3_82 rfl dX3_fill_24 (lt1 hs) (kk1 hs) (rr1_3 hs) ?_
  refine J.astore_n (vs' := [some (.ref (eB E + 56)), some (.int x1), some (.int x2), some (.ref (eB E + 17)), none, none, none]) dX3_fill_27 rfl (by decide) rfl ?_
  refine J.iconst (v := 0) dX3_fill_28 (by decide) ?_
  refine J.istore (vs' := [some (.ref (eB E + 56)), some (.int x1), some (.int x2), some (.ref (eB E + 17)), some (.int 0), none, none]) dX3_fill_29 (by decide) rfl ?_
  exact hW
set_option maxRecDepth 100000 in
set_option maxHeartbeats 4000000 in
theorem w_X3_fill_31 {E : Envt} {d : Nat} {Q : Pst} {h : mS} {I : mI} {L : mL} (hs : SL h)    (x1 : Int32) (x2 : Int32) (x4 : Int32)
    (hW : ((((I 17 0) ≤ x4) → Q none h I L) ∧ (¬ ((I 17 0) ≤ x4) → (CT E mX5_yearIn d 0 0 [.ref (eB E + 17), .int x4, .int x1] h I L (qi h L fun r3 I2 => (((r3 = (-1)) → J E mX3_fill (d + 1) Q 0 0 31 [some (.ref (eB E + 56)), some (.int x1), some (.int x2), some (.ref (eB E + 17)), some (.int (x4 + 1)), none, none] [] h I2 L) ∧ (¬ (r3 = (-1)) → (((x2 < r3) → J E mX3_fill (d + 1) Q 0 0 31 [some (.ref (eB E + 56)), some (.int x1), some (.int x2), some (.ref (eB E + 17)), some (.int (x4 + 1)), none, none] [] h I2 L) ∧ (¬ (x2 < r3) → (vp_in x4 60 ∧ (∀ y7 : Int32, y7 = I2 19 x4.toNatClampNeg → (vp_in y7 20 ∧ (vp_in (((I2 56 7) + ((I2 18 x4.toNatClampNeg) * 2)) + (I2 9 y7.toNatClampNeg)) 200 ∧ J E mX3_fill (d + 1) Q 0 0 31 [some (.ref (eB E + 56)), some (.int x1), some (.int x2), some (.ref (eB E + 17)), some (.int (x4 + 1)), none, none] [] h (uI I2 58 ((((I2 56 7) + ((I2 18 x4.toNatClampNeg) * 2)) + (I2 9 y7.toNatClampNeg)).toNatClampNeg) y7) L))))))))))))) :
    J E mX3_fill (d + 1) Q 0 0 31 [some (.ref (eB E + 56)), some (.int x1), some (.int x2), some (.ref (eB E + 17)), some (.int x4), none, none] [] h I L := by
  refine J.iload dX3_fill_31 rfl ?_
  refine J.aload_n dX3_fill_33 rfl rfl ?_
  refine J.getI (x := I 17 0) fl_X3_86 rfl dX3_fill_34 (lt17 hs) (kk17 hs) rfl ?_
  refine J.ic_ge 111 dX3_fill_37 (by decide) (fun hc1 => ?_) (fun hc1 => ?_)
  · have hW := hW.1 hc1
    exact J.retv dX3_fill_111 rfl hW
  · have hW := hW.2 hc1
    refine J.aload_n dX3_fill_40 rfl rfl ?_
    refine J.iload dX3_fill_41 rfl ?_
    refine J.iload_n dX3_fill_43 rfl rfl ?_
    refine J.callV (M' := mX5_yearIn) (index := 89) (bc := 0) (bs := 0) (bc' := 0) (bs' := 0) (st := []) [.int x4, .int x1] ml_X3_89 cv_X5_yearIn dX3_fill_44 (lt17 hs) (kk17 hs) (by decide) rfl rfl rfl rfl (Nat.le_of_ble_eq_true rfl) (kqi hW (fun r3 I2 hW => ?_))
    refine J.istore (vs' := [some (.ref (eB E + 56)), some (.int x1), some (.int x2), some (.ref (eB E + 17)), some (.int x4), some (.int r3), none]) dX3_fill_47 (by decide) rfl ?_
    refine J.iload dX3_fill_49 rfl ?_
    refine J.iconst (v := (-1)) dX3_fill_51 (by decide) ?_
    refine J.ic_eq 105 dX3_fill_52 (by decide) (fun hc4 => ?_) (fun hc4 => ?_)
    · have hW := hW.1 hc4
      refine J.iinc (v := x4 + 1) (vs' := [some (.ref (eB E + 56)), some (.int x1), some (.int x2), some (.ref (eB E + 17)), some (.int (x4 + 1)), some (.int r3), none]) dX3_fill_105 rfl (by rfl) (by decide) rfl ?_
      refine J.goto 31 dX3_fill_108 (by decide) ?_
      exact J.mask [true, true, true, true, true, false, false] rfl hW
    · have hW := hW.2 hc4
      refine J.iload dX3_fill_55 rfl ?_
      refine J.iload_n dX3_fill_57 rfl rfl ?_
      refine J.ic_gt 105 dX3_fill_58 (by decide) (fun hc5 => ?_) (fun hc5 => ?_)
      · have hW := hW.1 hc5
        refine J.iinc (v := x4 + 1) (vs' := [some (.ref (eB E + 56)), some (.int x1), some (.int x2), some (.ref (eB E + 17)), some (.int (x4 + 1)), some (.int r3), none]) dX3_fill_105 rfl (by rfl) (by decide) rfl ?_
        refine J.goto 31 dX3_fill_108 (by decide) ?_
        exact J.mask [true, true, true, true, true, false, false] rfl hW
      · have hW := hW.2 hc5
        refine J.aload_n dX3_fill_61 rfl rfl ?_
        refine J.getR (r := 19) fl_X3_92 rfl dX3_fill_62 (lt17 hs) (kk17 hs) (rr17_2 hs) ?_
        refine J.iload dX3_fill_65 rfl ?_
        obtain ⟨hb6, hW⟩ := hW
        refine J.iald (x := I2 19 x4.toNatClampNeg) dX3_fill_67 (lt19 hs) (kk19 hs) hb6 rfl ?_
        refine J.topi (fun y7 hyy7 => ?_)
        have hW := hW y7 hyy7
        refine J.istore (vs' := [some (.ref (eB E + 56)), some (.int x1), some (.int x2), some (.ref (eB E + 17)), some (.int x4), some (.int r3), some (.int y7)]) dX3_fill_68 (by decide) rfl ?_
        refine J.aload_n dX3_fill_70 rfl rfl ?_
        refine J.getR (r := 58) fl_X3_15 rfl dX3_fill_71 (lt56 hs) (kk56 hs) (rr56_2 hs) ?_
        refine J.aload_n dX3_fill_74 rfl rfl ?_
        refine J.getI (x := I2 56 7) fl_X3_52 rfl dX3_fill_75 (lt56 hs) (kk56 hs) rfl ?_
        refine J.aload_n dX3_fill_78 rfl rfl ?_
        refine J.getR (r := 18) fl_X3_95 rfl dX3_fill_79 (lt17 hs) (kk17 hs) (rr17_1 hs) ?_
        refine J.iload dX3_fill_82 rfl ?_
        refine J.iald (x := I2 18 x4.toNatClampNeg) dX3_fill_84 (lt18 hs) (kk18 hs) hb6 rfl ?_
        refine J.iconst (v := 2) dX3_fill_85 (by decide) ?_
        refine J.imul dX3_fill_86 ?_
        refine J.iadd dX3_fill_87 ?_
        refine J.aload_n dX3_fill_88 rfl rfl ?_
        refine J.getR (r := 1) fl_X3_30 rfl dX3_fill_89 (lt56 hs) (kk56 hs) (rr56_0 hs) ?_
        refine J.getR (r := 7) fl_X3_63 rfl dX3_fill_92 (lt1 hs) (kk1 hs) (rr1_2 hs) ?_
        refine J.getR (r := 9) fl_X3_98 rfl dX3_fill_95 (lt7 hs) (kk7 hs) (rr7_2 hs) ?_
        refine J.iload dX3_fill_98 rfl ?_
        obtain ⟨hb8, hW⟩ := hW
        refine J.iald (x := I2 9 y7.toNatClampNeg) dX3_fill_100 (lt9 hs) (kk9 hs) hb8 rfl ?_
        refine J.iadd dX3_fill_101 ?_
        refine J.iload dX3_fill_102 rfl ?_
        obtain ⟨hb9, hW⟩ := hW
        refine J.iast dX3_fill_104 (lt58 hs) (kk58 hs) hb9 ?_
        refine J.iinc (v := x4 + 1) (vs' := [some (.ref (eB E + 56)), some (.int x1), some (.int x2), some (.ref (eB E + 17)), some (.int (x4 + 1)), some (.int r3), some (.int y7)]) dX3_fill_105 rfl (by rfl) (by decide) rfl ?_
        refine J.goto 31 dX3_fill_108 (by decide) ?_
        exact J.mask [true, true, true, true, true, false, false] rfl hW
set_option maxRecDepth 100000 in
set_option maxHeartbeats 4000000 in
theorem w_X3_climb {E : Envt} {d : Nat} {Q : Pst} {h : mS} {I : mI} {L : mL} (hs : SL h) (x1 : Int32) {a2 n2 : Nat} (hl2 : a2 < h.2.2) (hk2 : h.1 a2 = (14, n2))
    (hW : (CT E mJ7_fill_53178 d 0 0 [.ref (eB E + a2), .int (-1)] h I L (qv h L fun I1 => (vp_in x1 n2 ∧ J E mX3_climb (d + 1) Q 0 0 21 [some (.ref (eB E + 56)), some (.int x1), some (.ref (eB E + a2)), some (.int 1), some (.int 0), none, none, none] [] h (uI (uI I1 a2 x1.toNatClampNeg 0) 62 0 x1) L)))) :
    CT E mX3_climb (d + 1) 0 0 [.ref (eB E + 56), .int x1, .ref (eB E + a2)] h I L Q := by
  refine CT.of (by decide) [some (.ref (eB E + 56)), some (.int x1), some (.ref (eB E + a2)), none, none, none, none, none] rfl (Nat.le_of_ble_eq_true rfl) ?_
  refine J.aload_n dX3_climb_0 rfl rfl ?_
  refine J.iconst (v := (-1)) dX3_climb_1 (by decide) ?_
  refine J.callS (M' := mJ7_fill_53178) (index := 34) (bc := 0) (bs := 0) (bc' := 0) (bs' := 0) (st := []) [.ref (eB E + a2), .int (-1)] ml_X3_34 cv_J7_fill_53178 dX3_climb_2 rfl rfl (Nat.le_of_ble_eq_true rfl) (kqv hW (fun I1 hW => ?_))
  refine J.aload_n dX3_climb_5 rfl rfl ?_
  refine J.iload_n dX3_climb_6 rfl rfl ?_
  refine J.iconst (v := 0) dX3_climb_7 (by decide) ?_
  obtain ⟨hb2, hW⟩ := hW
  refine J.iast dX3_climb_8 hl2 hk2 hb2 ?_
  refine J.aload_n dX3_climb_9 rfl rfl ?_
  refine J.getR (r := 62) fl_X3_27 rfl dX3_climb_10 (lt56 hs) (kk56 hs) (rr56_6 hs) ?_
  refine J.iconst (v := 0) dX3_climb_13 (by decide) ?_
  refine J.iload_n dX3_climb_14 rfl rfl ?_
  refine J.iast dX3_climb_15 (lt62 hs) (kk62 hs) (by unfold vp_in; decide) ?_
  refine J.iconst (v := 1) dX3_climb_16 (by decide) ?_
  refine J.istore_n (vs' := [some (.ref (eB E + 56)), some (.int x1), some (.ref (eB E + a2)), some (.int 1), none, none, none, none]) dX3_climb_17 rfl (by decide) rfl ?_
  refine J.iconst (v := 0) dX3_climb_18 (by decide) ?_
  refine J.istore (vs' := [some (.ref (eB E + 56)), some (.int x1), some (.ref (eB E + a2)), some (.int 1), some (.int 0), none, none, none]) dX3_climb_19 (by decide) rfl ?_
  exact hW
set_option maxRecDepth 100000 in
set_option maxHeartbeats 4000000 in
theorem w_X3_climb_21 {E : Envt} {d : Nat} {Q : Pst} {h : mS} {I : mI} {L : mL} (hs : SL h) {a2 n2 : Nat} (hl2 : a2 < h.2.2) (hk2 : h.1 a2 = (14, n2))  (x1 : Int32) (x3 : Int32) (x4 : Int32)
    (hW : (((x3 ≤ x4) → Q none h I L) ∧ (¬ (x3 ≤ x4) → (((20 ≤ x4) → Q none h I L) ∧ (¬ (20 ≤ x4) → (vp_in x4 20 ∧ (∀ y4 : Int32, y4 = (I 56 7) + ((I 62 x4.toNatClampNeg) * 2) → J E mX3_climb (d + 1) Q 0 0 54 [some (.ref (eB E + 56)), some (.int x1), some (.ref (eB E + a2)), some (.int x3), some (.int x4), some (.int y4), some (.int y4), none] [] h I L))))))) :
    J E mX3_climb (d + 1) Q 0 0 21 [some (.ref (eB E + 56)), some (.int x1), some (.ref (eB E + a2)), some (.int x3), some (.int x4), none, none, none] [] h I L := by
  refine J.iload dX3_climb_21 rfl ?_
  refine J.iload_n dX3_climb_23 rfl rfl ?_
  refine J.ic_ge 130 dX3_climb_24 (by decide) (fun hc1 => ?_) (fun hc1 => ?_)
  · have hW := hW.1 hc1
    exact J.retv dX3_climb_130 rfl hW
  · have hW := hW.2 hc1
    refine J.iload dX3_climb_27 rfl ?_
    refine J.bipush (v := 20) dX3_climb_29 (by decide) ?_
    refine J.ic_ge 130 dX3_climb_31 (by decide) (fun hc2 => ?_) (fun hc2 => ?_)
    · have hW := hW.1 hc2
      exact J.retv dX3_climb_130 rfl hW
    · have hW := hW.2 hc2
      refine J.aload_n dX3_climb_34 rfl rfl ?_
      refine J.getI (x := I 56 7) fl_X3_52 rfl dX3_climb_35 (lt56 hs) (kk56 hs) rfl ?_
      refine J.aload_n dX3_climb_38 rfl rfl ?_
      refine J.getR (r := 62) fl_X3_27 rfl dX3_climb_39 (lt56 hs) (kk56 hs) (rr56_6 hs) ?_
      refine J.iload dX3_climb_42 rfl ?_
      obtain ⟨hb3, hW⟩ := hW
      refine J.iald (x := I 62 x4.toNatClampNeg) dX3_climb_44 (lt62 hs) (kk62 hs) hb3 rfl ?_
      refine J.iconst (v := 2) dX3_climb_45 (by decide) ?_
      refine J.imul dX3_climb_46 ?_
      refine J.iadd dX3_climb_47 ?_
      refine J.topi (fun y4 hyy4 => ?_)
      have hW := hW y4 hyy4
      refine J.istore (vs' := [some (.ref (eB E + 56)), some (.int x1), some (.ref (eB E + a2)), some (.int x3), some (.int x4), some (.int y4), none, none]) dX3_climb_48 (by decide) rfl ?_
      refine J.iload dX3_climb_50 rfl ?_
      refine J.istore (vs' := [some (.ref (eB E + 56)), some (.int x1), some (.ref (eB E + a2)), some (.int x3), some (.int x4), some (.int y4), some (.int y4), none]) dX3_climb_52 (by decide) rfl ?_
      exact hW
set_option maxRecDepth 100000 in
set_option maxHeartbeats 4000000 in
theorem w_X3_climb_54 {E : Envt} {d : Nat} {Q : Pst} {h : mS} {I : mI} {L : mL} (hs : SL h) {a2 n2 : Nat} (hl2 : a2 < h.2.2) (hk2 : h.1 a2 = (14, n2))  (x1 : Int32) (x3 : Int32) (x4 : Int32) (x5 : Int32) (x6 : Int32)
    (hW : ((((x5 + 2) ≤ x6) → J E mX3_climb (d + 1) Q 0 0 21 [some (.ref (eB E + 56)), some (.int x1), some (.ref (eB E + a2)), some (.int x3), some (.int (x4 + 1)), none, none, none] [] h I L) ∧ (¬ ((x5 + 2) ≤ x6) → (vp_in x6 200 ∧ (∀ y3 : Int32, y3 = I 58 x6.toNatClampNeg → (((y3 = (-1)) → J E mX3_climb (d + 1) Q 0 0 54 [some (.ref (eB E + 56)), some (.int x1), some (.ref (eB E + a2)), some (.int x3), some (.int x4), some (.int x5), some (.int (x6 + 1)), none] [] h I L) ∧ (¬ (y3 = (-1)) → (vp_in y3 n2 ∧ ((((I a2 y3.toNatClampNeg) = (-1)) → (((20 ≤ x3) → J E mX3_climb (d + 1) Q 0 0 54 [some (.ref (eB E + 56)), some (.int x1), some (.ref (eB E + a2)), some (.int x3), some (.int x4), some (.int x5), some (.int (x6 + 1)), none] [] h I L) ∧ (¬ (20 ≤ x3) → (vp_in x4 20 ∧ (vp_in (I 62 x4.toNatClampNeg) n2 ∧ (vp_in x3 20 ∧ J E mX3_climb (d + 1) Q 0 0 54 [some (.ref (eB E + 56)), some (.int x1), some (.ref (eB E + a2)), some (.int (x3 + 1)), some (.int x4), some (.int x5), some (.int (x6 + 1)), none] [] h (uI (uI I a2 y3.toNatClampNeg ((I a2 ((I 62 x4.toNatClampNeg).toNatClampNeg)) + 1)) 62 x3.toNatClampNeg y3) L)))))) ∧ (¬ ((I a2 y3.toNatClampNeg) = (-1)) → J E mX3_climb (d + 1) Q 0 0 54 [some (.ref (eB E + 56)), some (.int x1), some (.ref (eB E + a2)), some (.int x3), some (.int x4), some (.int x5), some (.int (x6 + 1)), none] [] h I L)))))))))) :
    J E mX3_climb (d + 1) Q 0 0 54 [some (.ref (eB E + 56)), some (.int x1), some (.ref (eB E + a2)), some (.int x3), some (.int x4), some (.int x5), some (.int x6), none] [] h I L := by
  refine J.iload dX3_climb_54 rfl ?_
  refine J.iload dX3_climb_56 rfl ?_
  refine J.iconst (v := 2) dX3_climb_58 (by decide) ?_
  refine J.iadd dX3_climb_59 ?_
  refine J.ic_ge 124 dX3_climb_60 (by decide) (fun hc1 => ?_) (fun hc1 => ?_)
  · have hW := hW.1 hc1
    refine J.iinc (v := x4 + 1) (vs' := [some (.ref (eB E + 56)), some (.int x1), some (.ref (eB E + a2)), some (.int x3), some (.int (x4 + 1)), some (.int x5), some (.int x6), none]) dX3_climb_124 rfl (by rfl) (by decide) rfl ?_
    refine J.goto 21 dX3_climb_127 (by decide) ?_
    exact J.mask [true, true, true, true, true, false, false, false] rfl hW
  · have hW := hW.2 hc1
    refine J.aload_n dX3_climb_63 rfl rfl ?_
    refine J.getR (r := 58) fl_X3_15 rfl dX3_climb_64 (lt56 hs) (kk56 hs) (rr56_2 hs) ?_
    refine J.iload dX3_climb_67 rfl ?_
    obtain ⟨hb2, hW⟩ := hW
    refine J.iald (x := I 58 x6.toNatClampNeg) dX3_climb_69 (lt58 hs) (kk58 hs) hb2 rfl ?_
    refine J.topi (fun y3 hyy3 => ?_)
    have hW := hW y3 hyy3
    refine J.istore (vs' := [some (.ref (eB E + 56)), some (.int x1), some (.ref (eB E + a2)), some (.int x3), some (.int x4), some (.int x5), some (.int x6), some (.int y3)]) dX3_climb_70 (by decide) rfl ?_
    refine J.iload dX3_climb_72 rfl ?_
    refine J.iconst (v := (-1)) dX3_climb_74 (by decide) ?_
    refine J.ic_eq 118 dX3_climb_75 (by decide) (fun hc4 => ?_) (fun hc4 => ?_)
    · have hW := hW.1 hc4
      refine J.iinc (v := x6 + 1) (vs' := [some (.ref (eB E + 56)), some (.int x1), some (.ref (eB E + a2)), some (.int x3), some (.int x4), some (.int x5), some (.int (x6 + 1)), some (.int y3)]) dX3_climb_118 rfl (by rfl) (by decide) rfl ?_
      refine J.goto 54 dX3_climb_121 (by decide) ?_
      exact J.mask [true, true, true, true, true, true, true, false] rfl hW
    · have hW := hW.2 hc4
      refine J.aload_n dX3_climb_78 rfl rfl ?_
      refine J.iload dX3_climb_79 rfl ?_
      obtain ⟨hb5, hW⟩ := hW
      refine J.iald (x := I a2 y3.toNatClampNeg) dX3_climb_81 hl2 hk2 hb5 rfl ?_
      refine J.iconst (v := (-1)) dX3_climb_82 (by decide) ?_
      refine J.ic_ne 118 dX3_climb_83 (by decide) (fun hc6 => ?_) (fun hc6 => ?_)
      · have hW := hW.2 hc6
        refine J.iinc (v := x6 + 1) (vs' := [some (.ref (eB E + 56)), some (.int x1), some (.ref (eB E + a2)), some (.int x3), some (.int x4), some (.int x5), some (.int (x6 + 1)), some (.int y3)]) dX3_climb_118 rfl (by rfl) (by decide) rfl ?_
        refine J.goto 54 dX3_climb_121 (by decide) ?_
        exact J.mask [true, true, true, true, true, true, true, false] rfl hW
      · have hW := hW.1 hc6
        refine J.iload_n dX3_climb_86 rfl rfl ?_
        refine J.bipush (v := 20) dX3_climb_87 (by decide) ?_
        refine J.ic_ge 118 dX3_climb_89 (by decide) (fun hc7 => ?_) (fun hc7 => ?_)
        · have hW := hW.1 hc7
          refine J.iinc (v := x6 + 1) (vs' := [some (.ref (eB E + 56)), some (.int x1), some (.ref (eB E + a2)), some (.int x3), some (.int x4), some (.int x5), some (.int (x6 + 1)), some (.int y3)]) dX3_climb_118 rfl (by rfl) (by decide) rfl ?_
          refine J.goto 54 dX3_climb_121 (by decide) ?_
          exact J.mask [true, true, true, true, true, true, true, false] rfl hW
        · have hW := hW.2 hc7
          refine J.aload_n dX3_climb_92 rfl rfl ?_
          refine J.iload dX3_climb_93 rfl ?_
          refine J.aload_n dX3_climb_95 rfl rfl ?_
          refine J.aload_n dX3_climb_96 rfl rfl ?_
          refine J.getR (r := 62) fl_X3_27 rfl dX3_climb_97 (lt56 hs) (kk56 hs) (rr56_6 hs) ?_
          refine J.iload dX3_climb_100 rfl ?_
          obtain ⟨hb8, hW⟩ := hW
          refine J.iald (x := I 62 x4.toNatClampNeg) dX3_climb_102 (lt62 hs) (kk62 hs) hb8 rfl ?_
          obtain ⟨hb9, hW⟩ := hW
          refine J.iald (x := I a2 ((I 62 x4.toNatClampNeg).toNatClampNeg)) dX3_climb_103 hl2 hk2 hb9 rfl ?_
          refine J.iconst (v := 1) dX3_climb_104 (by decide) ?_
          refine J.iadd dX3_climb_105 ?_
          refine J.iast dX3_climb_106 hl2 hk2 hb5 ?_
          refine J.aload_n dX3_climb_107 rfl rfl ?_
          refine J.getR (r := 62) fl_X3_27 rfl dX3_climb_108 (lt56 hs) (kk56 hs) (rr56_6 hs) ?_
          refine J.iload_n dX3_climb_111 rfl rfl ?_
          refine J.iload dX3_climb_112 rfl ?_
          obtain ⟨hb10, hW⟩ := hW
          refine J.iast dX3_climb_114 (lt62 hs) (kk62 hs) hb10 ?_
          refine J.iinc (v := x3 + 1) (vs' := [some (.ref (eB E + 56)), some (.int x1), some (.ref (eB E + a2)), some (.int (x3 + 1)), some (.int x4), some (.int x5), some (.int x6), some (.int y3)]) dX3_climb_115 rfl (by rfl) (by decide) rfl ?_
          refine J.iinc (v := x6 + 1) (vs' := [some (.ref (eB E + 56)), some (.int x1), some (.ref (eB E + a2)), some (.int (x3 + 1)), some (.int x4), some (.int x5), some (.int (x6 + 1)), some (.int y3)]) dX3_climb_118 rfl (by rfl) (by decide) rfl ?_
          refine J.goto 54 dX3_climb_121 (by decide) ?_
          exact J.mask [true, true, true, true, true, true, true, false] rfl hW
set_option maxRecDepth 100000 in
set_option maxHeartbeats 4000000 in
theorem w_X3_isNearer {E : Envt} {d : Nat} {Q : Pst} {h : mS} {I : mI} {L : mL} (hs : SL h) (x1 : Int32) (x2 : Int32) 
    (hW : (vp_in x1 20 ∧ (∀ y2 : Int32, y2 = (I 59 x1.toNatClampNeg) + (I 60 x1.toNatClampNeg) → (vp_in x2 20 ∧ (∀ y4 : Int32, y4 = (I 59 x2.toNatClampNeg) + (I 60 x2.toNatClampNeg) → Q (some (.int (bI ((y2 < y4) ∨ ((y2 = y4) ∧ (¬ ((I 59 x2.toNatClampNeg) ≤ (I 59 x1.toNatClampNeg)))))))) h I L))))) :
    CT E mX3_isNearer d 0 0 [.ref (eB E + 56), .int x1, .int x2] h I L Q := by
  refine CT.of (by decide) [some (.ref (eB E + 56)), some (.int x1), some (.int x2), none, none] rfl (Nat.le_of_ble_eq_true rfl) ?_
  refine J.aload_n dX3_isNearer_0 rfl rfl ?_
  refine J.getR (r := 59) fl_X3_18 rfl dX3_isNearer_1 (lt56 hs) (kk56 hs) (rr56_3 hs) ?_
  refine J.iload_n dX3_isNearer_4 rfl rfl ?_
  obtain ⟨hb1, hW⟩ := hW
  refine J.iald (x := I 59 x1.toNatClampNeg) dX3_isNearer_5 (lt59 hs) (kk59 hs) hb1 rfl ?_
  refine J.aload_n dX3_isNearer_6 rfl rfl ?_
  refine J.getR (r := 60) fl_X3_21 rfl dX3_isNearer_7 (lt56 hs) (kk56 hs) (rr56_4 hs) ?_
  refine J.iload_n dX3_isNearer_10 rfl rfl ?_
  refine J.iald (x := I 60 x1.toNatClampNeg) dX3_isNearer_11 (lt60 hs) (kk60 hs) hb1 rfl ?_
  refine J.iadd dX3_isNearer_12 ?_
  refine J.topi (fun y2 hyy2 => ?_)
  have hW := hW y2 hyy2
  refine J.istore_n (vs' := [some (.ref (eB E + 56)), some (.int x1), some (.int x2), some (.int y2), none]) dX3_isNearer_13 rfl (by decide) rfl ?_
  refine J.aload_n dX3_isNearer_14 rfl rfl ?_
  refine J.getR (r := 59) fl_X3_18 rfl dX3_isNearer_15 (lt56 hs) (kk56 hs) (rr56_3 hs) ?_
  refine J.iload_n dX3_isNearer_18 rfl rfl ?_
  obtain ⟨hb3, hW⟩ := hW
  refine J.iald (x := I 59 x2.toNatClampNeg) dX3_isNearer_19 (lt59 hs) (kk59 hs) hb3 rfl ?_
  refine J.aload_n dX3_isNearer_20 rfl rfl ?_
  refine J.getR (r := 60) fl_X3_21 rfl dX3_isNearer_21 (lt56 hs) (kk56 hs) (rr56_4 hs) ?_
  refine J.iload_n dX3_isNearer_24 rfl rfl ?_
  refine J.iald (x := I 60 x2.toNatClampNeg) dX3_isNearer_25 (lt60 hs) (kk60 hs) hb3 rfl ?_
  refine J.iadd dX3_isNearer_26 ?_
  refine J.topi (fun y4 hyy4 => ?_)
  have hW := hW y4 hyy4
  refine J.istore (vs' := [some (.ref (eB E + 56)), some (.int x1), some (.int x2), some (.int y2), some (.int y4)]) dX3_isNearer_27 (by decide) rfl ?_
  refine J.iload_n dX3_isNearer_29 rfl rfl ?_
  refine J.iload dX3_isNearer_30 rfl ?_
  have hj : J E mX3_isNearer d Q 0 0 61 [some (.ref (eB E + 56)), some (.int x1), some (.int x2), some (.int y2), some (.int y4)] [.int (bI ((y2 < y4) ∨ ((y2 = y4) ∧ (¬ ((I 59 x2.toNatClampNeg) ≤ (I 59 x1.toNatClampNeg))))))] h I L := by
    exact J.reti dX3_isNearer_61 rfl (bz_nar (bI_bz _)) hW
  refine J.ic_lt 56 dX3_isNearer_32 (by decide) (fun hc5 => ?_) (fun hc5 => ?_)
  · refine J.iconst (v := 1) dX3_isNearer_56 (by decide) ?_
    refine J.goto 61 dX3_isNearer_57 (by decide) ?_
    rw [show bI ((y2 < y4) ∨ ((y2 = y4) ∧ (¬ ((I 59 x2.toNatClampNeg) ≤ (I 59 x1.toNatClampNeg))))) = 1 from bI_t (by simp only [eq_true hc5, and_true, true_and, and_false, false_and, or_true, true_or, or_false, false_or, not_true_eq_false, not_false_eq_true])] at hj
    exact hj
  · refine J.iload_n dX3_isNearer_35 rfl rfl ?_
    refine J.iload dX3_isNearer_36 rfl ?_
    refine J.ic_ne 60 dX3_isNearer_38 (by decide) (fun hc6 => ?_) (fun hc6 => ?_)
    · refine J.iconst (v := 0) dX3_isNearer_60 (by decide) ?_
      rw [show bI ((y2 < y4) ∨ ((y2 = y4) ∧ (¬ ((I 59 x2.toNatClampNeg) ≤ (I 59 x1.toNatClampNeg))))) = 0 from bI_f (by simp only [eq_false hc5, eq_false hc6, and_true, true_and, and_false, false_and, or_true, true_or, or_false, false_or, not_true_eq_false, not_false_eq_true])] at hj
      exact hj
    · refine J.aload_n dX3_isNearer_41 rfl rfl ?_
      refine J.getR (r := 59) fl_X3_18 rfl dX3_isNearer_42 (lt56 hs) (kk56 hs) (rr56_3 hs) ?_
      refine J.iload_n dX3_isNearer_45 rfl rfl ?_
      refine J.iald (x := I 59 x1.toNatClampNeg) dX3_isNearer_46 (lt59 hs) (kk59 hs) hb1 rfl ?_
      refine J.aload_n dX3_isNearer_47 rfl rfl ?_
      refine J.getR (r := 59) fl_X3_18 rfl dX3_isNearer_48 (lt56 hs) (kk56 hs) (rr56_3 hs) ?_
      refine J.iload_n dX3_isNearer_51 rfl rfl ?_
      refine J.iald (x := I 59 x2.toNatClampNeg) dX3_isNearer_52 (lt59 hs) (kk59 hs) hb3 rfl ?_
      refine J.ic_ge 60 dX3_isNearer_53 (by decide) (fun hc7 => ?_) (fun hc7 => ?_)
      · refine J.iconst (v := 0) dX3_isNearer_60 (by decide) ?_
        rw [show bI ((y2 < y4) ∨ ((y2 = y4) ∧ (¬ ((I 59 x2.toNatClampNeg) ≤ (I 59 x1.toNatClampNeg))))) = 0 from bI_f (by simp only [eq_false hc5, eq_true hc6, eq_true hc7, and_true, true_and, and_false, false_and, or_true, true_or, or_false, false_or, not_true_eq_false, not_false_eq_true])] at hj
        exact hj
      · refine J.iconst (v := 1) dX3_isNearer_56 (by decide) ?_
        refine J.goto 61 dX3_isNearer_57 (by decide) ?_
        rw [show bI ((y2 < y4) ∨ ((y2 = y4) ∧ (¬ ((I 59 x2.toNatClampNeg) ≤ (I 59 x1.toNatClampNeg))))) = 1 from bI_t (by simp only [eq_false hc5, eq_true hc6, eq_false hc7, and_true, true_and, and_false, false_and, or_true, true_or, or_false, false_or, not_true_eq_false, not_false_eq_true])] at hj
        exact hj
