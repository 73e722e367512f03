set_option maxRecDepth 100000 in
set_option maxHeartbeats 4000000 in
theorem w_X12_person {E : Envt} {d : Nat} {Q : Pst} {h : mS} {I : mI} {L : mL} (hs : SL h) (x1 : Int32) (x2 : Int32) (x3 : Int32) (x4 : Int32) 
    (hW : ((((I 95 0) = 20) → Q (some (.int (-1))) h (uI I 83 0 0) L) ∧ (¬ ((I 95 0) = 20) → (((¬ (x1 < 0) ∧ (¬ ((((uI I 83 0 0) 90 0) - 1) < x1))) → (((¬ (x2 < 0) ∧ (¬ (1 < x2))) → (((¬ (x3 < 0) ∧ (¬ (7 < x3))) → (((¬ (x4 < (-80)) ∧ (¬ ((I 88 0) < x4))) → (vp_in (I 95 0) 80 ∧ Q (some (.int (I 95 0))) h (uI (uI (uI (uI (uI (uI (uI (uI (uI (uI I 83 0 0) 95 0 ((I 95 0) + 1)) 96 ((I 95 0).toNatClampNeg) x1) 97 ((I 95 0).toNatClampNeg) x2) 98 ((I 95 0).toNatClampNeg) x3) 99 ((I 95 0).toNatClampNeg) x4) 100 ((I 95 0).toNatClampNeg) 0) 101 ((I 95 0).toNatClampNeg) (-1)) 102 ((I 95 0).toNatClampNeg) 0) 103 ((I 95 0).toNatClampNeg) 0) L)) ∧ (¬ (¬ (x4 < (-80)) ∧ (¬ ((I 88 0) < x4))) → Q (some (.int (-1))) h (uI I 83 0 0) L))) ∧ (¬ (¬ (x3 < 0) ∧ (¬ (7 < x3))) → Q (some (.int (-1))) h (uI I 83 0 0) L))) ∧ (¬ (¬ (x2 < 0) ∧ (¬ (1 < x2))) → Q (some (.int (-1))) h (uI I 83 0 0) L))) ∧ (¬ (¬ (x1 < 0) ∧ (¬ ((((uI I 83 0 0) 90 0) - 1) < x1))) → Q (some (.int (-1))) h (uI I 83 0 0) L))))) :
    CT E mX12_person (d + 2) 0 0 [.ref (eB E + 83), .int x1, .int x2, .int x3, .int x4] h I L Q := by
  refine CT.of (by decide) [some (.ref (eB E + 83)), some (.int x1), some (.int x2), some (.int x3), some (.int x4), none] rfl (Nat.le_of_ble_eq_true rfl) ?_
  refine J.aload_n dX12_person_0 rfl rfl ?_
  refine J.iconst (v := 0) dX12_person_1 (by decide) ?_
  refine J.putI fw_X12_202 rfl dX12_person_2 (lt83 hs) (kk83 hs) ?_
  refine J.aload_n dX12_person_5 rfl rfl ?_
  refine J.getR (r := 95) fl_X12_44 rfl dX12_person_6 (lt83 hs) (kk83 hs) (rr83_12 hs) ?_
  refine J.iconst (v := 0) dX12_person_9 (by decide) ?_
  refine J.iald (x := I 95 0) dX12_person_10 (lt95 hs) (kk95 hs) (by unfold vp_in; decide) rfl ?_
  refine J.bipush (v := 20) dX12_person_11 (by decide) ?_
  refine J.ic_eq 59 dX12_person_13 (by decide) (fun hc1 => ?_) (fun hc1 => ?_)
  · have hW := hW.1 hc1
    refine J.iconst (v := (-1)) dX12_person_59 (by decide) ?_
    exact J.reti dX12_person_60 rfl rfl hW
  · have hW := hW.2 hc1
    refine J.aload_n dX12_person_16 rfl rfl ?_
    refine J.iload_n dX12_person_17 rfl rfl ?_
    refine J.callV (M' := mX12_isHouse) (index := 230) (bc := 0) (bs := 0) (bc' := 0) (bs' := 0) (st := []) [.int x1] ml_X12_230 cv_X12_isHouse dX12_person_18 (lt83 hs) (kk83 hs) (by decide) rfl rfl rfl rfl (Nat.le_of_ble_eq_true rfl) (kqi (w_X12_isHouse (d := d) (Q := qi h L (fun v I' => I' = (uI I 83 0 0) ∧ v = bI (¬ (x1 < 0) ∧ (¬ ((((uI I 83 0 0) 90 0) - 1) < x1))))) hs x1 ⟨rfl, rfl, _, rfl, rfl, rfl⟩) (fun v2 I3 hv => ?_))
    rw [hv.1, hv.2]
    refine J.if_eq 59 dX12_person_21 (by decide) (fun hc4 => ?_) (fun hc4 => ?_)
    · have hc4 := bI_0.mp hc4
      have hW := hW.2 hc4
      refine J.iconst (v := (-1)) dX12_person_59 (by decide) ?_
      exact J.reti dX12_person_60 rfl rfl hW
    · have hc4 := bI_n0.mp hc4
      have hW := hW.1 hc4
      refine J.iload_n dX12_person_24 rfl rfl ?_
      refine J.iconst (v := 0) dX12_person_25 (by decide) ?_
      refine J.iconst (v := 1) dX12_person_26 (by decide) ?_
      refine J.callS (M' := mX12_in) (index := 218) (bc := 0) (bs := 0) (bc' := 0) (bs' := 0) (st := []) [.int x2, .int 0, .int 1] ml_X12_218 cv_X12_in dX12_person_27 rfl rfl (Nat.le_of_ble_eq_true rfl) (kqi (w_X12_in (d := d + 1) (Q := qi h L (fun v I' => I' = (uI I 83 0 0) ∧ v = bI (¬ (x2 < 0) ∧ (¬ (1 < x2))))) hs x2 0 1 ⟨rfl, rfl, _, rfl, rfl, rfl⟩) (fun v5 I6 hv => ?_))
      rw [hv.1, hv.2]
      refine J.if_eq 59 dX12_person_30 (by decide) (fun hc7 => ?_) (fun hc7 => ?_)
      · have hc7 := bI_0.mp hc7
        have hW := hW.2 hc7
        refine J.iconst (v := (-1)) dX12_person_59 (by decide) ?_
        exact J.reti dX12_person_60 rfl rfl hW
      · have hc7 := bI_n0.mp hc7
        have hW := hW.1 hc7
        refine J.iload_n dX12_person_33 rfl rfl ?_
        refine J.iconst (v := 0) dX12_person_34 (by decide) ?_
        refine J.bipush (v := 7) dX12_person_35 (by decide) ?_
        refine J.callS (M' := mX12_in) (index := 218) (bc := 0) (bs := 0) (bc' := 0) (bs' := 0) (st := []) [.int x3, .int 0, .int 7] ml_X12_218 cv_X12_in dX12_person_37 rfl rfl (Nat.le_of_ble_eq_true rfl) (kqi (w_X12_in (d := d + 1) (Q := qi h L (fun v I' => I' = (uI I 83 0 0) ∧ v = bI (¬ (x3 < 0) ∧ (¬ (7 < x3))))) hs x3 0 7 ⟨rfl, rfl, _, rfl, rfl, rfl⟩) (fun v8 I9 hv => ?_))
        rw [hv.1, hv.2]
        refine J.if_eq 59 dX12_person_40 (by decide) (fun hc10 => ?_) (fun hc10 => ?_)
        · have hc10 := bI_0.mp hc10
          have hW := hW.2 hc10
          refine J.iconst (v := (-1)) dX12_person_59 (by decide) ?_
          exact J.reti dX12_person_60 rfl rfl hW
        · have hc10 := bI_n0.mp hc10
          have hW := hW.1 hc10
          refine J.iload dX12_person_43 rfl ?_
          refine J.bipush (v := (-80)) dX12_person_45 (by decide) ?_
          refine J.aload_n dX12_person_47 rfl rfl ?_
          refine J.getR (r := 88) fl_X12_23 rfl dX12_person_48 (lt83 hs) (kk83 hs) (rr83_5 hs) ?_
          refine J.iconst (v := 0) dX12_person_51 (by decide) ?_
          refine J.iald (x := I 88 0) dX12_person_52 (lt88 hs) (kk88 hs) (by unfold vp_in; decide) rfl ?_
          refine J.callS (M' := mX12_in) (index := 218) (bc := 0) (bs := 0) (bc' := 0) (bs' := 0) (st := []) [.int x4, .int (-80), .int (I 88 0)] ml_X12_218 cv_X12_in dX12_person_53 rfl rfl (Nat.le_of_ble_eq_true rfl) (kqi (w_X12_in (d := d + 1) (Q := qi h L (fun v I' => I' = (uI I 83 0 0) ∧ v = bI (¬ (x4 < (-80)) ∧ (¬ ((I 88 0) < x4))))) hs x4 (-80) (I 88 0) ⟨rfl, rfl, _, rfl, rfl, rfl⟩) (fun v11 I12 hv => ?_))
          rw [hv.1, hv.2]
          refine J.if_ne 61 dX12_person_56 (by decide) (fun hc13 => ?_) (fun hc13 => ?_)
          · have hc13 := bI_n0.mp hc13
            have hW := hW.1 hc13
            refine J.aload_n dX12_person_61 rfl rfl ?_
            refine J.getR (r := 95) fl_X12_44 rfl dX12_person_62 (lt83 hs) (kk83 hs) (rr83_12 hs) ?_
            refine J.iconst (v := 0) dX12_person_65 (by decide) ?_
            refine J.iald (x := I 95 0) dX12_person_66 (lt95 hs) (kk95 hs) (by unfold vp_in; decide) rfl ?_
            refine J.istore (vs' := [some (.ref (eB E + 83)), some (.int x1), some (.int x2), some (.int x3), some (.int x4), some (.int (I 95 0))]) dX12_person_67 (by decide) rfl ?_
            refine J.aload_n dX12_person_69 rfl rfl ?_
            refine J.getR (r := 95) fl_X12_44 rfl dX12_person_70 (lt83 hs) (kk83 hs) (rr83_12 hs) ?_
            refine J.iconst (v := 0) dX12_person_73 (by decide) ?_
            refine J.dup2 dX12_person_74 rfl rfl ?_
            refine J.iald (x := I 95 0) dX12_person_75 (lt95 hs) (kk95 hs) (by unfold vp_in; decide) rfl ?_
            refine J.iconst (v := 1) dX12_person_76 (by decide) ?_
            refine J.iadd dX12_person_77 ?_
            refine J.iast dX12_person_78 (lt95 hs) (kk95 hs) (by unfold vp_in; decide) ?_
            refine J.aload_n dX12_person_79 rfl rfl ?_
            refine J.getR (r := 96) fl_X12_47 rfl dX12_person_80 (lt83 hs) (kk83 hs) (rr83_13 hs) ?_
            refine J.iload dX12_person_83 rfl ?_
            refine J.iload_n dX12_person_85 rfl rfl ?_
            obtain ⟨hb14, hW⟩ := hW
            refine J.iast dX12_person_86 (lt96 hs) (kk96 hs) hb14 ?_
            refine J.aload_n dX12_person_87 rfl rfl ?_
            refine J.getR (r := 97) fl_X12_50 rfl dX12_person_88 (lt83 hs) (kk83 hs) (rr83_14 hs) ?_
            refine J.iload dX12_person_91 rfl ?_
            refine J.iload_n dX12_person_93 rfl rfl ?_
            refine J.iast dX12_person_94 (lt97 hs) (kk97 hs) hb14 ?_
            refine J.aload_n dX12_person_95 rfl rfl ?_
            refine J.getR (r := 98) fl_X12_53 rfl dX12_person_96 (lt83 hs) (kk83 hs) (rr83_15 hs) ?_
            refine J.iload dX12_person_99 rfl ?_
            refine J.iload_n dX12_person_101 rfl rfl ?_
            refine J.iast dX12_person_102 (lt98 hs) (kk98 hs) hb14 ?_
            refine J.aload_n dX12_person_103 rfl rfl ?_
            refine J.getR (r := 99) fl_X12_56 rfl dX12_person_104 (lt83 hs) (kk83 hs) (rr83_16 hs) ?_
            refine J.iload dX12_person_107 rfl ?_
            refine J.iload dX12_person_109 rfl ?_
            refine J.iast dX12_person_111 (lt99 hs) (kk99 hs) hb14 ?_
            refine J.aload_n dX12_person_112 rfl rfl ?_
            refine J.getR (r := 100) fl_X12_59 rfl dX12_person_113 (lt83 hs) (kk83 hs) (rr83_17 hs) ?_
            refine J.iload dX12_person_116 rfl ?_
            refine J.iconst (v := 0) dX12_person_118 (by decide) ?_
            refine J.zast dX12_person_119 (lt100 hs) (kk100 hs) hb14 (Or.inl rfl) ?_
            refine J.aload_n dX12_person_120 rfl rfl ?_
            refine J.getR (r := 101) fl_X12_63 rfl dX12_person_121 (lt83 hs) (kk83 hs) (rr83_18 hs) ?_
            refine J.iload dX12_person_124 rfl ?_
            refine J.iconst (v := (-1)) dX12_person_126 (by decide) ?_
            refine J.iast dX12_person_127 (lt101 hs) (kk101 hs) hb14 ?_
            refine J.aload_n dX12_person_128 rfl rfl ?_
            refine J.getR (r := 102) fl_X12_66 rfl dX12_person_129 (lt83 hs) (kk83 hs) (rr83_19 hs) ?_
            refine J.iload dX12_person_132 rfl ?_
            refine J.iconst (v := 0) dX12_person_134 (by decide) ?_
            refine J.zast dX12_person_135 (lt102 hs) (kk102 hs) hb14 (Or.inl rfl) ?_
            refine J.aload_n dX12_person_136 rfl rfl ?_
            refine J.getR (r := 103) fl_X12_69 rfl dX12_person_137 (lt83 hs) (kk83 hs) (rr83_20 hs) ?_
            refine J.iload dX12_person_140 rfl ?_
            refine J.iconst (v := 0) dX12_person_142 (by decide) ?_
            refine J.zast dX12_person_143 (lt103 hs) (kk103 hs) hb14 (Or.inl rfl) ?_
            refine J.iload dX12_person_144 rfl ?_
            exact J.reti dX12_person_146 rfl rfl hW
          · have hc13 := bI_0.mp hc13
            have hW := hW.2 hc13
            refine J.iconst (v := (-1)) dX12_person_59 (by decide) ?_
            exact J.reti dX12_person_60 rfl rfl hW
set_option maxRecDepth 100000 in
set_option maxHeartbeats 4000000 in
theorem w_X12_road {E : Envt} {d : Nat} {Q : Pst} {h : mS} {I : mI} {L : mL} (hs : SL h) (x1 : Int32) (x2 : Int32) (x3 : Int32) 
    (hW : (((¬ (x1 < 0) ∧ (¬ (4 < x1))) → (((¬ (x2 < 0) ∧ (¬ (4 < x2))) → (((x1 = x2) → Q (some (.int 0)) h (uI I 83 0 0) L) ∧ (¬ (x1 = x2) → (((¬ (x3 < (-1)) ∧ (¬ (9 < x3))) → (vp_in ((5 * x1) + x2) 100 ∧ (vp_in ((5 * x2) + x1) 100 ∧ Q (some (.int 1)) h (uI (uI (uI I 83 0 0) 89 (((5 * x1) + x2).toNatClampNeg) x3) 89 (((5 * x2) + x1).toNatClampNeg) x3) L))) ∧ (¬ (¬ (x3 < (-1)) ∧ (¬ (9 < x3))) → Q (some (.int 0)) h (uI I 83 0 0) L))))) ∧ (¬ (¬ (x2 < 0) ∧ (¬ (4 < x2))) → Q (some (.int 0)) h (uI I 83 0 0) L))) ∧ (¬ (¬ (x1 < 0) ∧ (¬ (4 < x1))) → Q (some (.int 0)) h (uI I 83 0 0) L))) :
    CT E mX12_road (d + 2) 0 0 [.ref (eB E + 83), .int x1, .int x2, .int x3] h I L Q := by
  refine CT.of (by decide) [some (.ref (eB E + 83)), some (.int x1), some (.int x2), some (.int x3)] rfl (Nat.le_of_ble_eq_true rfl) ?_
  refine J.aload_n dX12_road_0 rfl rfl ?_
  refine J.iconst (v := 0) dX12_road_1 (by decide) ?_
  refine J.putI fw_X12_202 rfl dX12_road_2 (lt83 hs) (kk83 hs) ?_
  refine J.iload_n dX12_road_5 rfl rfl ?_
  refine J.callS (M' := mX12_isVillage) (index := 226) (bc := 0) (bs := 0) (bc' := 0) (bs' := 0) (st := []) [.int x1] ml_X12_226 cv_X12_isVillage dX12_road_6 rfl rfl (Nat.le_of_ble_eq_true rfl) (kqi (w_X12_isVillage (d := d) (Q := qi h L (fun v I' => I' = (uI I 83 0 0) ∧ v = bI (¬ (x1 < 0) ∧ (¬ (4 < x1))))) hs x1 ⟨rfl, rfl, _, rfl, rfl, rfl⟩) (fun v1 I2 hv => ?_))
  rw [hv.1, hv.2]
  refine J.if_eq 34 dX12_road_9 (by decide) (fun hc3 => ?_) (fun hc3 => ?_)
  · have hc3 := bI_0.mp hc3
    have hW := hW.2 hc3
    refine J.iconst (v := 0) dX12_road_34 (by decide) ?_
    exact J.reti dX12_road_35 rfl (bz_nar (Or.inl rfl)) hW
  · have hc3 := bI_n0.mp hc3
    have hW := hW.1 hc3
    refine J.iload_n dX12_road_12 rfl rfl ?_
    refine J.callS (M' := mX12_isVillage) (index := 226) (bc := 0) (bs := 0) (bc' := 0) (bs' := 0) (st := []) [.int x2] ml_X12_226 cv_X12_isVillage dX12_road_13 rfl rfl (Nat.le_of_ble_eq_true rfl) (kqi (w_X12_isVillage (d := d) (Q := qi h L (fun v I' => I' = (uI I 83 0 0) ∧ v = bI (¬ (x2 < 0) ∧ (¬ (4 < x2))))) hs x2 ⟨rfl, rfl, _, rfl, rfl, rfl⟩) (fun v4 I5 hv => ?_))
    rw [hv.1, hv.2]
    refine J.if_eq 34 dX12_road_16 (by decide) (fun hc6 => ?_) (fun hc6 => ?_)
    · have hc6 := bI_0.mp hc6
      have hW := hW.2 hc6
      refine J.iconst (v := 0) dX12_road_34 (by decide) ?_
      exact J.reti dX12_road_35 rfl (bz_nar (Or.inl rfl)) hW
    · have hc6 := bI_n0.mp hc6
      have hW := hW.1 hc6
      refine J.iload_n dX12_road_19 rfl rfl ?_
      refine J.iload_n dX12_road_20 rfl rfl ?_
      refine J.ic_eq 34 dX12_road_21 (by decide) (fun hc7 => ?_) (fun hc7 => ?_)
      · have hW := hW.1 hc7
        refine J.iconst (v := 0) dX12_road_34 (by decide) ?_
        exact J.reti dX12_road_35 rfl (bz_nar (Or.inl rfl)) hW
      · have hW := hW.2 hc7
        refine J.iload_n dX12_road_24 rfl rfl ?_
        refine J.iconst (v := (-1)) dX12_road_25 (by decide) ?_
        refine J.bipush (v := 9) dX12_road_26 (by decide) ?_
        refine J.callS (M' := mX12_in) (index := 218) (bc := 0) (bs := 0) (bc' := 0) (bs' := 0) (st := []) [.int x3, .int (-1), .int 9] ml_X12_218 cv_X12_in dX12_road_28 rfl rfl (Nat.le_of_ble_eq_true rfl) (kqi (w_X12_in (d := d + 1) (Q := qi h L (fun v I' => I' = (uI I 83 0 0) ∧ v = bI (¬ (x3 < (-1)) ∧ (¬ (9 < x3))))) hs x3 (-1) 9 ⟨rfl, rfl, _, rfl, rfl, rfl⟩) (fun v8 I9 hv => ?_))
        rw [hv.1, hv.2]
        refine J.if_ne 36 dX12_road_31 (by decide) (fun hc10 => ?_) (fun hc10 => ?_)
        · have hc10 := bI_n0.mp hc10
          have hW := hW.1 hc10
          refine J.aload_n dX12_road_36 rfl rfl ?_
          refine J.getR (r := 89) fl_X12_26 rfl dX12_road_37 (lt83 hs) (kk83 hs) (rr83_6 hs) ?_
          refine J.iconst (v := 5) dX12_road_40 (by decide) ?_
          refine J.iload_n dX12_road_41 rfl rfl ?_
          refine J.imul dX12_road_42 ?_
          refine J.iload_n dX12_road_43 rfl rfl ?_
          refine J.iadd dX12_road_44 ?_
          refine J.iload_n dX12_road_45 rfl rfl ?_
          obtain ⟨hb11, hW⟩ := hW
          refine J.iast dX12_road_46 (lt89 hs) (kk89 hs) hb11 ?_
          refine J.aload_n dX12_road_47 rfl rfl ?_
          refine J.getR (r := 89) fl_X12_26 rfl dX12_road_48 (lt83 hs) (kk83 hs) (rr83_6 hs) ?_
          refine J.iconst (v := 5) dX12_road_51 (by decide) ?_
          refine J.iload_n dX12_road_52 rfl rfl ?_
          refine J.imul dX12_road_53 ?_
          refine J.iload_n dX12_road_54 rfl rfl ?_
          refine J.iadd dX12_road_55 ?_
          refine J.iload_n dX12_road_56 rfl rfl ?_
          obtain ⟨hb12, hW⟩ := hW
          refine J.iast dX12_road_57 (lt89 hs) (kk89 hs) hb12 ?_
          refine J.iconst (v := 1) dX12_road_58 (by decide) ?_
          exact J.reti dX12_road_59 rfl (bz_nar (Or.inr rfl)) hW
        · have hc10 := bI_0.mp hc10
          have hW := hW.2 hc10
          refine J.iconst (v := 0) dX12_road_34 (by decide) ?_
          exact J.reti dX12_road_35 rfl (bz_nar (Or.inl rfl)) hW
set_option maxRecDepth 100000 in
set_option maxHeartbeats 4000000 in
theorem w_X12_areFeuding {E : Envt} {d : Nat} {Q : Pst} {h : mS} {I : mI} {L : mL} (hs : SL h) (x1 : Int32) (x2 : Int32) 
    (hW : (vp_in x1 32 ∧ Q (some (.int (bI (¬ ((((I 94 x1.toNatClampNeg) >>> (x2 &&& 31)) &&& 1) = 0))))) h I L)) :
    CT E mX12_areFeuding d 0 0 [.ref (eB E + 83), .int x1, .int x2] h I L Q := by
  refine CT.of (by decide) [some (.ref (eB E + 83)), some (.int x1), some (.int x2)] rfl (Nat.le_of_ble_eq_true rfl) ?_
  refine J.aload_n dX12_areFeuding_0 rfl rfl ?_
  refine J.getR (r := 94) fl_X12_41 rfl dX12_areFeuding_1 (lt83 hs) (kk83 hs) (rr83_11 hs) ?_
  refine J.iload_n dX12_areFeuding_4 rfl rfl ?_
  obtain ⟨hb1, hW⟩ := hW
  refine J.iald (x := I 94 x1.toNatClampNeg) dX12_areFeuding_5 (lt94 hs) (kk94 hs) hb1 rfl ?_
  refine J.iload_n dX12_areFeuding_6 rfl rfl ?_
  refine J.ishr dX12_areFeuding_7 ?_
  refine J.iconst (v := 1) dX12_areFeuding_8 (by decide) ?_
  refine J.iand dX12_areFeuding_9 ?_
  have hj : J E mX12_areFeuding d Q 0 0 18 [some (.ref (eB E + 83)), some (.int x1), some (.int x2)] [.int (bI (¬ ((((I 94 x1.toNatClampNeg) >>> (x2 &&& 31)) &&& 1) = 0)))] h I L := by
    exact J.reti dX12_areFeuding_18 rfl (bz_nar (bI_bz _)) hW
  refine J.if_eq 17 dX12_areFeuding_10 (by decide) (fun hc2 => ?_) (fun hc2 => ?_)
  · refine J.iconst (v := 0) dX12_areFeuding_17 (by decide) ?_
    rw [show bI (¬ ((((I 94 x1.toNatClampNeg) >>> (x2 &&& 31)) &&& 1) = 0)) = 0 from bI_f (by simp only [eq_true hc2, and_true, true_and, and_false, false_and, or_true, true_or, or_false, false_or, not_true_eq_false, not_false_eq_true])] at hj
    exact hj
  · refine J.iconst (v := 1) dX12_areFeuding_13 (by decide) ?_
    refine J.goto 18 dX12_areFeuding_14 (by decide) ?_
    rw [show bI (¬ ((((I 94 x1.toNatClampNeg) >>> (x2 &&& 31)) &&& 1) = 0)) = 1 from bI_t (by simp only [eq_false hc2, and_true, true_and, and_false, false_and, or_true, true_or, or_false, false_or, not_true_eq_false, not_false_eq_true])] at hj
    exact hj
set_option maxRecDepth 100000 in
set_option maxHeartbeats 4000000 in
theorem w_X12_setFeud {E : Envt} {d : Nat} {Q : Pst} {h : mS} {I : mI} {L : mL} (hs : SL h) (x1 : Int32) (x2 : Int32) (x3 : Int32) 
    (hW : (((x3 = 0) → vp_in x1 32) ∧ ((¬ (x3 = 0) → vp_in x1 32) ∧ (∀ y6 : Int32, y6 = (if x3 = 0 then (I 94 x1.toNatClampNeg) &&& (((1 : Int32) <<< (x2 &&& 31)) ^^^ (-1)) else (I 94 x1.toNatClampNeg) ||| ((1 : Int32) <<< (x2 &&& 31))) → (vp_in x1 32 ∧ (((x3 = 0) → vp_in x2 32) ∧ ((¬ (x3 = 0) → vp_in x2 32) ∧ (∀ y13 : Int32, y13 = (if x3 = 0 then ((uI I 94 x1.toNatClampNeg y6) 94 x2.toNatClampNeg) &&& (((1 : Int32) <<< (x1 &&& 31)) ^^^ (-1)) else ((uI I 94 x1.toNatClampNeg y6) 94 x2.toNatClampNeg) ||| ((1 : Int32) <<< (x1 &&& 31))) → (vp_in x2 32 ∧ Q none h (uI (uI I 94 x1.toNatClampNeg y6) 94 x2.toNatClampNeg y13) L))))))))) :
    CT E mX12_setFeud d 0 0 [.ref (eB E + 83), .int x1, .int x2, .int x3] h I L Q := by
  refine CT.of (by decide) [some (.ref (eB E + 83)), some (.int x1), some (.int x2), some (.int x3)] rfl (Nat.le_of_ble_eq_true rfl) ?_
  refine J.aload_n dX12_setFeud_0 rfl rfl ?_
  refine J.getR (r := 94) fl_X12_41 rfl dX12_setFeud_1 (lt83 hs) (kk83 hs) (rr83_11 hs) ?_
  refine J.iload_n dX12_setFeud_4 rfl rfl ?_
  refine J.iload_n dX12_setFeud_5 rfl rfl ?_
  obtain ⟨hq3, hW⟩ := hW
  obtain ⟨hq5, hW⟩ := hW
  obtain ⟨y6, hyy6⟩ : ∃ y6 : Int32, y6 = (if x3 = 0 then (I 94 x1.toNatClampNeg) &&& (((1 : Int32) <<< (x2 &&& 31)) ^^^ (-1)) else (I 94 x1.toNatClampNeg) ||| ((1 : Int32) <<< (x2 &&& 31))) := ⟨_, rfl⟩
  have hW := hW y6 hyy6
  have hj : J E mX12_setFeud d Q 0 0 34 [some (.ref (eB E + 83)), some (.int x1), some (.int x2), some (.int x3)] [.int y6, .int x1, .ref (eB E + 94)] h I L := by
    obtain ⟨hb7, hW⟩ := hW
    refine J.iast dX12_setFeud_34 (lt94 hs) (kk94 hs) hb7 ?_
    refine J.aload_n dX12_setFeud_35 rfl rfl ?_
    refine J.getR (r := 94) fl_X12_41 rfl dX12_setFeud_36 (lt83 hs) (kk83 hs) (rr83_11 hs) ?_
    refine J.iload_n dX12_setFeud_39 rfl rfl ?_
    refine J.iload_n dX12_setFeud_40 rfl rfl ?_
    obtain ⟨hq10, hW⟩ := hW
    obtain ⟨hq12, hW⟩ := hW
    obtain ⟨y13, hyy13⟩ : ∃ y13 : Int32, y13 = (if x3 = 0 then ((uI I 94 x1.toNatClampNeg y6) 94 x2.toNatClampNeg) &&& (((1 : Int32) <<< (x1 &&& 31)) ^^^ (-1)) else ((uI I 94 x1.toNatClampNeg y6) 94 x2.toNatClampNeg) ||| ((1 : Int32) <<< (x1 &&& 31))) := ⟨_, rfl⟩
    have hW := hW y13 hyy13
    have hj : J E mX12_setFeud d Q 0 0 69 [some (.ref (eB E + 83)), some (.int x1), some (.int x2), some (.int x3)] [.int y13, .int x2, .ref (eB E + 94)] h (uI I 94 x1.toNatClampNeg y6) L := by
      obtain ⟨hb14, hW⟩ := hW
      refine J.iast dX12_setFeud_69 (lt94 hs) (kk94 hs) hb14 ?_
      exact J.retv dX12_setFeud_70 rfl hW
    refine J.if_eq 57 dX12_setFeud_41 (by decide) (fun hc8 => ?_) (fun hc8 => ?_)
    · refine J.aload_n dX12_setFeud_57 rfl rfl ?_
      refine J.getR (r := 94) fl_X12_41 rfl dX12_setFeud_58 (lt83 hs) (kk83 hs) (rr83_11 hs) ?_
      refine J.iload_n dX12_setFeud_61 rfl rfl ?_
      have hb9 := hq10 hc8
      refine J.iald (x := (uI I 94 x1.toNatClampNeg y6) 94 x2.toNatClampNeg) dX12_setFeud_62 (lt94 hs) (kk94 hs) hb9 rfl ?_
      refine J.iconst (v := 1) dX12_setFeud_63 (by decide) ?_
      refine J.iload_n dX12_setFeud_64 rfl rfl ?_
      refine J.ishl dX12_setFeud_65 ?_
      refine J.iconst (v := (-1)) dX12_setFeud_66 (by decide) ?_
      refine J.ixor dX12_setFeud_67 ?_
      refine J.iand dX12_setFeud_68 ?_
      rw [show y13 = ((uI I 94 x1.toNatClampNeg y6) 94 x2.toNatClampNeg) &&& (((1 : Int32) <<< (x1 &&& 31)) ^^^ (-1)) from by simp only [hyy13, eq_true hc8, if_true, if_false, bI_true, bI_false, and_true, true_and, and_false, false_and, or_true, true_or, or_false, false_or, not_true_eq_false, not_false_eq_true]] at hj
      exact hj
    · refine J.aload_n dX12_setFeud_44 rfl rfl ?_
      refine J.getR (r := 94) fl_X12_41 rfl dX12_setFeud_45 (lt83 hs) (kk83 hs) (rr83_11 hs) ?_
      refine J.iload_n dX12_setFeud_48 rfl rfl ?_
      have hb11 := hq12 hc8
      refine J.iald (x := (uI I 94 x1.toNatClampNeg y6) 94 x2.toNatClampNeg) dX12_setFeud_49 (lt94 hs) (kk94 hs) hb11 rfl ?_
      refine J.iconst (v := 1) dX12_setFeud_50 (by decide) ?_
      refine J.iload_n dX12_setFeud_51 rfl rfl ?_
      refine J.ishl dX12_setFeud_52 ?_
      refine J.ior dX12_setFeud_53 ?_
      refine J.goto 69 dX12_setFeud_54 (by decide) ?_
      rw [show y13 = ((uI I 94 x1.toNatClampNeg y6) 94 x2.toNatClampNeg) ||| ((1 : Int32) <<< (x1 &&& 31)) from by simp only [hyy13, eq_false hc8, if_true, if_false, bI_true, bI_false, and_true, true_and, and_false, false_and, or_true, true_or, or_false, false_or, not_true_eq_false, not_false_eq_true]] at hj
      exact hj
  refine J.if_eq 22 dX12_setFeud_6 (by decide) (fun hc1 => ?_) (fun hc1 => ?_)
  · refine J.aload_n dX12_setFeud_22 rfl rfl ?_
    refine J.getR (r := 94) fl_X12_41 rfl dX12_setFeud_23 (lt83 hs) (kk83 hs) (rr83_11 hs) ?_
    refine J.iload_n dX12_setFeud_26 rfl rfl ?_
    have hb2 := hq3 hc1
    refine J.iald (x := I 94 x1.toNatClampNeg) dX12_setFeud_27 (lt94 hs) (kk94 hs) hb2 rfl ?_
    refine J.iconst (v := 1) dX12_setFeud_28 (by decide) ?_
    refine J.iload_n dX12_setFeud_29 rfl rfl ?_
    refine J.ishl dX12_setFeud_30 ?_
    refine J.iconst (v := (-1)) dX12_setFeud_31 (by decide) ?_
    refine J.ixor dX12_setFeud_32 ?_
    refine J.iand dX12_setFeud_33 ?_
    rw [show y6 = (I 94 x1.toNatClampNeg) &&& (((1 : Int32) <<< (x2 &&& 31)) ^^^ (-1)) from by simp only [hyy6, eq_true hc1, if_true, if_false, bI_true, bI_false, and_true, true_and, and_false, false_and, or_true, true_or, or_false, false_or, not_true_eq_false, not_false_eq_true]] at hj
    exact hj
  · refine J.aload_n dX12_setFeud_9 rfl rfl ?_
    refine J.getR (r := 94) fl_X12_41 rfl dX12_setFeud_10 (lt83 hs) (kk83 hs) (rr83_11 hs) ?_
    refine J.iload_n dX12_setFeud_13 rfl rfl ?_
    have hb4 := hq5 hc1
    refine J.iald (x := I 94 x1.toNatClampNeg) dX12_setFeud_14 (lt94 hs) (kk94 hs) hb4 rfl ?_
    refine J.iconst (v := 1) dX12_setFeud_15 (by decide) ?_
    refine J.iload_n dX12_setFeud_16 rfl rfl ?_
    refine J.ishl dX12_setFeud_17 ?_
    refine J.ior dX12_setFeud_18 ?_
    refine J.goto 34 dX12_setFeud_19 (by decide) ?_
    rw [show y6 = (I 94 x1.toNatClampNeg) ||| ((1 : Int32) <<< (x2 &&& 31)) from by simp only [hyy6, eq_false hc1, if_true, if_false, bI_true, bI_false, and_true, true_and, and_false, false_and, or_true, true_or, or_false, false_or, not_true_eq_false, not_false_eq_true]] at hj
    exact hj
set_option maxRecDepth 100000 in
set_option maxHeartbeats 4000000 in
theorem w_X12_feud {E : Envt} {d : Nat} {Q : Pst} {h : mS} {I : mI} {L : mL} (hs : SL h) (x1 : Int32) (x2 : Int32) (x3 : Int32) 
    (hW : (((¬ (x1 < 0) ∧ (¬ ((((uI I 83 0 0) 90 0) - 1) < x1))) → (((¬ (x2 < 0) ∧ (¬ ((((uI I 83 0 0) 90 0) - 1) < x2))) → (((x1 = x2) → Q (some (.int 0)) h (uI I 83 0 0) L) ∧ (¬ (x1 = x2) → ((vp_in x1 32) ∧ ((((bI (¬ (((((uI I 83 0 0) 94 x1.toNatClampNeg) >>> (x2 &&& 31)) &&& 1) = 0))) = x3) → Q (some (.int 0)) h (uI I 83 0 0) L) ∧ (¬ ((bI (¬ (((((uI I 83 0 0) 94 x1.toNatClampNeg) >>> (x2 &&& 31)) &&& 1) = 0))) = x3) → (CT E mX12_setFeud (d + 1) 0 0 [.ref (eB E + 83), .int x1, .int x2, .int x3] h (uI I 83 0 0) L (qv h L fun I12 => Q (some (.int 1)) h I12 L)))))))) ∧ (¬ (¬ (x2 < 0) ∧ (¬ ((((uI I 83 0 0) 90 0) - 1) < x2))) → Q (some (.int 0)) h (uI I 83 0 0) L))) ∧ (¬ (¬ (x1 < 0) ∧ (¬ ((((uI I 83 0 0) 90 0) - 1) < x1))) → Q (some (.int 0)) h (uI I 83 0 0) L))) :
    CT E mX12_feud (d + 2) 0 0 [.ref (eB E + 83), .int x1, .int x2, .int x3] h I L Q := by
  refine CT.of (by decide) [some (.ref (eB E + 83)), some (.int x1), some (.int x2), some (.int x3)] rfl (Nat.le_of_ble_eq_true rfl) ?_
  refine J.aload_n dX12_feud_0 rfl rfl ?_
  refine J.iconst (v := 0) dX12_feud_1 (by decide) ?_
  refine J.putI fw_X12_202 rfl dX12_feud_2 (lt83 hs) (kk83 hs) ?_
  refine J.aload_n dX12_feud_5 rfl rfl ?_
  refine J.iload_n dX12_feud_6 rfl rfl ?_
  refine J.callV (M' := mX12_isHouse) (index := 230) (bc := 0) (bs := 0) (bc' := 0) (bs' := 0) (st := []) [.int x1] ml_X12_230 cv_X12_isHouse dX12_feud_7 (lt83 hs) (kk83 hs) (by decide) rfl rfl rfl rfl (Nat.le_of_ble_eq_true rfl) (kqi (w_X12_isHouse (d := d) (Q := qi h L (fun v I' => I' = (uI I 83 0 0) ∧ v = bI (¬ (x1 < 0) ∧ (¬ ((((uI I 83 0 0) 90 0) - 1) < x1))))) hs x1 ⟨rfl, rfl, _, rfl, rfl, rfl⟩) (fun v1 I2 hv => ?_))
  rw [hv.1, hv.2]
  refine J.if_eq 36 dX12_feud_10 (by decide) (fun hc3 => ?_) (fun hc3 => ?_)
  · have hc3 := bI_0.mp hc3
    have hW := hW.2 hc3
    refine J.iconst (v := 0) dX12_feud_36 (by decide) ?_
    exact J.reti dX12_feud_37 rfl (bz_nar (Or.inl rfl)) hW
  · have hc3 := bI_n0.mp hc3
    have hW := hW.1 hc3
    refine J.aload_n dX12_feud_13 rfl rfl ?_
    refine J.iload_n dX12_feud_14 rfl rfl ?_
    refine J.callV (M' := mX12_isHouse) (index := 230) (bc := 0) (bs := 0) (bc' := 0) (bs' := 0) (st := []) [.int x2] ml_X12_230 cv_X12_isHouse dX12_feud_15 (lt83 hs) (kk83 hs) (by decide) rfl rfl rfl rfl (Nat.le_of_ble_eq_true rfl) (kqi (w_X12_isHouse (d := d) (Q := qi h L (fun v I' => I' = (uI I 83 0 0) ∧ v = bI (¬ (x2 < 0) ∧ (¬ ((((uI I 83 0 0) 90 0) - 1) < x2))))) hs x2 ⟨rfl, rfl, _, rfl, rfl, rfl⟩) (fun v4 I5 hv => ?_))
    rw [hv.1, hv.2]
    refine J.if_eq 36 dX12_feud_18 (by decide) (fun hc6 => ?_) (fun hc6 => ?_)
    · have hc6 := bI_0.mp hc6
      have hW := hW.2 hc6
      refine J.iconst (v := 0) dX12_feud_36 (by decide) ?_
      exact J.reti dX12_feud_37 rfl (bz_nar (Or.inl rfl)) hW
    · have hc6 := bI_n0.mp hc6
      have hW := hW.1 hc6
      refine J.iload_n dX12_feud_21 rfl rfl ?_
      refine J.iload_n dX12_feud_22 rfl rfl ?_
      refine J.ic_eq 36 dX12_feud_23 (by decide) (fun hc7 => ?_) (fun hc7 => ?_)
      · have hW := hW.1 hc7
        refine J.iconst (v := 0) dX12_feud_36 (by decide) ?_
        exact J.reti dX12_feud_37 rfl (bz_nar (Or.inl rfl)) hW
      · have hW := hW.2 hc7
        refine J.aload_n dX12_feud_26 rfl rfl ?_
        refine J.iload_n dX12_feud_27 rfl rfl ?_
        refine J.iload_n dX12_feud_28 rfl rfl ?_
        obtain ⟨hb8, hW⟩ := hW
        refine J.callV (M' := mX12_areFeuding) (index := 233) (bc := 0) (bs := 0) (bc' := 0) (bs' := 0) (st := []) [.int x1, .int x2] ml_X12_233 cv_X12_areFeuding dX12_feud_29 (lt83 hs) (kk83 hs) (by decide) rfl rfl rfl rfl (Nat.le_of_ble_eq_true rfl) (kqi (w_X12_areFeuding (d := d + 1) (Q := qi h L (fun v I' => I' = (uI I 83 0 0) ∧ v = bI (¬ (((((uI I 83 0 0) 94 x1.toNatClampNeg) >>> (x2 &&& 31)) &&& 1) = 0)))) hs x1 x2 ⟨hb8, rfl, rfl, _, rfl, rfl, rfl⟩) (fun v9 I10 hv => ?_))
        rw [hv.1, hv.2]
        refine J.iload_n dX12_feud_32 rfl rfl ?_
        refine J.ic_ne 38 dX12_feud_33 (by decide) (fun hc11 => ?_) (fun hc11 => ?_)
        · have hW := hW.2 hc11
          refine J.aload_n dX12_feud_38 rfl rfl ?_
          refine J.iload_n dX12_feud_39 rfl rfl ?_
          refine J.iload_n dX12_feud_40 rfl rfl ?_
          refine J.iload_n dX12_feud_41 rfl rfl ?_
          refine J.callV (M' := mX12_setFeud) (index := 237) (bc := 0) (bs := 0) (bc' := 0) (bs' := 0) (st := []) [.int x1, .int x2, .int x3] ml_X12_237 cv_X12_setFeud dX12_feud_42 (lt83 hs) (kk83 hs) (by decide) rfl rfl rfl rfl (Nat.le_of_ble_eq_true rfl) (kqv hW (fun I12 hW => ?_))
          refine J.iconst (v := 1) dX12_feud_45 (by decide) ?_
          exact J.reti dX12_feud_46 rfl (bz_nar (Or.inr rfl)) hW
        · have hW := hW.1 hc11
          refine J.iconst (v := 0) dX12_feud_36 (by decide) ?_
          exact J.reti dX12_feud_37 rfl (bz_nar (Or.inl rfl)) hW
set_option maxRecDepth 100000 in
set_option maxHeartbeats 4000000 in
theorem w_X12_harvest {E : Envt} {d : Nat} {Q : Pst} {h : mS} {I : mI} {L : mL} (hs : SL h) (x1 : Int32) (x2 : Int32) 
    (hW : (((¬ (x1 < 0) ∧ (¬ ((((uI I 83 0 0) 90 0) - 1) < x1))) → (((¬ (x2 < 1) ∧ (¬ (100000 < x2))) → (vp_in x1 32 ∧ Q (some (.int ((I 93 x1.toNatClampNeg) + x2))) h (uI (uI I 83 0 0) 93 x1.toNatClampNeg ((I 93 x1.toNatClampNeg) + x2)) L)) ∧ (¬ (¬ (x2 < 1) ∧ (¬ (100000 < x2))) → Q (some (.int (-1))) h (uI I 83 0 0) L))) ∧ (¬ (¬ (x1 < 0) ∧ (¬ ((((uI I 83 0 0) 90 0) - 1) < x1))) → Q (some (.int (-1))) h (uI I 83 0 0) L))) :
    CT E mX12_harvest (d + 2) 0 0 [.ref (eB E + 83), .int x1, .int x2] h I L Q := by
  refine CT.of (by decide) [some (.ref (eB E + 83)), some (.int x1), some (.int x2)] rfl (Nat.le_of_ble_eq_true rfl) ?_
  refine J.aload_n dX12_harvest_0 rfl rfl ?_
  refine J.iconst (v := 0) dX12_harvest_1 (by decide) ?_
  refine J.putI fw_X12_202 rfl dX12_harvest_2 (lt83 hs) (kk83 hs) ?_
  refine J.aload_n dX12_harvest_5 rfl rfl ?_
  refine J.iload_n dX12_harvest_6 rfl rfl ?_
  refine J.callV (M' := mX12_isHouse) (index := 230) (bc := 0) (bs := 0) (bc' := 0) (bs' := 0) (st := []) [.int x1] ml_X12_230 cv_X12_isHouse dX12_harvest_7 (lt83 hs) (kk83 hs) (by decide) rfl rfl rfl rfl (Nat.le_of_ble_eq_true rfl) (kqi (w_X12_isHouse (d := d) (Q := qi h L (fun v I' => I' = (uI I 83 0 0) ∧ v = bI (¬ (x1 < 0) ∧ (¬ ((((uI I 83 0 0) 90 0) - 1) < x1))))) hs x1 ⟨rfl, rfl, _, rfl, rfl, rfl⟩) (fun v1 I2 hv => ?_))
  rw [hv.1, hv.2]
  refine J.if_eq 23 dX12_harvest_10 (by decide) (fun hc3 => ?_) (fun hc3 => ?_)
  · have hc3 := bI_0.mp hc3
    have hW := hW.2 hc3
    refine J.iconst (v := (-1)) dX12_harvest_23 (by decide) ?_
    exact J.reti dX12_harvest_24 rfl rfl hW
  · have hc3 := bI_n0.mp hc3
    have hW := hW.1 hc3
    refine J.iload_n dX12_harvest_13 rfl rfl ?_
    refine J.iconst (v := 1) dX12_harvest_14 (by decide) ?_
    refine J.ldc (v := 100000) ck_X12_229 dX12_harvest_15 ?_
    refine J.callS (M' := mX12_in) (index := 218) (bc := 0) (bs := 0) (bc' := 0) (bs' := 0) (st := []) [.int x2, .int 1, .int 100000] ml_X12_218 cv_X12_in dX12_harvest_17 rfl rfl (Nat.le_of_ble_eq_true rfl) (kqi (w_X12_in (d := d + 1) (Q := qi h L (fun v I' => I' = (uI I 83 0 0) ∧ v = bI (¬ (x2 < 1) ∧ (¬ (100000 < x2))))) hs x2 1 100000 ⟨rfl, rfl, _, rfl, rfl, rfl⟩) (fun v4 I5 hv => ?_))
    rw [hv.1, hv.2]
    refine J.if_ne 25 dX12_harvest_20 (by decide) (fun hc6 => ?_) (fun hc6 => ?_)
    · have hc6 := bI_n0.mp hc6
      have hW := hW.1 hc6
      refine J.aload_n dX12_harvest_25 rfl rfl ?_
      refine J.getR (r := 93) fl_X12_38 rfl dX12_harvest_26 (lt83 hs) (kk83 hs) (rr83_10 hs) ?_
      refine J.iload_n dX12_harvest_29 rfl rfl ?_
      refine J.dup2 dX12_harvest_30 rfl rfl ?_
      obtain ⟨hb7, hW⟩ := hW
      refine J.iald (x := I 93 x1.toNatClampNeg) dX12_harvest_31 (lt93 hs) (kk93 hs) hb7 rfl ?_
      refine J.iload_n dX12_harvest_32 rfl rfl ?_
      refine J.iadd dX12_harvest_33 ?_
      refine J.iast dX12_harvest_34 (lt93 hs) (kk93 hs) hb7 ?_
      refine J.aload_n dX12_harvest_35 rfl rfl ?_
      refine J.getR (r := 93) fl_X12_38 rfl dX12_harvest_36 (lt83 hs) (kk83 hs) (rr83_10 hs) ?_
      refine J.iload_n dX12_harvest_39 rfl rfl ?_
      refine J.iald (x := (I 93 x1.toNatClampNeg) + x2) dX12_harvest_40 (lt93 hs) (kk93 hs) hb7 (by simp [uI]) ?_
      exact J.reti dX12_harvest_41 rfl rfl hW
    · have hc6 := bI_0.mp hc6
      have hW := hW.2 hc6
      refine J.iconst (v := (-1)) dX12_harvest_23 (by decide) ?_
      exact J.reti dX12_harvest_24 rfl rfl hW
set_option maxRecDepth 100000 in
set_option maxHeartbeats 4000000 in
theorem w_X12_parent {E : Envt} {d : Nat} {Q : Pst} {h : mS} {I : mI} {L : mL} (hs : SL h) (x1 : Int32) (x2 : Int32) (x3 : Int32) 
    (hW : ((((I 104 0) = 60) → Q (some (.int (-1))) h (uI I 83 0 0) L) ∧ (¬ ((I 104 0) = 60) → (((¬ (x1 < 0) ∧ (¬ ((((uI I 83 0 0) 95 0) - 1) < x1))) → (((¬ (x2 < 0) ∧ (¬ ((((uI I 83 0 0) 95 0) - 1) < x2))) → (((¬ (x3 < 0) ∧ (¬ (4 < x3))) → (vp_in x2 80 ∧ (vp_in x1 80 ∧ ((((I 99 x2.toNatClampNeg) < (I 99 x1.toNatClampNeg)) → (vp_in (4 * (I 104 0)) 960 ∧ (vp_in ((4 * (I 104 0)) + 1) 960 ∧ (vp_in ((4 * (I 104 0)) + 2) 960 ∧ (vp_in ((4 * (I 104 0)) + 3) 960 ∧ Q (some (.int (((I 104 0) + 1) - 1))) h (uI (uI (uI (uI (uI (uI I 83 0 0) 105 ((4 * (I 104 0)).toNatClampNeg) x1) 105 (((4 * (I 104 0)) + 1).toNatClampNeg) x2) 105 (((4 * (I 104 0)) + 2).toNatClampNeg) x3) 105 (((4 * (I 104 0)) + 3).toNatClampNeg) (I 88 0)) 104 0 ((I 104 0) + 1)) L))))) ∧ (¬ ((I 99 x2.toNatClampNeg) < (I 99 x1.toNatClampNeg)) → Q (some (.int (-1))) h (uI I 83 0 0) L))))) ∧ (¬ (¬ (x3 < 0) ∧ (¬ (4 < x3))) → Q (some (.int (-1))) h (uI I 83 0 0) L))) ∧ (¬ (¬ (x2 < 0) ∧ (¬ ((((uI I 83 0 0) 95 0) - 1) < x2))) → Q (some (.int (-1))) h (uI I 83 0 0) L))) ∧ (¬ (¬ (x1 < 0) ∧ (¬ ((((uI I 83 0 0) 95 0) - 1) < x1))) → Q (some (.int (-1))) h (uI I 83 0 0) L))))) :
    CT E mX12_parent (d + 2) 0 0 [.ref (eB E + 83), .int x1, .int x2, .int x3] h I L Q := by
  refine CT.of (by decide) [some (.ref (eB E + 83)), some (.int x1), some (.int x2), some (.int x3), none] rfl (Nat.le_of_ble_eq_true rfl) ?_
  refine J.aload_n dX12_parent_0 rfl rfl ?_
  refine J.iconst (v := 0) dX12_parent_1 (by decide) ?_
  refine J.putI fw_X12_202 rfl dX12_parent_2 (lt83 hs) (kk83 hs) ?_
  refine J.aload_n dX12_parent_5 rfl rfl ?_
  refine J.getR (r := 104) fl_X12_72 rfl dX12_parent_6 (lt83 hs) (kk83 hs) (rr83_21 hs) ?_
  refine J.iconst (v := 0) dX12_parent_9 (by decide) ?_
  refine J.iald (x := I 104 0) dX12_parent_10 (lt104 hs) (kk104 hs) (by unfold vp_in; decide) rfl ?_
  refine J.bipush (v := 60) dX12_parent_11 (by decide) ?_
  refine J.ic_eq 54 dX12_parent_13 (by decide) (fun hc1 => ?_) (fun hc1 => ?_)
  · have hW := hW.1 hc1
    refine J.iconst (v := (-1)) dX12_parent_54 (by decide) ?_
    exact J.reti dX12_parent_55 rfl rfl hW
  · have hW := hW.2 hc1
    refine J.aload_n dX12_parent_16 rfl rfl ?_
    refine J.iload_n dX12_parent_17 rfl rfl ?_
    refine J.callV (M' := mX12_isPerson) (index := 222) (bc := 0) (bs := 0) (bc' := 0) (bs' := 0) (st := []) [.int x1] ml_X12_222 cv_X12_isPerson dX12_parent_18 (lt83 hs) (kk83 hs) (by decide) rfl rfl rfl rfl (Nat.le_of_ble_eq_true rfl) (kqi (w_X12_isPerson (d := d) (Q := qi h L (fun v I' => I' = (uI I 83 0 0) ∧ v = bI (¬ (x1 < 0) ∧ (¬ ((((uI I 83 0 0) 95 0) - 1) < x1))))) hs x1 ⟨rfl, rfl, _, rfl, rfl, rfl⟩) (fun v2 I3 hv => ?_))
    rw [hv.1, hv.2]
    refine J.if_eq 54 dX12_parent_21 (by decide) (fun hc4 => ?_) (fun hc4 => ?_)
    · have hc4 := bI_0.mp hc4
      have hW := hW.2 hc4
      refine J.iconst (v := (-1)) dX12_parent_54 (by decide) ?_
      exact J.reti dX12_parent_55 rfl rfl hW
    · have hc4 := bI_n0.mp hc4
      have hW := hW.1 hc4
      refine J.aload_n dX12_parent_24 rfl rfl ?_
      refine J.iload_n dX12_parent_25 rfl rfl ?_
      refine J.callV (M' := mX12_isPerson) (index := 222) (bc := 0) (bs := 0) (bc' := 0) (bs' := 0) (st := []) [.int x2] ml_X12_222 cv_X12_isPerson dX12_parent_26 (lt83 hs) (kk83 hs) (by decide) rfl rfl rfl rfl (Nat.le_of_ble_eq_true rfl) (kqi (w_X12_isPerson (d := d) (Q := qi h L (fun v I' => I' = (uI I 83 0 0) ∧ v = bI (¬ (x2 < 0) ∧ (¬ ((((uI I 83 0 0) 95 0) - 1) < x2))))) hs x2 ⟨rfl, rfl, _, rfl, rfl, rfl⟩) (fun v5 I6 hv => ?_))
      rw [hv.1, hv.2]
      refine J.if_eq 54 dX12_parent_29 (by decide) (fun hc7 => ?_) (fun hc7 => ?_)
      · have hc7 := bI_0.mp hc7
        have hW := hW.2 hc7
        refine J.iconst (v := (-1)) dX12_parent_54 (by decide) ?_
        exact J.reti dX12_parent_55 rfl rfl hW
      · have hc7 := bI_n0.mp hc7
        have hW := hW.1 hc7
        refine J.iload_n dX12_parent_32 rfl rfl ?_
        refine J.callS (M' := mX12_isVillage) (index := 226) (bc := 0) (bs := 0) (bc' := 0) (bs' := 0) (st := []) [.int x3] ml_X12_226 cv_X12_isVillage dX12_parent_33 rfl rfl (Nat.le_of_ble_eq_true rfl) (kqi (w_X12_isVillage (d := d) (Q := qi h L (fun v I' => I' = (uI I 83 0 0) ∧ v = bI (¬ (x3 < 0) ∧ (¬ (4 < x3))))) hs x3 ⟨rfl, rfl, _, rfl, rfl, rfl⟩) (fun v8 I9 hv => ?_))
        rw [hv.1, hv.2]
        refine J.if_eq 54 dX12_parent_36 (by decide) (fun hc10 => ?_) (fun hc10 => ?_)
        · have hc10 := bI_0.mp hc10
          have hW := hW.2 hc10
          refine J.iconst (v := (-1)) dX12_parent_54 (by decide) ?_
          exact J.reti dX12_parent_55 rfl rfl hW
        · have hc10 := bI_n0.mp hc10
          have hW := hW.1 hc10
          refine J.aload_n dX12_parent_39 rfl rfl ?_
          refine J.getR (r := 99) fl_X12_56 rfl dX12_parent_40 (lt83 hs) (kk83 hs) (rr83_16 hs) ?_
          refine J.iload_n dX12_parent_43 rfl rfl ?_
          obtain ⟨hb11, hW⟩ := hW
          refine J.iald (x := I 99 x2.toNatClampNeg) dX12_parent_44 (lt99 hs) (kk99 hs) hb11 rfl ?_
          refine J.aload_n dX12_parent_45 rfl rfl ?_
          refine J.getR (r := 99) fl_X12_56 rfl dX12_parent_46 (lt83 hs) (kk83 hs) (rr83_16 hs) ?_
          refine J.iload_n dX12_parent_49 rfl rfl ?_
          obtain ⟨hb12, hW⟩ := hW
          refine J.iald (x := I 99 x1.toNatClampNeg) dX12_parent_50 (lt99 hs) (kk99 hs) hb12 rfl ?_
          refine J.ic_lt 56 dX12_parent_51 (by decide) (fun hc13 => ?_) (fun hc13 => ?_)
          · have hW := hW.1 hc13
            refine J.iconst (v := 4) dX12_parent_56 (by decide) ?_
            refine J.aload_n dX12_parent_57 rfl rfl ?_
            refine J.getR (r := 104) fl_X12_72 rfl dX12_parent_58 (lt83 hs) (kk83 hs) (rr83_21 hs) ?_
            refine J.iconst (v := 0) dX12_parent_61 (by decide) ?_
            refine J.iald (x := I 104 0) dX12_parent_62 (lt104 hs) (kk104 hs) (by unfold vp_in; decide) rfl ?_
            refine J.imul dX12_parent_63 ?_
            refine J.istore (vs' := [some (.ref (eB E + 83)), some (.int x1), some (.int x2), some (.int x3), some (.int (4 * (I 104 0)))]) dX12_parent_64 (by decide) rfl ?_
            refine J.aload_n dX12_parent_66 rfl rfl ?_
            refine J.getR (r := 105) fl_X12_75 rfl dX12_parent_67 (lt83 hs) (kk83 hs) (rr83_22 hs) ?_
            refine J.iload dX12_parent_70 rfl ?_
            refine J.iload_n dX12_parent_72 rfl rfl ?_
            obtain ⟨hb14, hW⟩ := hW
            refine J.iast dX12_parent_73 (lt105 hs) (kk105 hs) hb14 ?_
            refine J.aload_n dX12_parent_74 rfl rfl ?_
            refine J.getR (r := 105) fl_X12_75 rfl dX12_parent_75 (lt83 hs) (kk83 hs) (rr83_22 hs) ?_
            refine J.iload dX12_parent_78 rfl ?_
            refine J.iconst (v := 1) dX12_parent_80 (by decide) ?_
            refine J.iadd dX12_parent_81 ?_
            refine J.iload_n dX12_parent_82 rfl rfl ?_
            obtain ⟨hb15, hW⟩ := hW
            refine J.iast dX12_parent_83 (lt105 hs) (kk105 hs) hb15 ?_
            refine J.aload_n dX12_parent_84 rfl rfl ?_
            refine J.getR (r := 105) fl_X12_75 rfl dX12_parent_85 (lt83 hs) (kk83 hs) (rr83_22 hs) ?_
            refine J.iload dX12_parent_88 rfl ?_
            refine J.iconst (v := 2) dX12_parent_90 (by decide) ?_
            refine J.iadd dX12_parent_91 ?_
            refine J.iload_n dX12_parent_92 rfl rfl ?_
            obtain ⟨hb16, hW⟩ := hW
            refine J.iast dX12_parent_93 (lt105 hs) (kk105 hs) hb16 ?_
            refine J.aload_n dX12_parent_94 rfl rfl ?_
            refine J.getR (r := 105) fl_X12_75 rfl dX12_parent_95 (lt83 hs) (kk83 hs) (rr83_22 hs) ?_
            refine J.iload dX12_parent_98 rfl ?_
            refine J.iconst (v := 3) dX12_parent_100 (by decide) ?_
            refine J.iadd dX12_parent_101 ?_
            refine J.aload_n dX12_parent_102 rfl rfl ?_
            refine J.getR (r := 88) fl_X12_23 rfl dX12_parent_103 (lt83 hs) (kk83 hs) (rr83_5 hs) ?_
            refine J.iconst (v := 0) dX12_parent_106 (by decide) ?_
            refine J.iald (x := I 88 0) dX12_parent_107 (lt88 hs) (kk88 hs) (by unfold vp_in; decide) rfl ?_
            obtain ⟨hb17, hW⟩ := hW
            refine J.iast dX12_parent_108 (lt105 hs) (kk105 hs) hb17 ?_
            refine J.aload_n dX12_parent_109 rfl rfl ?_
            refine J.getR (r := 104) fl_X12_72 rfl dX12_parent_110 (lt83 hs) (kk83 hs) (rr83_21 hs) ?_
            refine J.iconst (v := 0) dX12_parent_113 (by decide) ?_
            refine J.dup2 dX12_parent_114 rfl rfl ?_
            refine J.iald (x := I 104 0) dX12_parent_115 (lt104 hs) (kk104 hs) (by unfold vp_in; decide) rfl ?_
            refine J.iconst (v := 1) dX12_parent_116 (by decide) ?_
            refine J.iadd dX12_parent_117 ?_
            refine J.iast dX12_parent_118 (lt104 hs) (kk104 hs) (by unfold vp_in; decide) ?_
            refine J.aload_n dX12_parent_119 rfl rfl ?_
            refine J.getR (r := 104) fl_X12_72 rfl dX12_parent_120 (lt83 hs) (kk83 hs) (rr83_21 hs) ?_
            refine J.iconst (v := 0) dX12_parent_123 (by decide) ?_
            refine J.iald (x := (I 104 0) + 1) dX12_parent_124 (lt104 hs) (kk104 hs) (by unfold vp_in; decide) (by simp [uI]) ?_
            refine J.iconst (v := 1) dX12_parent_125 (by decide) ?_
            refine J.isub dX12_parent_126 ?_
            exact J.reti dX12_parent_127 rfl rfl hW
          · have hW := hW.2 hc13
            refine J.iconst (v := (-1)) dX12_parent_54 (by decide) ?_
            exact J.reti dX12_parent_55 rfl rfl hW
set_option maxRecDepth 100000 in
set_option maxHeartbeats 4000000 in
theorem w_X12_findTakes {E : Envt} {d : Nat} {Q : Pst} {h : mS} {I : mI} {L : mL} (hs : SL h) (x1 : Int32) 
    (hW : J E mX12_findTakes d Q 0 0 2 [some (.ref (eB E + 83)), some (.int x1), some (.int 0), none, none, none, none] [] h I L) :
    CT E mX12_findTakes d 0 0 [.ref (eB E + 83), .int x1] h I L Q := by
  refine CT.of (by decide) [some (.ref (eB E + 83)), some (.int x1), none, none, none, none, none] rfl (Nat.le_of_ble_eq_true rfl) ?_
  refine J.iconst (v := 0) dX12_findTakes_0 (by decide) ?_
  refine J.istore_n (vs' := [some (.ref (eB E + 83)), some (.int x1), some (.int 0), none, none, none, none]) dX12_findTakes_1 rfl (by decide) rfl ?_
  exact hW
set_option maxRecDepth 100000 in
set_option maxHeartbeats 4000000 in
theorem w_X12_findTakes_2 {E : Envt} {d : Nat} {Q : Pst} {h : mS} {I : mI} {L : mL} (hs : SL h)    (x1 : Int32) (x2 : Int32)
    (hW : (((5 ≤ x2) → J E mX12_findTakes d Q 0 0 33 [some (.ref (eB E + 83)), some (.int x1), some (.int 0), none, none, none, none] [] h I L) ∧ (¬ (5 ≤ x2) → (vp_in x2 5 ∧ J E mX12_findTakes d Q 0 0 2 [some (.ref (eB E + 83)), some (.int x1), some (.int (x2 + 1)), none, none, none, none] [] h (uI I 123 x2.toNatClampNeg (if x2 = x1 then 0 else 1000 : Int32)) L)))) :
    J E mX12_findTakes d Q 0 0 2 [some (.ref (eB E + 83)), some (.int x1), some (.int x2), none, none, none, none] [] h I L := by
  refine J.iload_n dX12_findTakes_2 rfl rfl ?_
  refine J.iconst (v := 5) dX12_findTakes_3 (by decide) ?_
  refine J.ic_ge 31 dX12_findTakes_4 (by decide) (fun hc1 => ?_) (fun hc1 => ?_)
  · have hW := hW.1 hc1
    refine J.iconst (v := 0) dX12_findTakes_31 (by decide) ?_
    refine J.istore_n (vs' := [some (.ref (eB E + 83)), some (.int x1), some (.int 0), none, none, none, none]) dX12_findTakes_32 rfl (by decide) rfl ?_
    exact hW
  · have hW := hW.2 hc1
    refine J.aload_n dX12_findTakes_7 rfl rfl ?_
    refine J.getR (r := 123) fl_X12_129 rfl dX12_findTakes_8 (lt83 hs) (kk83 hs) (rr83_40 hs) ?_
    refine J.iload_n dX12_findTakes_11 rfl rfl ?_
    refine J.iload_n dX12_findTakes_12 rfl rfl ?_
    refine J.iload_n dX12_findTakes_13 rfl rfl ?_
    have hj : J E mX12_findTakes d Q 0 0 24 [some (.ref (eB E + 83)), some (.int x1), some (.int x2), none, none, none, none] [.int (if x2 = x1 then 0 else 1000 : Int32), .int x2, .ref (eB E + 123)] h I L := by
      obtain ⟨hb3, hW⟩ := hW
      refine J.iast dX12_findTakes_24 (lt123 hs) (kk123 hs) hb3 ?_
      refine J.iinc (v := x2 + 1) (vs' := [some (.ref (eB E + 83)), some (.int x1), some (.int (x2 + 1)), none, none, none, none]) dX12_findTakes_25 rfl (by rfl) (by decide) rfl ?_
      refine J.goto 2 dX12_findTakes_28 (by decide) ?_
      exact hW
    refine J.ic_ne 21 dX12_findTakes_14 (by decide) (fun hc2 => ?_) (fun hc2 => ?_)
    · refine J.sipush (v := 1000) dX12_findTakes_21 (by decide) ?_
      rw [show ((if x2 = x1 then 0 else 1000 : Int32) = 1000) from by simp only [eq_false hc2, if_true, if_false, bI_true, bI_false, and_true, true_and, and_false, false_and, or_true, true_or, or_false, false_or, not_true_eq_false, not_false_eq_true]] at hj
      exact hj
    · refine J.iconst (v := 0) dX12_findTakes_17 (by decide) ?_
      refine J.goto 24 dX12_findTakes_18 (by decide) ?_
      rw [show ((if x2 = x1 then 0 else 1000 : Int32) = 0) from by simp only [eq_true hc2, if_true, if_false, bI_true, bI_false, and_true, true_and, and_false, false_and, or_true, true_or, or_false, false_or, not_true_eq_false, not_false_eq_true]] at hj
      exact hj
set_option maxRecDepth 100000 in
set_option maxHeartbeats 4000000 in
theorem w_X12_findTakes_33 {E : Envt} {d : Nat} {Q : Pst} {h : mS} {I : mI} {L : mL} (hs : SL h)    (x1 : Int32) (x2 : Int32)
    (hW : (((5 ≤ x2) → Q none h I L) ∧ (¬ (5 ≤ x2) → J E mX12_findTakes d Q 0 0 40 [some (.ref (eB E + 83)), some (.int x1), some (.int x2), some (.int 0), none, none, none] [] h I L))) :
    J E mX12_findTakes d Q 0 0 33 [some (.ref (eB E + 83)), some (.int x1), some (.int x2), none, none, none, none] [] h I L := by
  refine J.iload_n dX12_findTakes_33 rfl rfl ?_
  refine J.iconst (v := 5) dX12_findTakes_34 (by decide) ?_
  refine J.ic_ge 154 dX12_findTakes_35 (by decide) (fun hc1 => ?_) (fun hc1 => ?_)
  · have hW := hW.1 hc1
    exact J.retv dX12_findTakes_154 rfl hW
  · have hW := hW.2 hc1
    refine J.iconst (v := 0) dX12_findTakes_38 (by decide) ?_
    refine J.istore_n (vs' := [some (.ref (eB E + 83)), some (.int x1), some (.int x2), some (.int 0), none, none, none]) dX12_findTakes_39 rfl (by decide) rfl ?_
    exact hW
set_option maxRecDepth 100000 in
set_option maxHeartbeats 4000000 in
theorem w_X12_findTakes_40 {E : Envt} {d : Nat} {Q : Pst} {h : mS} {I : mI} {L : mL} (hs : SL h)    (x1 : Int32) (x2 : Int32) (x3 : Int32)
    (hW : (((5 ≤ x3) → J E mX12_findTakes d Q 0 0 33 [some (.ref (eB E + 83)), some (.int x1), some (.int (x2 + 1)), none, none, none, none] [] h I L) ∧ (¬ (5 ≤ x3) → J E mX12_findTakes d Q 0 0 48 [some (.ref (eB E + 83)), some (.int x1), some (.int x2), some (.int x3), some (.int 0), none, none] [] h I L))) :
    J E mX12_findTakes d Q 0 0 40 [some (.ref (eB E + 83)), some (.int x1), some (.int x2), some (.int x3), none, none, none] [] h I L := by
  refine J.iload_n dX12_findTakes_40 rfl rfl ?_
  refine J.iconst (v := 5) dX12_findTakes_41 (by decide) ?_
  refine J.ic_ge 148 dX12_findTakes_42 (by decide) (fun hc1 => ?_) (fun hc1 => ?_)
  · have hW := hW.1 hc1
    refine J.iinc (v := x2 + 1) (vs' := [some (.ref (eB E + 83)), some (.int x1), some (.int (x2 + 1)), some (.int x3), none, none, none]) dX12_findTakes_148 rfl (by rfl) (by decide) rfl ?_
    refine J.goto 33 dX12_findTakes_151 (by decide) ?_
    exact J.mask [true, true, true, false, false, false, false] rfl hW
  · have hW := hW.2 hc1
    refine J.iconst (v := 0) dX12_findTakes_45 (by decide) ?_
    refine J.istore (vs' := [some (.ref (eB E + 83)), some (.int x1), some (.int x2), some (.int x3), some (.int 0), none, none]) dX12_findTakes_46 (by decide) rfl ?_
    exact hW
set_option maxRecDepth 100000 in
set_option maxHeartbeats 4000000 in
theorem w_X12_findTakes_48 {E : Envt} {d : Nat} {Q : Pst} {h : mS} {I : mI} {L : mL} (hs : SL h)    (x1 : Int32) (x2 : Int32) (x3 : Int32) (x4 : Int32)
    (hW : (((5 ≤ x4) → J E mX12_findTakes d Q 0 0 40 [some (.ref (eB E + 83)), some (.int x1), some (.int x2), some (.int (x3 + 1)), none, none, none] [] h I L) ∧ (¬ (5 ≤ x4) → (vp_in ((5 * x3) + x4) 100 ∧ (∀ y3 : Int32, y3 = I 89 (((5 * x3) + x4).toNatClampNeg) → ((¬ (x3 = x4) → ¬ (y3 = (-1)) → vp_in x3 5) ∧ ((¬ (x3 = x4) → ¬ (y3 = (-1)) → vp_in x4 5) ∧ ((¬ (¬ (x3 = x4) ∧ (¬ (y3 = (-1)) ∧ (¬ ((I 123 x4.toNatClampNeg) ≤ ((I 123 x3.toNatClampNeg) + y3))))) → vp_in x4 5) ∧ (((¬ (x3 = x4) ∧ (¬ (y3 = (-1)) ∧ (¬ ((I 123 x4.toNatClampNeg) ≤ ((I 123 x3.toNatClampNeg) + y3))))) → vp_in x3 5) ∧ (∀ y16 : Int32, y16 = (if ¬ (x3 = x4) ∧ (¬ (y3 = (-1)) ∧ (¬ ((I 123 x4.toNatClampNeg) ≤ ((I 123 x3.toNatClampNeg) + y3)))) then (I 123 x3.toNatClampNeg) + y3 else I 123 x4.toNatClampNeg) → (vp_in x4 5 ∧ J E mX12_findTakes d Q 0 0 48 [some (.ref (eB E + 83)), some (.int x1), some (.int x2), some (.int x3), some (.int (x4 + 1)), none, none] [] h (uI I 123 x4.toNatClampNeg y16) L))))))))))) :
    J E mX12_findTakes d Q 0 0 48 [some (.ref (eB E + 83)), some (.int x1), some (.int x2), some (.int x3), some (.int x4), none, none] [] h I L := by
  refine J.iload dX12_findTakes_48 rfl ?_
  refine J.iconst (v := 5) dX12_findTakes_50 (by decide) ?_
  refine J.ic_ge 142 dX12_findTakes_51 (by decide) (fun hc1 => ?_) (fun hc1 => ?_)
  · have hW := hW.1 hc1
    refine J.iinc (v := x3 + 1) (vs' := [some (.ref (eB E + 83)), some (.int x1), some (.int x2), some (.int (x3 + 1)), some (.int x4), none, none]) dX12_findTakes_142 rfl (by rfl) (by decide) rfl ?_
    refine J.goto 40 dX12_findTakes_145 (by decide) ?_
    exact J.mask [true, true, true, true, false, false, false] rfl hW
  · have hW := hW.2 hc1
    refine J.aload_n dX12_findTakes_54 rfl rfl ?_
    refine J.getR (r := 89) fl_X12_26 rfl dX12_findTakes_55 (lt83 hs) (kk83 hs) (rr83_6 hs) ?_
    refine J.iconst (v := 5) dX12_findTakes_58 (by decide) ?_
    refine J.iload_n dX12_findTakes_59 rfl rfl ?_
    refine J.imul dX12_findTakes_60 ?_
    refine J.iload dX12_findTakes_61 rfl ?_
    refine J.iadd dX12_findTakes_63 ?_
    obtain ⟨hb2, hW⟩ := hW
    refine J.iald (x := I 89 (((5 * x3) + x4).toNatClampNeg)) dX12_findTakes_64 (lt89 hs) (kk89 hs) hb2 rfl ?_
    refine J.topi (fun y3 hyy3 => ?_)
    have hW := hW y3 hyy3
    refine J.istore (vs' := [some (.ref (eB E + 83)), some (.int x1), some (.int x2), some (.int x3), some (.int x4), some (.int y3), none]) dX12_findTakes_65 (by decide) rfl ?_
    refine J.iload_n dX12_findTakes_67 rfl rfl ?_
    refine J.iload dX12_findTakes_68 rfl ?_
    obtain ⟨hq7, hW⟩ := hW
    obtain ⟨hq9, hW⟩ := hW
    have hj : J E mX12_findTakes d Q 0 0 103 [some (.ref (eB E + 83)), some (.int x1), some (.int x2), some (.int x3), some (.int x4), some (.int y3), none] [.int (bI (¬ (x3 = x4) ∧ (¬ (y3 = (-1)) ∧ (¬ ((I 123 x4.toNatClampNeg) ≤ ((I 123 x3.toNatClampNeg) + y3))))))] h I L := by
      refine J.istore (vs' := [some (.ref (eB E + 83)), some (.int x1), some (.int x2), some (.int x3), some (.int x4), some (.int y3), some (.int (bI (¬ (x3 = x4) ∧ (¬ (y3 = (-1)) ∧ (¬ ((I 123 x4.toNatClampNeg) ≤ ((I 123 x3.toNatClampNeg) + y3)))))))]) dX12_findTakes_103 (by decide) rfl ?_
      refine J.aload_n dX12_findTakes_105 rfl rfl ?_
      refine J.getR (r := 123) fl_X12_129 rfl dX12_findTakes_106 (lt83 hs) (kk83 hs) (rr83_40 hs) ?_
      refine J.iload dX12_findTakes_109 rfl ?_
      refine J.iload dX12_findTakes_111 rfl ?_
      obtain ⟨hq13, hW⟩ := hW
      obtain ⟨hq15, hW⟩ := hW
      obtain ⟨y16, hyy16⟩ : ∃ y16 : Int32, y16 = (if ¬ (x3 = x4) ∧ (¬ (y3 = (-1)) ∧ (¬ ((I 123 x4.toNatClampNeg) ≤ ((I 123 x3.toNatClampNeg) + y3)))) then (I 123 x3.toNatClampNeg) + y3 else I 123 x4.toNatClampNeg) := ⟨_, rfl⟩
      have hW := hW y16 hyy16
      have hj : J E mX12_findTakes d Q 0 0 135 [some (.ref (eB E + 83)), some (.int x1), some (.int x2), some (.int x3), some (.int x4), some (.int y3), some (.int (bI (¬ (x3 = x4) ∧ (¬ (y3 = (-1)) ∧ (¬ ((I 123 x4.toNatClampNeg) ≤ ((I 123 x3.toNatClampNeg) + y3)))))))] [.int y16, .int x4, .ref (eB E + 123)] h I L := by
        obtain ⟨hb17, hW⟩ := hW
        refine J.iast dX12_findTakes_135 (lt123 hs) (kk123 hs) hb17 ?_
        refine J.iinc (v := x4 + 1) (vs' := [some (.ref (eB E + 83)), some (.int x1), some (.int x2), some (.int x3), some (.int (x4 + 1)), some (.int y3), some (.int (bI (¬ (x3 = x4) ∧ (¬ (y3 = (-1)) ∧ (¬ ((I 123 x4.toNatClampNeg) ≤ ((I 123 x3.toNatClampNeg) + y3)))))))]) dX12_findTakes_136 rfl (by rfl) (by decide) rfl ?_
        refine J.goto 48 dX12_findTakes_139 (by decide) ?_
        exact J.mask [true, true, true, true, true, false, false] rfl hW
      refine J.if_eq 128 dX12_findTakes_113 (by decide) (fun hc11 => ?_) (fun hc11 => ?_)
      · have hc11 := bI_0.mp hc11
        refine J.aload_n dX12_findTakes_128 rfl rfl ?_
        refine J.getR (r := 123) fl_X12_129 rfl dX12_findTakes_129 (lt83 hs) (kk83 hs) (rr83_40 hs) ?_
        refine J.iload dX12_findTakes_132 rfl ?_
        have hb12 := hq13 hc11
        refine J.iald (x := I 123 x4.toNatClampNeg) dX12_findTakes_134 (lt123 hs) (kk123 hs) hb12 rfl ?_
        rw [show y16 = I 123 x4.toNatClampNeg from by simp only [hyy16, eq_false hc11, if_true, if_false, bI_true, bI_false, and_true, true_and, and_false, false_and, or_true, true_or, or_false, false_or, not_true_eq_false, not_false_eq_true]] at hj
        exact hj
      · have hc11 := bI_n0.mp hc11
        refine J.aload_n dX12_findTakes_116 rfl rfl ?_
        refine J.getR (r := 123) fl_X12_129 rfl dX12_findTakes_117 (lt83 hs) (kk83 hs) (rr83_40 hs) ?_
        refine J.iload_n dX12_findTakes_120 rfl rfl ?_
        have hb14 := hq15 hc11
        refine J.iald (x := I 123 x3.toNatClampNeg) dX12_findTakes_121 (lt123 hs) (kk123 hs) hb14 rfl ?_
        refine J.iload dX12_findTakes_122 rfl ?_
        refine J.iadd dX12_findTakes_124 ?_
        refine J.goto 135 dX12_findTakes_125 (by decide) ?_
        rw [show y16 = (I 123 x3.toNatClampNeg) + y3 from by simp only [hyy16, eq_true hc11, if_true, if_false, bI_true, bI_false, and_true, true_and, and_false, false_and, or_true, true_or, or_false, false_or, not_true_eq_false, not_false_eq_true]] at hj
        exact hj
    refine J.ic_eq 102 dX12_findTakes_70 (by decide) (fun hc4 => ?_) (fun hc4 => ?_)
    · refine J.iconst (v := 0) dX12_findTakes_102 (by decide) ?_
      rw [show bI (¬ (x3 = x4) ∧ (¬ (y3 = (-1)) ∧ (¬ ((I 123 x4.toNatClampNeg) ≤ ((I 123 x3.toNatClampNeg) + y3))))) = 0 from bI_f (by simp only [eq_true hc4, and_true, true_and, and_false, false_and, or_true, true_or, or_false, false_or, not_true_eq_false, not_false_eq_true])] at hj
      exact hj
    · refine J.iload dX12_findTakes_73 rfl ?_
      refine J.iconst (v := (-1)) dX12_findTakes_75 (by decide) ?_
      refine J.ic_eq 102 dX12_findTakes_76 (by decide) (fun hc5 => ?_) (fun hc5 => ?_)
      · refine J.iconst (v := 0) dX12_findTakes_102 (by decide) ?_
        rw [show bI (¬ (x3 = x4) ∧ (¬ (y3 = (-1)) ∧ (¬ ((I 123 x4.toNatClampNeg) ≤ ((I 123 x3.toNatClampNeg) + y3))))) = 0 from bI_f (by simp only [eq_false hc4, eq_true hc5, and_true, true_and, and_false, false_and, or_true, true_or, or_false, false_or, not_true_eq_false, not_false_eq_true])] at hj
        exact hj
      · refine J.aload_n dX12_findTakes_79 rfl rfl ?_
        refine J.getR (r := 123) fl_X12_129 rfl dX12_findTakes_80 (lt83 hs) (kk83 hs) (rr83_40 hs) ?_
        refine J.iload_n dX12_findTakes_83 rfl rfl ?_
        have hb6 := hq7 hc4 hc5
        refine J.iald (x := I 123 x3.toNatClampNeg) dX12_findTakes_84 (lt123 hs) (kk123 hs) hb6 rfl ?_
        refine J.iload dX12_findTakes_85 rfl ?_
        refine J.iadd dX12_findTakes_87 ?_
        refine J.aload_n dX12_findTakes_88 rfl rfl ?_
        refine J.getR (r := 123) fl_X12_129 rfl dX12_findTakes_89 (lt83 hs) (kk83 hs) (rr83_40 hs) ?_
        refine J.iload dX12_findTakes_92 rfl ?_
        have hb8 := hq9 hc4 hc5
        refine J.iald (x := I 123 x4.toNatClampNeg) dX12_findTakes_94 (lt123 hs) (kk123 hs) hb8 rfl ?_
        refine J.ic_ge 102 dX12_findTakes_95 (by decide) (fun hc10 => ?_) (fun hc10 => ?_)
        · refine J.iconst (v := 0) dX12_findTakes_102 (by decide) ?_
          rw [show bI (¬ (x3 = x4) ∧ (¬ (y3 = (-1)) ∧ (¬ ((I 123 x4.toNatClampNeg) ≤ ((I 123 x3.toNatClampNeg) + y3))))) = 0 from bI_f (by simp only [eq_false hc4, eq_false hc5, eq_true hc10, and_true, true_and, and_false, false_and, or_true, true_or, or_false, false_or, not_true_eq_false, not_false_eq_true])] at hj
          exact hj
        · refine J.iconst (v := 1) dX12_findTakes_98 (by decide) ?_
          refine J.goto 103 dX12_findTakes_99 (by decide) ?_
          rw [show bI (¬ (x3 = x4) ∧ (¬ (y3 = (-1)) ∧ (¬ ((I 123 x4.toNatClampNeg) ≤ ((I 123 x3.toNatClampNeg) + y3))))) = 1 from bI_t (by simp only [eq_false hc4, eq_false hc5, eq_false hc10, and_true, true_and, and_false, false_and, or_true, true_or, or_false, false_or, not_true_eq_false, not_false_eq_true])] at hj
          exact hj
