set_option maxRecDepth 100000 in
set_option maxHeartbeats 4000000 in
theorem w_X4_has {E : Envt} {d : Nat} {Q : Pst} {h : mS} {I : mI} {L : mL} (hs : SL h) (x1 : Int32) 
    (hW : Q (some (.int (bI (¬ (x1 < 0) ∧ (¬ ((I 24 0) ≤ x1)))))) h I L) :
    CT E mX4_has d 0 0 [.ref (eB E + 24), .int x1] h I L Q := by
  refine CT.of (by decide) [some (.ref (eB E + 24)), some (.int x1)] rfl (Nat.le_of_ble_eq_true rfl) ?_
  refine J.iload_n dX4_has_0 rfl rfl ?_
  have hj : J E mX4_has d Q 0 0 17 [some (.ref (eB E + 24)), some (.int x1)] [.int (bI (¬ (x1 < 0) ∧ (¬ ((I 24 0) ≤ x1))))] h I L := by
    exact J.reti dX4_has_17 rfl (bz_nar (bI_bz _)) hW
  refine J.if_lt 16 dX4_has_1 (by decide) (fun hc1 => ?_) (fun hc1 => ?_)
  · refine J.iconst (v := 0) dX4_has_16 (by decide) ?_
    rw [show bI (¬ (x1 < 0) ∧ (¬ ((I 24 0) ≤ x1))) = 0 from bI_f (by simp only [eq_true hc1, and_true, true_and, and_false, false_and, or_true, true_or, or_false, false_or, not_true_eq_false, not_false_eq_true])] at hj
    exact hj
  · refine J.iload_n dX4_has_4 rfl rfl ?_
    refine J.aload_n dX4_has_5 rfl rfl ?_
    refine J.getI (x := I 24 0) fl_X4_48 rfl dX4_has_6 (lt24 hs) (kk24 hs) rfl ?_
    refine J.ic_ge 16 dX4_has_9 (by decide) (fun hc2 => ?_) (fun hc2 => ?_)
    · refine J.iconst (v := 0) dX4_has_16 (by decide) ?_
      rw [show bI (¬ (x1 < 0) ∧ (¬ ((I 24 0) ≤ x1))) = 0 from bI_f (by simp only [eq_false hc1, eq_true hc2, and_true, true_and, and_false, false_and, or_true, true_or, or_false, false_or, not_true_eq_false, not_false_eq_true])] at hj
      exact hj
    · refine J.iconst (v := 1) dX4_has_12 (by decide) ?_
      refine J.goto 17 dX4_has_13 (by decide) ?_
      rw [show bI (¬ (x1 < 0) ∧ (¬ ((I 24 0) ≤ x1))) = 1 from bI_t (by simp only [eq_false hc1, eq_false hc2, and_true, true_and, and_false, false_and, or_true, true_or, or_false, false_or, not_true_eq_false, not_false_eq_true])] at hj
      exact hj
set_option maxRecDepth 100000 in
set_option maxHeartbeats 4000000 in
theorem w_X4_standsAs {E : Envt} {d : Nat} {Q : Pst} {h : mS} {I : mI} {L : mL} (hs : SL h) (x1 : Int32) (x2 : Int32) 
    (hW : (((¬ (x1 < 0) ∧ (¬ ((I 24 0) ≤ x1))) → vp_in x1 30) ∧ Q (some (.int (bI ((¬ (x1 < 0) ∧ (¬ ((I 24 0) ≤ x1))) ∧ ((I 27 x1.toNatClampNeg) = x2))))) h I L)) :
    CT E mX4_standsAs (d + 1) 0 0 [.ref (eB E + 24), .int x1, .int x2] h I L Q := by
  refine CT.of (by decide) [some (.ref (eB E + 24)), some (.int x1), some (.int x2)] rfl (Nat.le_of_ble_eq_true rfl) ?_
  refine J.aload_n dX4_standsAs_0 rfl rfl ?_
  refine J.iload_n dX4_standsAs_1 rfl rfl ?_
  refine J.callV (M' := mX4_has) (index := 52) (bc := 0) (bs := 0) (bc' := 0) (bs' := 0) (st := []) [.int x1] ml_X4_52 cv_X4_has dX4_standsAs_2 (lt24 hs) (kk24 hs) (by decide) rfl rfl rfl rfl (Nat.le_of_ble_eq_true rfl) (kqi (w_X4_has (d := d) (Q := qi h L (fun v I' => I' = I ∧ v = bI (¬ (x1 < 0) ∧ (¬ ((I 24 0) ≤ x1))))) hs x1 ⟨rfl, rfl, _, rfl, rfl, rfl⟩) (fun v1 I2 hv => ?_))
  rw [hv.1, hv.2]
  obtain ⟨hq5, hW⟩ := hW
  have hj : J E mX4_standsAs (d + 1) Q 0 0 23 [some (.ref (eB E + 24)), some (.int x1), some (.int x2)] [.int (bI ((¬ (x1 < 0) ∧ (¬ ((I 24 0) ≤ x1))) ∧ ((I 27 x1.toNatClampNeg) = x2)))] h I L := by
    exact J.reti dX4_standsAs_23 rfl (bz_nar (bI_bz _)) hW
  refine J.if_eq 22 dX4_standsAs_5 (by decide) (fun hc3 => ?_) (fun hc3 => ?_)
  · have hc3 := bI_0.mp hc3
    refine J.iconst (v := 0) dX4_standsAs_22 (by decide) ?_
    rw [show bI ((¬ (x1 < 0) ∧ (¬ ((I 24 0) ≤ x1))) ∧ ((I 27 x1.toNatClampNeg) = x2)) = 0 from bI_f (by simp only [eq_false hc3, and_true, true_and, and_false, false_and, or_true, true_or, or_false, false_or, not_true_eq_false, not_false_eq_true])] at hj
    exact hj
  · have hc3 := bI_n0.mp hc3
    refine J.aload_n dX4_standsAs_8 rfl rfl ?_
    refine J.getR (r := 27) fl_X4_18 rfl dX4_standsAs_9 (lt24 hs) (kk24 hs) (rr24_3 hs) ?_
    refine J.iload_n dX4_standsAs_12 rfl rfl ?_
    have hb4 := hq5 hc3
    refine J.iald (x := I 27 x1.toNatClampNeg) dX4_standsAs_13 (lt27 hs) (kk27 hs) hb4 rfl ?_
    refine J.iload_n dX4_standsAs_14 rfl rfl ?_
    refine J.ic_ne 22 dX4_standsAs_15 (by decide) (fun hc6 => ?_) (fun hc6 => ?_)
    · refine J.iconst (v := 0) dX4_standsAs_22 (by decide) ?_
      rw [show bI ((¬ (x1 < 0) ∧ (¬ ((I 24 0) ≤ x1))) ∧ ((I 27 x1.toNatClampNeg) = x2)) = 0 from bI_f (by simp only [eq_true hc3, eq_false hc6, and_true, true_and, and_false, false_and, or_true, true_or, or_false, false_or, not_true_eq_false, not_false_eq_true])] at hj
      exact hj
    · refine J.iconst (v := 1) dX4_standsAs_18 (by decide) ?_
      refine J.goto 23 dX4_standsAs_19 (by decide) ?_
      rw [show bI ((¬ (x1 < 0) ∧ (¬ ((I 24 0) ≤ x1))) ∧ ((I 27 x1.toNatClampNeg) = x2)) = 1 from bI_t (by simp only [eq_true hc3, eq_true hc6, and_true, true_and, and_false, false_and, or_true, true_or, or_false, false_or, not_true_eq_false, not_false_eq_true])] at hj
      exact hj
set_option maxRecDepth 100000 in
set_option maxHeartbeats 4000000 in
theorem w_X2_isLate {E : Envt} {d : Nat} {Q : Pst} {h : mS} {I : mI} {L : mL} (hs : SL h) (x1 : Int32) 
    (hW : (((¬ (x1 < 0) ∧ (¬ ((I 24 0) ≤ x1))) → vp_in x1 30) ∧ ((((¬ (x1 < 0) ∧ (¬ ((I 24 0) ≤ x1))) ∧ ((I 27 x1.toNatClampNeg) = 2)) → (vp_in x1 30 ∧ ((h.2.1 34 x1.toNatClampNeg = none → ((h.2.1 35 x1.toNatClampNeg = none → Q (some (.int 0)) h I L) ∧ (∀ t9 : Nat, h.2.1 35 x1.toNatClampNeg = some t9 → Q (some (.int 0)) h I L))) ∧ (∀ t7 : Nat, h.2.1 34 x1.toNatClampNeg = some t7 → ((h.2.1 35 x1.toNatClampNeg = none → Q (some (.int 0)) h I L) ∧ (∀ t11 : Nat, h.2.1 35 x1.toNatClampNeg = some t11 → ((¬ (x1 * 11) < 0) ∧ (((x1 * 11).toNatClampNeg + 11 ≤ 330) ∧ ((vp_in ((cpI (uI (uI I 63 2 (I 25 x1.toNatClampNeg)) 63 3 (I 26 x1.toNatClampNeg)) 33 64 (x1 * 11).toNatClampNeg 0 11) 63 2) 20) ∧ ((vp_in ((cpI (uI (uI I 63 2 (I 25 x1.toNatClampNeg)) 63 3 (I 26 x1.toNatClampNeg)) 33 64 (x1 * 11).toNatClampNeg 0 11) 8 ((cpI (uI (uI I 63 2 (I 25 x1.toNatClampNeg)) 63 3 (I 26 x1.toNatClampNeg)) 33 64 (x1 * 11).toNatClampNeg 0 11) 63 2).toNatClampNeg) 8) ∧ (CT E mX2_readBy (d + 4) 0 0 [.ref (eB E + 63), .ref (eB E + t7), .int ((cpI (uI (uI I 63 2 (I 25 x1.toNatClampNeg)) 63 3 (I 26 x1.toNatClampNeg)) 33 64 (x1 * 11).toNatClampNeg 0 11) 4 (((cpI (uI (uI I 63 2 (I 25 x1.toNatClampNeg)) 63 3 (I 26 x1.toNatClampNeg)) 33 64 (x1 * 11).toNatClampNeg 0 11) 8 ((cpI (uI (uI I 63 2 (I 25 x1.toNatClampNeg)) 63 3 (I 26 x1.toNatClampNeg)) 33 64 (x1 * 11).toNatClampNeg 0 11) 63 2).toNatClampNeg).toNatClampNeg))] h (cpI (uI (uI I 63 2 (I 25 x1.toNatClampNeg)) 63 3 (I 26 x1.toNatClampNeg)) 33 64 (x1 * 11).toNatClampNeg 0 11) L (qv h L fun I18 => ((((I18 63 5) = (-1)) → ((vp_in (I18 63 3) 20) ∧ ((vp_in (I18 8 (I18 63 3).toNatClampNeg) 8) ∧ (CT E mX2_readBy (d + 4) 0 0 [.ref (eB E + 63), .ref (eB E + t11), .int (I18 4 ((I18 8 (I18 63 3).toNatClampNeg).toNatClampNeg))] h I18 L (qv h L fun I25 => Q (some (.int (bI (¬ ((I25 63 5) = (-1)))))) h I25 L))))) ∧ (¬ ((I18 63 5) = (-1)) → Q (some (.int (bI (¬ ((I18 63 5) = (-1)))))) h I18 L)))))))))))))) ∧ (¬ ((¬ (x1 < 0) ∧ (¬ ((I 24 0) ≤ x1))) ∧ ((I 27 x1.toNatClampNeg) = 2)) → Q (some (.int 0)) h I L)))) :
    CT E mX2_isLate (d + 5) 0 0 [.ref (eB E + 63), .int x1] h I L Q := by
  refine CT.of (by decide) [some (.ref (eB E + 63)), some (.int x1), none, none, none] rfl (Nat.le_of_ble_eq_true rfl) ?_
  refine J.aload_n dX2_isLate_0 rfl rfl ?_
  refine J.getR (r := 1) fl_X2_15 rfl dX2_isLate_1 (lt63 hs) (kk63 hs) (rr63_0 hs) ?_
  refine J.getR (r := 24) fl_X2_159 rfl dX2_isLate_4 (lt1 hs) (kk1 hs) (rr1_4 hs) ?_
  refine J.astore_n (vs' := [some (.ref (eB E + 63)), some (.int x1), some (.ref (eB E + 24)), none, none]) dX2_isLate_7 rfl (by decide) rfl ?_
  refine J.aload_n dX2_isLate_8 rfl rfl ?_
  refine J.iload_n dX2_isLate_9 rfl rfl ?_
  refine J.iconst (v := 2) dX2_isLate_10 (by decide) ?_
  obtain ⟨hb1, hW⟩ := hW
  refine J.callV (M' := mX4_standsAs) (index := 163) (bc := 0) (bs := 0) (bc' := 0) (bs' := 0) (st := []) [.int x1, .int 2] ml_X2_163 cv_X4_standsAs dX2_isLate_11 (lt24 hs) (kk24 hs) (by decide) rfl rfl rfl rfl (Nat.le_of_ble_eq_true rfl) (kqi (w_X4_standsAs (d := d + 3) (Q := qi h L (fun v I' => I' = I ∧ v = bI ((¬ (x1 < 0) ∧ (¬ ((I 24 0) ≤ x1))) ∧ ((I 27 x1.toNatClampNeg) = 2)))) hs x1 2 ⟨hb1, rfl, rfl, _, rfl, rfl, rfl⟩) (fun v2 I3 hv => ?_))
  rw [hv.1, hv.2]
  refine J.if_ne 19 dX2_isLate_14 (by decide) (fun hc4 => ?_) (fun hc4 => ?_)
  · have hc4 := bI_n0.mp hc4
    have hW := hW.1 hc4
    refine J.aload_n dX2_isLate_19 rfl rfl ?_
    refine J.getR (r := 34) fl_X2_168 rfl dX2_isLate_20 (lt24 hs) (kk24 hs) (rr24_10 hs) ?_
    refine J.iload_n dX2_isLate_23 rfl rfl ?_
    obtain ⟨hb5, hW⟩ := hW
    refine J.aald (v := rlf (eB E) (h.2.1 34 x1.toNatClampNeg)) dX2_isLate_24 (lt34 hs) (kk34 hs) (by decide) hb5 rfl ?_
    rcases ho6 : h.2.1 34 x1.toNatClampNeg with _ | t7
    · have hW := hW.1 ho6
      rw [rlf_none]
      refine J.astore_nN (vs' := [some (.ref (eB E + 63)), some (.int x1), some (.ref (eB E + 24)), some (.null), none]) dX2_isLate_25 rfl (by decide) rfl ?_
      refine J.aload_n dX2_isLate_26 rfl rfl ?_
      refine J.getR (r := 35) fl_X2_171 rfl dX2_isLate_27 (lt24 hs) (kk24 hs) (rr24_11 hs) ?_
      refine J.iload_n dX2_isLate_30 rfl rfl ?_
      refine J.aald (v := rlf (eB E) (h.2.1 35 x1.toNatClampNeg)) dX2_isLate_31 (lt35 hs) (kk35 hs) (by decide) hb5 rfl ?_
      rcases ho8 : h.2.1 35 x1.toNatClampNeg with _ | t9
      · have hW := hW.1 ho8
        rw [rlf_none]
        refine J.astoreN (vs' := [some (.ref (eB E + 63)), some (.int x1), some (.ref (eB E + 24)), some (.null), some (.null)]) dX2_isLate_32 (by decide) rfl ?_
        refine J.aload_nN dX2_isLate_34 rfl rfl ?_
        refine J.ifnullN 43 dX2_isLate_35 (by decide) ?_
        refine J.iconst (v := 0) dX2_isLate_43 (by decide) ?_
        exact J.reti dX2_isLate_44 rfl (bz_nar (Or.inl rfl)) hW
      · have hW := hW.2 t9 ho8
        rw [rlf_some]
        refine J.astore (vs' := [some (.ref (eB E + 63)), some (.int x1), some (.ref (eB E + 24)), some (.null), some (.ref (eB E + t9))]) dX2_isLate_32 (by decide) rfl ?_
        refine J.aload_nN dX2_isLate_34 rfl rfl ?_
        refine J.ifnullN 43 dX2_isLate_35 (by decide) ?_
        refine J.iconst (v := 0) dX2_isLate_43 (by decide) ?_
        exact J.reti dX2_isLate_44 rfl (bz_nar (Or.inl rfl)) hW
    · have hW := hW.2 t7 ho6
      rw [rlf_some]
      refine J.astore_n (vs' := [some (.ref (eB E + 63)), some (.int x1), some (.ref (eB E + 24)), some (.ref (eB E + t7)), none]) dX2_isLate_25 rfl (by decide) rfl ?_
      refine J.aload_n dX2_isLate_26 rfl rfl ?_
      refine J.getR (r := 35) fl_X2_171 rfl dX2_isLate_27 (lt24 hs) (kk24 hs) (rr24_11 hs) ?_
      refine J.iload_n dX2_isLate_30 rfl rfl ?_
      refine J.aald (v := rlf (eB E) (h.2.1 35 x1.toNatClampNeg)) dX2_isLate_31 (lt35 hs) (kk35 hs) (by decide) hb5 rfl ?_
      rcases ho10 : h.2.1 35 x1.toNatClampNeg with _ | t11
      · have hW := hW.1 ho10
        rw [rlf_none]
        refine J.astoreN (vs' := [some (.ref (eB E + 63)), some (.int x1), some (.ref (eB E + 24)), some (.ref (eB E + t7)), some (.null)]) dX2_isLate_32 (by decide) rfl ?_
        refine J.aload_n dX2_isLate_34 rfl rfl ?_
        refine J.ifnull dX2_isLate_35 ?_
        refine J.aloadN dX2_isLate_38 rfl ?_
        refine J.ifnonnullN dX2_isLate_40 ?_
        refine J.iconst (v := 0) dX2_isLate_43 (by decide) ?_
        exact J.reti dX2_isLate_44 rfl (bz_nar (Or.inl rfl)) hW
      · have hW := hW.2 t11 ho10
        rw [rlf_some]
        refine J.astore (vs' := [some (.ref (eB E + 63)), some (.int x1), some (.ref (eB E + 24)), some (.ref (eB E + t7)), some (.ref (eB E + t11))]) dX2_isLate_32 (by decide) rfl ?_
        refine J.aload_n dX2_isLate_34 rfl rfl ?_
        refine J.ifnull dX2_isLate_35 ?_
        refine J.aload dX2_isLate_38 rfl ?_
        refine J.ifnonnull 45 dX2_isLate_40 (by decide) ?_
        refine J.aload_n dX2_isLate_45 rfl rfl ?_
        refine J.aload_n dX2_isLate_46 rfl rfl ?_
        refine J.getR (r := 25) fl_X2_174 rfl dX2_isLate_47 (lt24 hs) (kk24 hs) (rr24_1 hs) ?_
        refine J.iload_n dX2_isLate_50 rfl rfl ?_
        refine J.iald (x := I 25 x1.toNatClampNeg) dX2_isLate_51 (lt25 hs) (kk25 hs) hb5 rfl ?_
        refine J.putI fw_X2_23 rfl dX2_isLate_52 (lt63 hs) (kk63 hs) ?_
        refine J.aload_n dX2_isLate_55 rfl rfl ?_
        refine J.aload_n dX2_isLate_56 rfl rfl ?_
        refine J.getR (r := 26) fl_X2_176 rfl dX2_isLate_57 (lt24 hs) (kk24 hs) (rr24_2 hs) ?_
        refine J.iload_n dX2_isLate_60 rfl rfl ?_
        refine J.iald (x := I 26 x1.toNatClampNeg) dX2_isLate_61 (lt26 hs) (kk26 hs) hb5 rfl ?_
        refine J.putI fw_X2_27 rfl dX2_isLate_62 (lt63 hs) (kk63 hs) ?_
        refine J.aload_n dX2_isLate_65 rfl rfl ?_
        refine J.getR (r := 33) fl_X2_178 rfl dX2_isLate_66 (lt24 hs) (kk24 hs) (rr24_9 hs) ?_
        refine J.iload_n dX2_isLate_69 rfl rfl ?_
        refine J.bipush (v := 11) dX2_isLate_70 (by decide) ?_
        refine J.imul dX2_isLate_72 ?_
        refine J.aload_n dX2_isLate_73 rfl rfl ?_
        refine J.getR (r := 64) fl_X2_9 rfl dX2_isLate_74 (lt63 hs) (kk63 hs) (rr63_4 hs) ?_
        refine J.iconst (v := 0) dX2_isLate_77 (by decide) ?_
        refine J.bipush (v := 11) dX2_isLate_78 (by decide) ?_
        obtain ⟨hn12, hW⟩ := hW
        obtain ⟨hn13, hW⟩ := hW
        refine J.copyI ml_X2_179 dX2_isLate_80 (Nat.le_of_ble_eq_true rfl) (lt33 hs) (kk33 hs) (lt64 hs) (kk64 hs) hn12 (by decide) (by decide) hn13 (by decide) ac_native ac_static inJ10 ?_
        refine J.aload_n dX2_isLate_83 rfl rfl ?_
        refine J.aload_n dX2_isLate_84 rfl rfl ?_
        refine J.aload_n dX2_isLate_85 rfl rfl ?_
        refine J.getR (r := 1) fl_X2_15 rfl dX2_isLate_86 (lt63 hs) (kk63 hs) (rr63_0 hs) ?_
        refine J.aload_n dX2_isLate_89 rfl rfl ?_
        refine J.getI (x := (cpI (uI (uI I 63 2 (I 25 x1.toNatClampNeg)) 63 3 (I 26 x1.toNatClampNeg)) 33 64 (x1 * 11).toNatClampNeg 0 11) 63 2) fl_X2_23 rfl dX2_isLate_90 (lt63 hs) (kk63 hs) rfl ?_
        obtain ⟨hb14, hW⟩ := hW
        obtain ⟨hb15, hW⟩ := hW
        refine J.callV (M' := mX0_villageOf) (index := 156) (bc := 0) (bs := 0) (bc' := 0) (bs' := 0) (st := [.ref (eB E + t7), .ref (eB E + 63)]) [.int ((cpI (uI (uI I 63 2 (I 25 x1.toNatClampNeg)) 63 3 (I 26 x1.toNatClampNeg)) 33 64 (x1 * 11).toNatClampNeg 0 11) 63 2)] ml_X2_156 cv_X0_villageOf dX2_isLate_93 (lt1 hs) (kk1 hs) (by decide) rfl rfl rfl rfl (Nat.le_of_ble_eq_true rfl) (kqi (w_X0_villageOf (d := d + 4) (Q := qi h L (fun v I' => I' = (cpI (uI (uI I 63 2 (I 25 x1.toNatClampNeg)) 63 3 (I 26 x1.toNatClampNeg)) 33 64 (x1 * 11).toNatClampNeg 0 11) ∧ v = (cpI (uI (uI I 63 2 (I 25 x1.toNatClampNeg)) 63 3 (I 26 x1.toNatClampNeg)) 33 64 (x1 * 11).toNatClampNeg 0 11) 4 (((cpI (uI (uI I 63 2 (I 25 x1.toNatClampNeg)) 63 3 (I 26 x1.toNatClampNeg)) 33 64 (x1 * 11).toNatClampNeg 0 11) 8 ((cpI (uI (uI I 63 2 (I 25 x1.toNatClampNeg)) 63 3 (I 26 x1.toNatClampNeg)) 33 64 (x1 * 11).toNatClampNeg 0 11) 63 2).toNatClampNeg).toNatClampNeg))) hs ((cpI (uI (uI I 63 2 (I 25 x1.toNatClampNeg)) 63 3 (I 26 x1.toNatClampNeg)) 33 64 (x1 * 11).toNatClampNeg 0 11) 63 2) ⟨hb14, hb15, rfl, rfl, _, rfl, rfl, rfl⟩) (fun v16 I17 hv => ?_))
        rw [hv.1, hv.2]
        refine J.callV (M' := mX2_readBy) (index := 137) (bc := 0) (bs := 0) (bc' := 0) (bs' := 0) (st := []) [.ref (eB E + t7), .int ((cpI (uI (uI I 63 2 (I 25 x1.toNatClampNeg)) 63 3 (I 26 x1.toNatClampNeg)) 33 64 (x1 * 11).toNatClampNeg 0 11) 4 (((cpI (uI (uI I 63 2 (I 25 x1.toNatClampNeg)) 63 3 (I 26 x1.toNatClampNeg)) 33 64 (x1 * 11).toNatClampNeg 0 11) 8 ((cpI (uI (uI I 63 2 (I 25 x1.toNatClampNeg)) 63 3 (I 26 x1.toNatClampNeg)) 33 64 (x1 * 11).toNatClampNeg 0 11) 63 2).toNatClampNeg).toNatClampNeg))] ml_X2_137 cv_X2_readBy dX2_isLate_96 (lt63 hs) (kk63 hs) (by decide) rfl rfl rfl rfl (Nat.le_of_ble_eq_true rfl) (kqv hW (fun I18 hW => ?_))
        refine J.aload_n dX2_isLate_99 rfl rfl ?_
        refine J.getI (x := I18 63 5) fl_X2_103 rfl dX2_isLate_100 (lt63 hs) (kk63 hs) rfl ?_
        refine J.iconst (v := (-1)) dX2_isLate_103 (by decide) ?_
        refine J.ic_ne 124 dX2_isLate_104 (by decide) (fun hc19 => ?_) (fun hc19 => ?_)
        · have hW := hW.2 hc19
          refine J.aload_n dX2_isLate_124 rfl rfl ?_
          refine J.getI (x := I18 63 5) fl_X2_103 rfl dX2_isLate_125 (lt63 hs) (kk63 hs) rfl ?_
          refine J.iconst (v := (-1)) dX2_isLate_128 (by decide) ?_
          have hj : J E mX2_isLate (d + 5) Q 0 0 137 [some (.ref (eB E + 63)), some (.int x1), some (.ref (eB E + 24)), some (.ref (eB E + t7)), some (.ref (eB E + t11))] [.int (bI (¬ ((I18 63 5) = (-1))))] h I18 L := by
            exact J.reti dX2_isLate_137 rfl (bz_nar (bI_bz _)) hW
          refine J.ic_eq 136 dX2_isLate_129 (by decide) (fun hc20 => ?_) (fun hc20 => ?_)
          · refine J.iconst (v := 0) dX2_isLate_136 (by decide) ?_
            rw [show bI (¬ ((I18 63 5) = (-1))) = 0 from bI_f (by simp only [eq_true hc20, and_true, true_and, and_false, false_and, or_true, true_or, or_false, false_or, not_true_eq_false, not_false_eq_true])] at hj
            exact hj
          · refine J.iconst (v := 1) dX2_isLate_132 (by decide) ?_
            refine J.goto 137 dX2_isLate_133 (by decide) ?_
            rw [show bI (¬ ((I18 63 5) = (-1))) = 1 from bI_t (by simp only [eq_false hc20, and_true, true_and, and_false, false_and, or_true, true_or, or_false, false_or, not_true_eq_false, not_false_eq_true])] at hj
            exact hj
        · have hW := hW.1 hc19
          refine J.aload_n dX2_isLate_107 rfl rfl ?_
          refine J.aload dX2_isLate_108 rfl ?_
          refine J.aload_n dX2_isLate_110 rfl rfl ?_
          refine J.getR (r := 1) fl_X2_15 rfl dX2_isLate_111 (lt63 hs) (kk63 hs) (rr63_0 hs) ?_
          refine J.aload_n dX2_isLate_114 rfl rfl ?_
          refine J.getI (x := I18 63 3) fl_X2_27 rfl dX2_isLate_115 (lt63 hs) (kk63 hs) rfl ?_
          obtain ⟨hb21, hW⟩ := hW
          obtain ⟨hb22, hW⟩ := hW
          refine J.callV (M' := mX0_villageOf) (index := 156) (bc := 0) (bs := 0) (bc' := 0) (bs' := 0) (st := [.ref (eB E + t11), .ref (eB E + 63)]) [.int (I18 63 3)] ml_X2_156 cv_X0_villageOf dX2_isLate_118 (lt1 hs) (kk1 hs) (by decide) rfl rfl rfl rfl (Nat.le_of_ble_eq_true rfl) (kqi (w_X0_villageOf (d := d + 4) (Q := qi h L (fun v I' => I' = I18 ∧ v = I18 4 ((I18 8 (I18 63 3).toNatClampNeg).toNatClampNeg))) hs (I18 63 3) ⟨hb21, hb22, rfl, rfl, _, rfl, rfl, rfl⟩) (fun v23 I24 hv => ?_))
          rw [hv.1, hv.2]
          refine J.callV (M' := mX2_readBy) (index := 137) (bc := 0) (bs := 0) (bc' := 0) (bs' := 0) (st := []) [.ref (eB E + t11), .int (I18 4 ((I18 8 (I18 63 3).toNatClampNeg).toNatClampNeg))] ml_X2_137 cv_X2_readBy dX2_isLate_121 (lt63 hs) (kk63 hs) (by decide) rfl rfl rfl rfl (Nat.le_of_ble_eq_true rfl) (kqv hW (fun I25 hW => ?_))
          refine J.aload_n dX2_isLate_124 rfl rfl ?_
          refine J.getI (x := I25 63 5) fl_X2_103 rfl dX2_isLate_125 (lt63 hs) (kk63 hs) rfl ?_
          refine J.iconst (v := (-1)) dX2_isLate_128 (by decide) ?_
          have hj : J E mX2_isLate (d + 5) Q 0 0 137 [some (.ref (eB E + 63)), some (.int x1), some (.ref (eB E + 24)), some (.ref (eB E + t7)), some (.ref (eB E + t11))] [.int (bI (¬ ((I25 63 5) = (-1))))] h I25 L := by
            exact J.reti dX2_isLate_137 rfl (bz_nar (bI_bz _)) hW
          refine J.ic_eq 136 dX2_isLate_129 (by decide) (fun hc26 => ?_) (fun hc26 => ?_)
          · refine J.iconst (v := 0) dX2_isLate_136 (by decide) ?_
            rw [show bI (¬ ((I25 63 5) = (-1))) = 0 from bI_f (by simp only [eq_true hc26, and_true, true_and, and_false, false_and, or_true, true_or, or_false, false_or, not_true_eq_false, not_false_eq_true])] at hj
            exact hj
          · refine J.iconst (v := 1) dX2_isLate_132 (by decide) ?_
            refine J.goto 137 dX2_isLate_133 (by decide) ?_
            rw [show bI (¬ ((I25 63 5) = (-1))) = 1 from bI_t (by simp only [eq_false hc26, and_true, true_and, and_false, false_and, or_true, true_or, or_false, false_or, not_true_eq_false, not_false_eq_true])] at hj
            exact hj
  · have hc4 := bI_0.mp hc4
    have hW := hW.2 hc4
    refine J.iconst (v := 0) dX2_isLate_17 (by decide) ?_
    exact J.reti dX2_isLate_18 rfl (bz_nar (Or.inl rfl)) hW
set_option maxRecDepth 100000 in
set_option maxHeartbeats 4000000 in
theorem w_X2_allLate {E : Envt} {d : Nat} {Q : Pst} {h : mS} {I : mI} {L : mL} (hs : SL h)  
    (hW : J E mX2_allLate (d + 6) Q 0 0 4 [some (.ref (eB E + 63)), some (.int 0), some (.int 0)] [] h I L) :
    CT E mX2_allLate (d + 6) 0 0 [.ref (eB E + 63)] h I L Q := by
  refine CT.of (by decide) [some (.ref (eB E + 63)), none, none] rfl (Nat.le_of_ble_eq_true rfl) ?_
  refine J.iconst (v := 0) dX2_allLate_0 (by decide) ?_
  refine J.istore_n (vs' := [some (.ref (eB E + 63)), some (.int 0), none]) dX2_allLate_1 rfl (by decide) rfl ?_
  refine J.iconst (v := 0) dX2_allLate_2 (by decide) ?_
  refine J.istore_n (vs' := [some (.ref (eB E + 63)), some (.int 0), some (.int 0)]) dX2_allLate_3 rfl (by decide) rfl ?_
  exact hW
set_option maxRecDepth 100000 in
set_option maxHeartbeats 4000000 in
theorem w_X2_allLate_4 {E : Envt} {d : Nat} {Q : Pst} {h : mS} {I : mI} {L : mL} (hs : SL h)    (x1 : Int32) (x2 : Int32)
    (hW : ((((I 24 0) ≤ x2) → Q (some (.int x1)) h I L) ∧ (¬ ((I 24 0) ≤ x2) → (CT E mX2_isLate (d + 5) 0 0 [.ref (eB E + 63), .int x2] h I L (qi h L fun r3 I2 => J E mX2_allLate (d + 6) Q 0 0 4 [some (.ref (eB E + 63)), some (.int (if r3 = 0 then x1 else x1 + 1 : Int32)), some (.int (x2 + 1))] [] h I2 L))))) :
    J E mX2_allLate (d + 6) Q 0 0 4 [some (.ref (eB E + 63)), some (.int x1), some (.int x2)] [] h I L := by
  refine J.iload_n dX2_allLate_4 rfl rfl ?_
  refine J.aload_n dX2_allLate_5 rfl rfl ?_
  refine J.getR (r := 1) fl_X2_15 rfl dX2_allLate_6 (lt63 hs) (kk63 hs) (rr63_0 hs) ?_
  refine J.getR (r := 24) fl_X2_159 rfl dX2_allLate_9 (lt1 hs) (kk1 hs) (rr1_4 hs) ?_
  refine J.getI (x := I 24 0) fl_X2_185 rfl dX2_allLate_12 (lt24 hs) (kk24 hs) rfl ?_
  refine J.ic_ge 35 dX2_allLate_15 (by decide) (fun hc1 => ?_) (fun hc1 => ?_)
  · have hW := hW.1 hc1
    refine J.iload_n dX2_allLate_35 rfl rfl ?_
    exact J.reti dX2_allLate_36 rfl rfl hW
  · have hW := hW.2 hc1
    refine J.aload_n dX2_allLate_18 rfl rfl ?_
    refine J.iload_n dX2_allLate_19 rfl rfl ?_
    refine J.callV (M' := mX2_isLate) (index := 188) (bc := 0) (bs := 0) (bc' := 0) (bs' := 0) (st := []) [.int x2] ml_X2_188 cv_X2_isLate dX2_allLate_20 (lt63 hs) (kk63 hs) (by decide) rfl rfl rfl rfl (Nat.le_of_ble_eq_true rfl) (kqi hW (fun r3 I2 hW => ?_))
    have hj : J E mX2_allLate (d + 6) Q 0 0 29 [some (.ref (eB E + 63)), some (.int (if r3 = 0 then x1 else x1 + 1 : Int32)), some (.int x2)] [] h I2 L := by
      refine J.iinc (v := x2 + 1) (vs' := [some (.ref (eB E + 63)), some (.int (if r3 = 0 then x1 else x1 + 1 : Int32)), some (.int (x2 + 1))]) dX2_allLate_29 rfl (by rfl) (by decide) rfl ?_
      refine J.goto 4 dX2_allLate_32 (by decide) ?_
      exact hW
    refine J.if_eq 29 dX2_allLate_23 (by decide) (fun hc4 => ?_) (fun hc4 => ?_)
    · rw [show ((if r3 = 0 then x1 else x1 + 1 : Int32) = x1) from by simp only [eq_true hc4, if_true, if_false, bI_true, bI_false, and_true, true_and, and_false, false_and, or_true, true_or, or_false, false_or, not_true_eq_false, not_false_eq_true]] at hj
      exact hj
    · refine J.iinc (v := x1 + 1) (vs' := [some (.ref (eB E + 63)), some (.int (x1 + 1)), some (.int x2)]) dX2_allLate_26 rfl (by rfl) (by decide) rfl ?_
      rw [show ((if r3 = 0 then x1 else x1 + 1 : Int32) = x1 + 1) from by simp only [eq_false hc4, if_true, if_false, bI_true, bI_false, and_true, true_and, and_false, false_and, or_true, true_or, or_false, false_or, not_true_eq_false, not_false_eq_true]] at hj
      exact hj
set_option maxRecDepth 100000 in
set_option maxHeartbeats 4000000 in
theorem w_X4_isOpen {E : Envt} {d : Nat} {Q : Pst} {h : mS} {I : mI} {L : mL} (hs : SL h) (x1 : Int32) 
    (hW : (((¬ (x1 < 0) ∧ (¬ ((I 24 0) ≤ x1))) → vp_in x1 30) ∧ Q (some (.int (bI (((¬ (x1 < 0) ∧ (¬ ((I 24 0) ≤ x1))) ∧ ((I 27 x1.toNatClampNeg) = 0)) ∨ ((¬ (x1 < 0) ∧ (¬ ((I 24 0) ≤ x1))) ∧ ((I 27 x1.toNatClampNeg) = 1)))))) h I L)) :
    CT E mX4_isOpen (d + 2) 0 0 [.ref (eB E + 24), .int x1] h I L Q := by
  refine CT.of (by decide) [some (.ref (eB E + 24)), some (.int x1)] rfl (Nat.le_of_ble_eq_true rfl) ?_
  refine J.aload_n dX4_isOpen_0 rfl rfl ?_
  refine J.iload_n dX4_isOpen_1 rfl rfl ?_
  refine J.iconst (v := 0) dX4_isOpen_2 (by decide) ?_
  obtain ⟨hb1, hW⟩ := hW
  refine J.callV (M' := mX4_standsAs) (index := 56) (bc := 0) (bs := 0) (bc' := 0) (bs' := 0) (st := []) [.int x1, .int 0] ml_X4_56 cv_X4_standsAs dX4_isOpen_3 (lt24 hs) (kk24 hs) (by decide) rfl rfl rfl rfl (Nat.le_of_ble_eq_true rfl) (kqi (w_X4_standsAs (d := d) (Q := qi h L (fun v I' => I' = I ∧ v = bI ((¬ (x1 < 0) ∧ (¬ ((I 24 0) ≤ x1))) ∧ ((I 27 x1.toNatClampNeg) = 0)))) hs x1 0 ⟨hb1, rfl, rfl, _, rfl, rfl, rfl⟩) (fun v2 I3 hv => ?_))
  rw [hv.1, hv.2]
  have hj : J E mX4_isOpen (d + 2) Q 0 0 23 [some (.ref (eB E + 24)), some (.int x1)] [.int (bI (((¬ (x1 < 0) ∧ (¬ ((I 24 0) ≤ x1))) ∧ ((I 27 x1.toNatClampNeg) = 0)) ∨ ((¬ (x1 < 0) ∧ (¬ ((I 24 0) ≤ x1))) ∧ ((I 27 x1.toNatClampNeg) = 1))))] h I L := by
    exact J.reti dX4_isOpen_23 rfl (bz_nar (bI_bz _)) hW
  refine J.if_ne 18 dX4_isOpen_6 (by decide) (fun hc4 => ?_) (fun hc4 => ?_)
  · have hc4 := bI_n0.mp hc4
    refine J.iconst (v := 1) dX4_isOpen_18 (by decide) ?_
    refine J.goto 23 dX4_isOpen_19 (by decide) ?_
    rw [show bI (((¬ (x1 < 0) ∧ (¬ ((I 24 0) ≤ x1))) ∧ ((I 27 x1.toNatClampNeg) = 0)) ∨ ((¬ (x1 < 0) ∧ (¬ ((I 24 0) ≤ x1))) ∧ ((I 27 x1.toNatClampNeg) = 1))) = 1 from bI_t (by simp only [eq_true hc4, and_true, true_and, and_false, false_and, or_true, true_or, or_false, false_or, not_true_eq_false, not_false_eq_true])] at hj
    exact hj
  · have hc4 := bI_0.mp hc4
    refine J.aload_n dX4_isOpen_9 rfl rfl ?_
    refine J.iload_n dX4_isOpen_10 rfl rfl ?_
    refine J.iconst (v := 1) dX4_isOpen_11 (by decide) ?_
    refine J.callV (M' := mX4_standsAs) (index := 56) (bc := 0) (bs := 0) (bc' := 0) (bs' := 0) (st := []) [.int x1, .int 1] ml_X4_56 cv_X4_standsAs dX4_isOpen_12 (lt24 hs) (kk24 hs) (by decide) rfl rfl rfl rfl (Nat.le_of_ble_eq_true rfl) (kqi (w_X4_standsAs (d := d) (Q := qi h L (fun v I' => I' = I ∧ v = bI ((¬ (x1 < 0) ∧ (¬ ((I 24 0) ≤ x1))) ∧ ((I 27 x1.toNatClampNeg) = 1)))) hs x1 1 ⟨hb1, rfl, rfl, _, rfl, rfl, rfl⟩) (fun v5 I6 hv => ?_))
    rw [hv.1, hv.2]
    refine J.if_eq 22 dX4_isOpen_15 (by decide) (fun hc7 => ?_) (fun hc7 => ?_)
    · have hc7 := bI_0.mp hc7
      refine J.iconst (v := 0) dX4_isOpen_22 (by decide) ?_
      rw [show bI (((¬ (x1 < 0) ∧ (¬ ((I 24 0) ≤ x1))) ∧ ((I 27 x1.toNatClampNeg) = 0)) ∨ ((¬ (x1 < 0) ∧ (¬ ((I 24 0) ≤ x1))) ∧ ((I 27 x1.toNatClampNeg) = 1))) = 0 from bI_f (by simp only [eq_false hc4, eq_false hc7, and_true, true_and, and_false, false_and, or_true, true_or, or_false, false_or, not_true_eq_false, not_false_eq_true])] at hj
      exact hj
    · have hc7 := bI_n0.mp hc7
      refine J.iconst (v := 1) dX4_isOpen_18 (by decide) ?_
      refine J.goto 23 dX4_isOpen_19 (by decide) ?_
      rw [show bI (((¬ (x1 < 0) ∧ (¬ ((I 24 0) ≤ x1))) ∧ ((I 27 x1.toNatClampNeg) = 0)) ∨ ((¬ (x1 < 0) ∧ (¬ ((I 24 0) ≤ x1))) ∧ ((I 27 x1.toNatClampNeg) = 1))) = 1 from bI_t (by simp only [eq_false hc4, eq_true hc7, and_true, true_and, and_false, false_and, or_true, true_or, or_false, false_or, not_true_eq_false, not_false_eq_true])] at hj
      exact hj
set_option maxRecDepth 100000 in
set_option maxHeartbeats 4000000 in
theorem w_X2_wouldPart {E : Envt} {d : Nat} {Q : Pst} {h : mS} {I : mI} {L : mL} (hs : SL h) (x1 : Int32) (x2 : Int32) 
    (hW : (vp_in x1 20 ∧ (∀ y2 : Int32, y2 = I 13 x1.toNatClampNeg → (vp_in x2 20 ∧ (∀ y4 : Int32, y4 = I 13 x2.toNatClampNeg → (((y2 = y4) → Q (some (.int 0)) h I L) ∧ (¬ (y2 = y4) → (((¬ (y2 < 0) ∧ (¬ ((I 24 0) ≤ y2))) → vp_in y2 30) ∧ (((((¬ (y2 < 0) ∧ (¬ ((I 24 0) ≤ y2))) ∧ ((I 27 y2.toNatClampNeg) = 0)) ∨ ((¬ (y2 < 0) ∧ (¬ ((I 24 0) ≤ y2))) ∧ ((I 27 y2.toNatClampNeg) = 1))) → (((¬ (y4 < 0) ∧ (¬ ((I 24 0) ≤ y4))) → vp_in y4 30) ∧ (((((¬ (y4 < 0) ∧ (¬ ((I 24 0) ≤ y4))) ∧ ((I 27 y4.toNatClampNeg) = 0)) ∨ ((¬ (y4 < 0) ∧ (¬ ((I 24 0) ≤ y4))) ∧ ((I 27 y4.toNatClampNeg) = 1))) → (CT E mX2_letsWed (d + 5) 0 0 [.ref (eB E + 63), .int x1, .int x2] h I L (qi h L fun r15 I14 => (((r15 = 0) → Q (some (.int 0)) h I14 L) ∧ (¬ (r15 = 0) → (CT E mX2_likes (d + 5) 0 0 [.ref (eB E + 63), .int x1, .int x2] h I14 L (qi h L fun r18 I17 => (vp_in y2 30 ∧ (CT E mX2_likes (d + 5) 0 0 [.ref (eB E + 63), .int x1, .int (I17 26 y2.toNatClampNeg)] h I17 L (qi h L fun r21 I20 => (((r18 ≤ r21) → Q (some (.int 0)) h I20 L) ∧ (¬ (r18 ≤ r21) → (CT E mX2_likes (d + 5) 0 0 [.ref (eB E + 63), .int x2, .int x1] h I20 L (qi h L fun r24 I23 => (vp_in y4 30 ∧ (CT E mX2_likes (d + 5) 0 0 [.ref (eB E + 63), .int x2, .int (I23 25 y4.toNatClampNeg)] h I23 L (qi h L fun r27 I26 => Q (some (.int (bI (¬ (r24 ≤ r27))))) h I26 L))))))))))))))))) ∧ (¬ (((¬ (y4 < 0) ∧ (¬ ((I 24 0) ≤ y4))) ∧ ((I 27 y4.toNatClampNeg) = 0)) ∨ ((¬ (y4 < 0) ∧ (¬ ((I 24 0) ≤ y4))) ∧ ((I 27 y4.toNatClampNeg) = 1))) → Q (some (.int 0)) h I L)))) ∧ (¬ (((¬ (y2 < 0) ∧ (¬ ((I 24 0) ≤ y2))) ∧ ((I 27 y2.toNatClampNeg) = 0)) ∨ ((¬ (y2 < 0) ∧ (¬ ((I 24 0) ≤ y2))) ∧ ((I 27 y2.toNatClampNeg) = 1))) → Q (some (.int 0)) h I L)))))))))) :
    CT E mX2_wouldPart (d + 6) 0 0 [.ref (eB E + 63), .int x1, .int x2] h I L Q := by
  refine CT.of (by decide) [some (.ref (eB E + 63)), some (.int x1), some (.int x2), none, none, none] rfl (Nat.le_of_ble_eq_true rfl) ?_
  refine J.aload_n dX2_wouldPart_0 rfl rfl ?_
  refine J.getR (r := 1) fl_X2_15 rfl dX2_wouldPart_1 (lt63 hs) (kk63 hs) (rr63_0 hs) ?_
  refine J.getR (r := 24) fl_X2_159 rfl dX2_wouldPart_4 (lt1 hs) (kk1 hs) (rr1_4 hs) ?_
  refine J.astore_n (vs' := [some (.ref (eB E + 63)), some (.int x1), some (.int x2), some (.ref (eB E + 24)), none, none]) dX2_wouldPart_7 rfl (by decide) rfl ?_
  refine J.aload_n dX2_wouldPart_8 rfl rfl ?_
  refine J.getR (r := 1) fl_X2_15 rfl dX2_wouldPart_9 (lt63 hs) (kk63 hs) (rr63_0 hs) ?_
  refine J.getR (r := 7) fl_X2_30 rfl dX2_wouldPart_12 (lt1 hs) (kk1 hs) (rr1_2 hs) ?_
  refine J.getR (r := 13) fl_X2_191 rfl dX2_wouldPart_15 (lt7 hs) (kk7 hs) (rr7_6 hs) ?_
  refine J.iload_n dX2_wouldPart_18 rfl rfl ?_
  obtain ⟨hb1, hW⟩ := hW
  refine J.iald (x := I 13 x1.toNatClampNeg) dX2_wouldPart_19 (lt13 hs) (kk13 hs) hb1 rfl ?_
  refine J.topi (fun y2 hyy2 => ?_)
  have hW := hW y2 hyy2
  refine J.istore (vs' := [some (.ref (eB E + 63)), some (.int x1), some (.int x2), some (.ref (eB E + 24)), some (.int y2), none]) dX2_wouldPart_20 (by decide) rfl ?_
  refine J.aload_n dX2_wouldPart_22 rfl rfl ?_
  refine J.getR (r := 1) fl_X2_15 rfl dX2_wouldPart_23 (lt63 hs) (kk63 hs) (rr63_0 hs) ?_
  refine J.getR (r := 7) fl_X2_30 rfl dX2_wouldPart_26 (lt1 hs) (kk1 hs) (rr1_2 hs) ?_
  refine J.getR (r := 13) fl_X2_191 rfl dX2_wouldPart_29 (lt7 hs) (kk7 hs) (rr7_6 hs) ?_
  refine J.iload_n dX2_wouldPart_32 rfl rfl ?_
  obtain ⟨hb3, hW⟩ := hW
  refine J.iald (x := I 13 x2.toNatClampNeg) dX2_wouldPart_33 (lt13 hs) (kk13 hs) hb3 rfl ?_
  refine J.topi (fun y4 hyy4 => ?_)
  have hW := hW y4 hyy4
  refine J.istore (vs' := [some (.ref (eB E + 63)), some (.int x1), some (.int x2), some (.ref (eB E + 24)), some (.int y2), some (.int y4)]) dX2_wouldPart_34 (by decide) rfl ?_
  refine J.iload dX2_wouldPart_36 rfl ?_
  refine J.iload dX2_wouldPart_38 rfl ?_
  refine J.ic_eq 61 dX2_wouldPart_40 (by decide) (fun hc5 => ?_) (fun hc5 => ?_)
  · have hW := hW.1 hc5
    refine J.iconst (v := 0) dX2_wouldPart_61 (by decide) ?_
    exact J.reti dX2_wouldPart_62 rfl (bz_nar (Or.inl rfl)) hW
  · have hW := hW.2 hc5
    refine J.aload_n dX2_wouldPart_43 rfl rfl ?_
    refine J.iload dX2_wouldPart_44 rfl ?_
    obtain ⟨hb6, hW⟩ := hW
    refine J.callV (M' := mX4_isOpen) (index := 194) (bc := 0) (bs := 0) (bc' := 0) (bs' := 0) (st := []) [.int y2] ml_X2_194 cv_X4_isOpen dX2_wouldPart_46 (lt24 hs) (kk24 hs) (by decide) rfl rfl rfl rfl (Nat.le_of_ble_eq_true rfl) (kqi (w_X4_isOpen (d := d + 3) (Q := qi h L (fun v I' => I' = I ∧ v = bI (((¬ (y2 < 0) ∧ (¬ ((I 24 0) ≤ y2))) ∧ ((I 27 y2.toNatClampNeg) = 0)) ∨ ((¬ (y2 < 0) ∧ (¬ ((I 24 0) ≤ y2))) ∧ ((I 27 y2.toNatClampNeg) = 1))))) hs y2 ⟨hb6, rfl, rfl, _, rfl, rfl, rfl⟩) (fun v7 I8 hv => ?_))
    rw [hv.1, hv.2]
    refine J.if_eq 61 dX2_wouldPart_49 (by decide) (fun hc9 => ?_) (fun hc9 => ?_)
    · have hc9 := bI_0.mp hc9
      have hW := hW.2 hc9
      refine J.iconst (v := 0) dX2_wouldPart_61 (by decide) ?_
      exact J.reti dX2_wouldPart_62 rfl (bz_nar (Or.inl rfl)) hW
    · have hc9 := bI_n0.mp hc9
      have hW := hW.1 hc9
      refine J.aload_n dX2_wouldPart_52 rfl rfl ?_
      refine J.iload dX2_wouldPart_53 rfl ?_
      obtain ⟨hb10, hW⟩ := hW
      refine J.callV (M' := mX4_isOpen) (index := 194) (bc := 0) (bs := 0) (bc' := 0) (bs' := 0) (st := []) [.int y4] ml_X2_194 cv_X4_isOpen dX2_wouldPart_55 (lt24 hs) (kk24 hs) (by decide) rfl rfl rfl rfl (Nat.le_of_ble_eq_true rfl) (kqi (w_X4_isOpen (d := d + 3) (Q := qi h L (fun v I' => I' = I ∧ v = bI (((¬ (y4 < 0) ∧ (¬ ((I 24 0) ≤ y4))) ∧ ((I 27 y4.toNatClampNeg) = 0)) ∨ ((¬ (y4 < 0) ∧ (¬ ((I 24 0) ≤ y4))) ∧ ((I 27 y4.toNatClampNeg) = 1))))) hs y4 ⟨hb10, rfl, rfl, _, rfl, rfl, rfl⟩) (fun v11 I12 hv => ?_))
      rw [hv.1, hv.2]
      refine J.if_ne 63 dX2_wouldPart_58 (by decide) (fun hc13 => ?_) (fun hc13 => ?_)
      · have hc13 := bI_n0.mp hc13
        have hW := hW.1 hc13
        refine J.aload_n dX2_wouldPart_63 rfl rfl ?_
        refine J.iload_n dX2_wouldPart_64 rfl rfl ?_
        refine J.iload_n dX2_wouldPart_65 rfl rfl ?_
        refine J.callV (M' := mX2_letsWed) (index := 197) (bc := 0) (bs := 0) (bc' := 0) (bs' := 0) (st := []) [.int x1, .int x2] ml_X2_197 cv_X2_letsWed dX2_wouldPart_66 (lt63 hs) (kk63 hs) (by decide) rfl rfl rfl rfl (Nat.le_of_ble_eq_true rfl) (kqi hW (fun r15 I14 hW => ?_))
        refine J.if_eq 118 dX2_wouldPart_69 (by decide) (fun hc16 => ?_) (fun hc16 => ?_)
        · have hW := hW.1 hc16
          refine J.iconst (v := 0) dX2_wouldPart_118 (by decide) ?_
          exact J.reti dX2_wouldPart_119 rfl (bz_nar (Or.inl rfl)) hW
        · have hW := hW.2 hc16
          refine J.aload_n dX2_wouldPart_72 rfl rfl ?_
          refine J.iload_n dX2_wouldPart_73 rfl rfl ?_
          refine J.iload_n dX2_wouldPart_74 rfl rfl ?_
          refine J.callV (M' := mX2_likes) (index := 200) (bc := 0) (bs := 0) (bc' := 0) (bs' := 0) (st := []) [.int x1, .int x2] ml_X2_200 cv_X2_likes dX2_wouldPart_75 (lt63 hs) (kk63 hs) (by decide) rfl rfl rfl rfl (Nat.le_of_ble_eq_true rfl) (kqi hW (fun r18 I17 hW => ?_))
          refine J.aload_n dX2_wouldPart_78 rfl rfl ?_
          refine J.iload_n dX2_wouldPart_79 rfl rfl ?_
          refine J.aload_n dX2_wouldPart_80 rfl rfl ?_
          refine J.getR (r := 26) fl_X2_176 rfl dX2_wouldPart_81 (lt24 hs) (kk24 hs) (rr24_2 hs) ?_
          refine J.iload dX2_wouldPart_84 rfl ?_
          obtain ⟨hb19, hW⟩ := hW
          refine J.iald (x := I17 26 y2.toNatClampNeg) dX2_wouldPart_86 (lt26 hs) (kk26 hs) hb19 rfl ?_
          refine J.callV (M' := mX2_likes) (index := 200) (bc := 0) (bs := 0) (bc' := 0) (bs' := 0) (st := [.int r18]) [.int x1, .int (I17 26 y2.toNatClampNeg)] ml_X2_200 cv_X2_likes dX2_wouldPart_87 (lt63 hs) (kk63 hs) (by decide) rfl rfl rfl rfl (Nat.le_of_ble_eq_true rfl) (kqi hW (fun r21 I20 hW => ?_))
          refine J.ic_le 118 dX2_wouldPart_90 (by decide) (fun hc22 => ?_) (fun hc22 => ?_)
          · have hW := hW.1 hc22
            refine J.iconst (v := 0) dX2_wouldPart_118 (by decide) ?_
            exact J.reti dX2_wouldPart_119 rfl (bz_nar (Or.inl rfl)) hW
          · have hW := hW.2 hc22
            refine J.aload_n dX2_wouldPart_93 rfl rfl ?_
            refine J.iload_n dX2_wouldPart_94 rfl rfl ?_
            refine J.iload_n dX2_wouldPart_95 rfl rfl ?_
            refine J.callV (M' := mX2_likes) (index := 200) (bc := 0) (bs := 0) (bc' := 0) (bs' := 0) (st := []) [.int x2, .int x1] ml_X2_200 cv_X2_likes dX2_wouldPart_96 (lt63 hs) (kk63 hs) (by decide) rfl rfl rfl rfl (Nat.le_of_ble_eq_true rfl) (kqi hW (fun r24 I23 hW => ?_))
            refine J.aload_n dX2_wouldPart_99 rfl rfl ?_
            refine J.iload_n dX2_wouldPart_100 rfl rfl ?_
            refine J.aload_n dX2_wouldPart_101 rfl rfl ?_
            refine J.getR (r := 25) fl_X2_174 rfl dX2_wouldPart_102 (lt24 hs) (kk24 hs) (rr24_1 hs) ?_
            refine J.iload dX2_wouldPart_105 rfl ?_
            obtain ⟨hb25, hW⟩ := hW
            refine J.iald (x := I23 25 y4.toNatClampNeg) dX2_wouldPart_107 (lt25 hs) (kk25 hs) hb25 rfl ?_
            refine J.callV (M' := mX2_likes) (index := 200) (bc := 0) (bs := 0) (bc' := 0) (bs' := 0) (st := [.int r24]) [.int x2, .int (I23 25 y4.toNatClampNeg)] ml_X2_200 cv_X2_likes dX2_wouldPart_108 (lt63 hs) (kk63 hs) (by decide) rfl rfl rfl rfl (Nat.le_of_ble_eq_true rfl) (kqi hW (fun r27 I26 hW => ?_))
            have hj : J E mX2_wouldPart (d + 6) Q 0 0 119 [some (.ref (eB E + 63)), some (.int x1), some (.int x2), some (.ref (eB E + 24)), some (.int y2), some (.int y4)] [.int (bI (¬ (r24 ≤ r27)))] h I26 L := by
              exact J.reti dX2_wouldPart_119 rfl (bz_nar (bI_bz _)) hW
            refine J.ic_le 118 dX2_wouldPart_111 (by decide) (fun hc28 => ?_) (fun hc28 => ?_)
            · refine J.iconst (v := 0) dX2_wouldPart_118 (by decide) ?_
              rw [show bI (¬ (r24 ≤ r27)) = 0 from bI_f (by simp only [eq_true hc28, and_true, true_and, and_false, false_and, or_true, true_or, or_false, false_or, not_true_eq_false, not_false_eq_true])] at hj
              exact hj
            · refine J.iconst (v := 1) dX2_wouldPart_114 (by decide) ?_
              refine J.goto 119 dX2_wouldPart_115 (by decide) ?_
              rw [show bI (¬ (r24 ≤ r27)) = 1 from bI_t (by simp only [eq_false hc28, and_true, true_and, and_false, false_and, or_true, true_or, or_false, false_or, not_true_eq_false, not_false_eq_true])] at hj
              exact hj
      · have hc13 := bI_0.mp hc13
        have hW := hW.2 hc13
        refine J.iconst (v := 0) dX2_wouldPart_61 (by decide) ?_
        exact J.reti dX2_wouldPart_62 rfl (bz_nar (Or.inl rfl)) hW
set_option maxRecDepth 100000 in
set_option maxHeartbeats 4000000 in
theorem w_X3_forget {E : Envt} {d : Nat} {Q : Pst} {h : mS} {I : mI} {L : mL} (hs : SL h)  
    (hW : (CT E mJ7_fill_53178 d 0 0 [.ref (eB E + 57), .int (-1)] h I L (qv h L fun I1 => Q none h I1 L))) :
    CT E mX3_forget (d + 1) 0 0 [.ref (eB E + 56)] h I L Q := by
  refine CT.of (by decide) [some (.ref (eB E + 56))] rfl (Nat.le_of_ble_eq_true rfl) ?_
  refine J.aload_n dX3_forget_0 rfl rfl ?_
  refine J.getR (r := 57) fl_X3_11 rfl dX3_forget_1 (lt56 hs) (kk56 hs) (rr56_1 hs) ?_
  refine J.iconst (v := (-1)) dX3_forget_4 (by decide) ?_
  refine J.callS (M' := mJ7_fill_53178) (index := 34) (bc := 0) (bs := 0) (bc' := 0) (bs' := 0) (st := []) [.ref (eB E + 57), .int (-1)] ml_X3_34 cv_J7_fill_53178 dX3_forget_5 rfl rfl (Nat.le_of_ble_eq_true rfl) (kqv hW (fun I1 hW => ?_))
  exact J.retv dX3_forget_8 rfl hW
set_option maxRecDepth 100000 in
set_option maxHeartbeats 4000000 in
theorem w_X3_isChildOf {E : Envt} {d : Nat} {Q : Pst} {h : mS} {I : mI} {L : mL} (hs : SL h) (x1 : Int32) (x2 : Int32) 
    (hW : (∀ y1 : Int32, y1 = (I 56 7) + (x1 * 2) → (vp_in y1 200 ∧ ((¬ ((I 58 y1.toNatClampNeg) = x2) → vp_in (y1 + 1) 200) ∧ Q (some (.int (bI (((I 58 y1.toNatClampNeg) = x2) ∨ ((I 58 ((y1 + 1).toNatClampNeg)) = x2))))) h I L)))) :
    CT E mX3_isChildOf d 0 0 [.ref (eB E + 56), .int x1, .int x2] h I L Q := by
  refine CT.of (by decide) [some (.ref (eB E + 56)), some (.int x1), some (.int x2), none] rfl (Nat.le_of_ble_eq_true rfl) ?_
  refine J.aload_n dX3_isChildOf_0 rfl rfl ?_
  refine J.getI (x := I 56 7) fl_X3_52 rfl dX3_isChildOf_1 (lt56 hs) (kk56 hs) rfl ?_
  refine J.iload_n dX3_isChildOf_4 rfl rfl ?_
  refine J.iconst (v := 2) dX3_isChildOf_5 (by decide) ?_
  refine J.imul dX3_isChildOf_6 ?_
  refine J.iadd dX3_isChildOf_7 ?_
  refine J.topi (fun y1 hyy1 => ?_)
  have hW := hW y1 hyy1
  refine J.istore_n (vs' := [some (.ref (eB E + 56)), some (.int x1), some (.int x2), some (.int y1)]) dX3_isChildOf_8 rfl (by decide) rfl ?_
  refine J.aload_n dX3_isChildOf_9 rfl rfl ?_
  refine J.getR (r := 58) fl_X3_15 rfl dX3_isChildOf_10 (lt56 hs) (kk56 hs) (rr56_2 hs) ?_
  refine J.iload_n dX3_isChildOf_13 rfl rfl ?_
  obtain ⟨hb2, hW⟩ := hW
  refine J.iald (x := I 58 y1.toNatClampNeg) dX3_isChildOf_14 (lt58 hs) (kk58 hs) hb2 rfl ?_
  refine J.iload_n dX3_isChildOf_15 rfl rfl ?_
  obtain ⟨hq5, hW⟩ := hW
  have hj : J E mX3_isChildOf d Q 0 0 36 [some (.ref (eB E + 56)), some (.int x1), some (.int x2), some (.int y1)] [.int (bI (((I 58 y1.toNatClampNeg) = x2) ∨ ((I 58 ((y1 + 1).toNatClampNeg)) = x2)))] h I L := by
    exact J.reti dX3_isChildOf_36 rfl (bz_nar (bI_bz _)) hW
  refine J.ic_eq 31 dX3_isChildOf_16 (by decide) (fun hc3 => ?_) (fun hc3 => ?_)
  · refine J.iconst (v := 1) dX3_isChildOf_31 (by decide) ?_
    refine J.goto 36 dX3_isChildOf_32 (by decide) ?_
    rw [show bI (((I 58 y1.toNatClampNeg) = x2) ∨ ((I 58 ((y1 + 1).toNatClampNeg)) = x2)) = 1 from bI_t (by simp only [eq_true hc3, and_true, true_and, and_false, false_and, or_true, true_or, or_false, false_or, not_true_eq_false, not_false_eq_true])] at hj
    exact hj
  · refine J.aload_n dX3_isChildOf_19 rfl rfl ?_
    refine J.getR (r := 58) fl_X3_15 rfl dX3_isChildOf_20 (lt56 hs) (kk56 hs) (rr56_2 hs) ?_
    refine J.iload_n dX3_isChildOf_23 rfl rfl ?_
    refine J.iconst (v := 1) dX3_isChildOf_24 (by decide) ?_
    refine J.iadd dX3_isChildOf_25 ?_
    have hb4 := hq5 hc3
    refine J.iald (x := I 58 ((y1 + 1).toNatClampNeg)) dX3_isChildOf_26 (lt58 hs) (kk58 hs) hb4 rfl ?_
    refine J.iload_n dX3_isChildOf_27 rfl rfl ?_
    refine J.ic_ne 35 dX3_isChildOf_28 (by decide) (fun hc6 => ?_) (fun hc6 => ?_)
    · refine J.iconst (v := 0) dX3_isChildOf_35 (by decide) ?_
      rw [show bI (((I 58 y1.toNatClampNeg) = x2) ∨ ((I 58 ((y1 + 1).toNatClampNeg)) = x2)) = 0 from bI_f (by simp only [eq_false hc3, eq_false hc6, and_true, true_and, and_false, false_and, or_true, true_or, or_false, false_or, not_true_eq_false, not_false_eq_true])] at hj
      exact hj
    · refine J.iconst (v := 1) dX3_isChildOf_31 (by decide) ?_
      refine J.goto 36 dX3_isChildOf_32 (by decide) ?_
      rw [show bI (((I 58 y1.toNatClampNeg) = x2) ∨ ((I 58 ((y1 + 1).toNatClampNeg)) = x2)) = 1 from bI_t (by simp only [eq_false hc3, eq_true hc6, and_true, true_and, and_false, false_and, or_true, true_or, or_false, false_or, not_true_eq_false, not_false_eq_true])] at hj
      exact hj
set_option maxRecDepth 100000 in
set_option maxHeartbeats 4000000 in
theorem w_X3_descend {E : Envt} {d : Nat} {Q : Pst} {h : mS} {I : mI} {L : mL} (hs : SL h) (x1 : Int32) 
    (hW : (CT E mJ7_fill_53178 d 0 0 [.ref (eB E + 61), .int (-1)] h I L (qv h L fun I1 => (vp_in x1 20 ∧ J E mX3_descend (d + 1) Q 0 0 26 [some (.ref (eB E + 56)), some (.int x1), some (.int 1), some (.int 0), none] [] h (uI (uI I1 61 x1.toNatClampNeg 0) 62 0 x1) L)))) :
    CT E mX3_descend (d + 1) 0 0 [.ref (eB E + 56), .int x1] h I L Q := by
  refine CT.of (by decide) [some (.ref (eB E + 56)), some (.int x1), none, none, none] rfl (Nat.le_of_ble_eq_true rfl) ?_
  refine J.aload_n dX3_descend_0 rfl rfl ?_
  refine J.getR (r := 61) fl_X3_24 rfl dX3_descend_1 (lt56 hs) (kk56 hs) (rr56_5 hs) ?_
  refine J.iconst (v := (-1)) dX3_descend_4 (by decide) ?_
  refine J.callS (M' := mJ7_fill_53178) (index := 34) (bc := 0) (bs := 0) (bc' := 0) (bs' := 0) (st := []) [.ref (eB E + 61), .int (-1)] ml_X3_34 cv_J7_fill_53178 dX3_descend_5 rfl rfl (Nat.le_of_ble_eq_true rfl) (kqv hW (fun I1 hW => ?_))
  refine J.aload_n dX3_descend_8 rfl rfl ?_
  refine J.getR (r := 61) fl_X3_24 rfl dX3_descend_9 (lt56 hs) (kk56 hs) (rr56_5 hs) ?_
  refine J.iload_n dX3_descend_12 rfl rfl ?_
  refine J.iconst (v := 0) dX3_descend_13 (by decide) ?_
  obtain ⟨hb2, hW⟩ := hW
  refine J.iast dX3_descend_14 (lt61 hs) (kk61 hs) hb2 ?_
  refine J.aload_n dX3_descend_15 rfl rfl ?_
  refine J.getR (r := 62) fl_X3_27 rfl dX3_descend_16 (lt56 hs) (kk56 hs) (rr56_6 hs) ?_
  refine J.iconst (v := 0) dX3_descend_19 (by decide) ?_
  refine J.iload_n dX3_descend_20 rfl rfl ?_
  refine J.iast dX3_descend_21 (lt62 hs) (kk62 hs) (by unfold vp_in; decide) ?_
  refine J.iconst (v := 1) dX3_descend_22 (by decide) ?_
  refine J.istore_n (vs' := [some (.ref (eB E + 56)), some (.int x1), some (.int 1), none, none]) dX3_descend_23 rfl (by decide) rfl ?_
  refine J.iconst (v := 0) dX3_descend_24 (by decide) ?_
  refine J.istore_n (vs' := [some (.ref (eB E + 56)), some (.int x1), some (.int 1), some (.int 0), none]) dX3_descend_25 rfl (by decide) rfl ?_
  exact hW
set_option maxRecDepth 100000 in
set_option maxHeartbeats 4000000 in
theorem w_X3_descend_26 {E : Envt} {d : Nat} {Q : Pst} {h : mS} {I : mI} {L : mL} (hs : SL h)    (x1 : Int32) (x2 : Int32) (x3 : Int32)
    (hW : (((x2 ≤ x3) → Q none h I L) ∧ (¬ (x2 ≤ x3) → (((20 ≤ x3) → Q none h I L) ∧ (¬ (20 ≤ x3) → J E mX3_descend (d + 1) Q 0 0 40 [some (.ref (eB E + 56)), some (.int x1), some (.int x2), some (.int x3), some (.int 0)] [] h I L))))) :
    J E mX3_descend (d + 1) Q 0 0 26 [some (.ref (eB E + 56)), some (.int x1), some (.int x2), some (.int x3), none] [] h I L := by
  refine J.iload_n dX3_descend_26 rfl rfl ?_
  refine J.iload_n dX3_descend_27 rfl rfl ?_
  refine J.ic_ge 130 dX3_descend_28 (by decide) (fun hc1 => ?_) (fun hc1 => ?_)
  · have hW := hW.1 hc1
    exact J.retv dX3_descend_130 rfl hW
  · have hW := hW.2 hc1
    refine J.iload_n dX3_descend_31 rfl rfl ?_
    refine J.bipush (v := 20) dX3_descend_32 (by decide) ?_
    refine J.ic_ge 130 dX3_descend_34 (by decide) (fun hc2 => ?_) (fun hc2 => ?_)
    · have hW := hW.1 hc2
      exact J.retv dX3_descend_130 rfl hW
    · have hW := hW.2 hc2
      refine J.iconst (v := 0) dX3_descend_37 (by decide) ?_
      refine J.istore (vs' := [some (.ref (eB E + 56)), some (.int x1), some (.int x2), some (.int x3), some (.int 0)]) dX3_descend_38 (by decide) rfl ?_
      exact hW
set_option maxRecDepth 100000 in
set_option maxHeartbeats 4000000 in
theorem w_X3_descend_40 {E : Envt} {d : Nat} {Q : Pst} {h : mS} {I : mI} {L : mL} (hs : SL h)    (x1 : Int32) (x2 : Int32) (x3 : Int32) (x4 : Int32)
    (hW : ((((I 7 0) ≤ x4) → J E mX3_descend (d + 1) Q 0 0 26 [some (.ref (eB E + 56)), some (.int x1), some (.int x2), some (.int (x3 + 1)), none] [] h I L) ∧ (¬ ((I 7 0) ≤ x4) → (vp_in x3 20 ∧ (CT E mX3_isChildOf d 0 0 [.ref (eB E + 56), .int x4, .int (I 62 x3.toNatClampNeg)] h I L (qi h L fun r4 I3 => (((r4 = 0) → J E mX3_descend (d + 1) Q 0 0 40 [some (.ref (eB E + 56)), some (.int x1), some (.int x2), some (.int x3), some (.int (x4 + 1))] [] h I3 L) ∧ (¬ (r4 = 0) → (vp_in x4 20 ∧ ((((I3 61 x4.toNatClampNeg) = (-1)) → (((20 ≤ x2) → J E mX3_descend (d + 1) Q 0 0 40 [some (.ref (eB E + 56)), some (.int x1), some (.int x2), some (.int x3), some (.int (x4 + 1))] [] h I3 L) ∧ (¬ (20 ≤ x2) → (vp_in (I3 62 x3.toNatClampNeg) 20 ∧ (vp_in x2 20 ∧ J E mX3_descend (d + 1) Q 0 0 40 [some (.ref (eB E + 56)), some (.int x1), some (.int (x2 + 1)), some (.int x3), some (.int (x4 + 1))] [] h (uI (uI I3 61 x4.toNatClampNeg ((I3 61 ((I3 62 x3.toNatClampNeg).toNatClampNeg)) + 1)) 62 x2.toNatClampNeg x4) L))))) ∧ (¬ ((I3 61 x4.toNatClampNeg) = (-1)) → J E mX3_descend (d + 1) Q 0 0 40 [some (.ref (eB E + 56)), some (.int x1), some (.int x2), some (.int x3), some (.int (x4 + 1))] [] h I3 L))))))))))) :
    J E mX3_descend (d + 1) Q 0 0 40 [some (.ref (eB E + 56)), some (.int x1), some (.int x2), some (.int x3), some (.int x4)] [] h I L := by
  refine J.iload dX3_descend_40 rfl ?_
  refine J.aload_n dX3_descend_42 rfl rfl ?_
  refine J.getR (r := 1) fl_X3_30 rfl dX3_descend_43 (lt56 hs) (kk56 hs) (rr56_0 hs) ?_
  refine J.getR (r := 7) fl_X3_63 rfl dX3_descend_46 (lt1 hs) (kk1 hs) (rr1_2 hs) ?_
  refine J.getI (x := I 7 0) fl_X3_69 rfl dX3_descend_49 (lt7 hs) (kk7 hs) rfl ?_
  refine J.ic_ge 124 dX3_descend_52 (by decide) (fun hc1 => ?_) (fun hc1 => ?_)
  · have hW := hW.1 hc1
    refine J.iinc (v := x3 + 1) (vs' := [some (.ref (eB E + 56)), some (.int x1), some (.int x2), some (.int (x3 + 1)), some (.int x4)]) dX3_descend_124 rfl (by rfl) (by decide) rfl ?_
    refine J.goto 26 dX3_descend_127 (by decide) ?_
    exact J.mask [true, true, true, true, false] rfl hW
  · have hW := hW.2 hc1
    refine J.aload_n dX3_descend_55 rfl rfl ?_
    refine J.iload dX3_descend_56 rfl ?_
    refine J.aload_n dX3_descend_58 rfl rfl ?_
    refine J.getR (r := 62) fl_X3_27 rfl dX3_descend_59 (lt56 hs) (kk56 hs) (rr56_6 hs) ?_
    refine J.iload_n dX3_descend_62 rfl rfl ?_
    obtain ⟨hb2, hW⟩ := hW
    refine J.iald (x := I 62 x3.toNatClampNeg) dX3_descend_63 (lt62 hs) (kk62 hs) hb2 rfl ?_
    refine J.callV (M' := mX3_isChildOf) (index := 101) (bc := 0) (bs := 0) (bc' := 0) (bs' := 0) (st := []) [.int x4, .int (I 62 x3.toNatClampNeg)] ml_X3_101 cv_X3_isChildOf dX3_descend_64 (lt56 hs) (kk56 hs) (by decide) rfl rfl rfl rfl (Nat.le_of_ble_eq_true rfl) (kqi hW (fun r4 I3 hW => ?_))
    refine J.if_eq 118 dX3_descend_67 (by decide) (fun hc5 => ?_) (fun hc5 => ?_)
    · have hW := hW.1 hc5
      refine J.iinc (v := x4 + 1) (vs' := [some (.ref (eB E + 56)), some (.int x1), some (.int x2), some (.int x3), some (.int (x4 + 1))]) dX3_descend_118 rfl (by rfl) (by decide) rfl ?_
      refine J.goto 40 dX3_descend_121 (by decide) ?_
      exact hW
    · have hW := hW.2 hc5
      refine J.aload_n dX3_descend_70 rfl rfl ?_
      refine J.getR (r := 61) fl_X3_24 rfl dX3_descend_71 (lt56 hs) (kk56 hs) (rr56_5 hs) ?_
      refine J.iload dX3_descend_74 rfl ?_
      obtain ⟨hb6, hW⟩ := hW
      refine J.iald (x := I3 61 x4.toNatClampNeg) dX3_descend_76 (lt61 hs) (kk61 hs) hb6 rfl ?_
      refine J.iconst (v := (-1)) dX3_descend_77 (by decide) ?_
      refine J.ic_ne 118 dX3_descend_78 (by decide) (fun hc7 => ?_) (fun hc7 => ?_)
      · have hW := hW.2 hc7
        refine J.iinc (v := x4 + 1) (vs' := [some (.ref (eB E + 56)), some (.int x1), some (.int x2), some (.int x3), some (.int (x4 + 1))]) dX3_descend_118 rfl (by rfl) (by decide) rfl ?_
        refine J.goto 40 dX3_descend_121 (by decide) ?_
        exact hW
      · have hW := hW.1 hc7
        refine J.iload_n dX3_descend_81 rfl rfl ?_
        refine J.bipush (v := 20) dX3_descend_82 (by decide) ?_
        refine J.ic_ge 118 dX3_descend_84 (by decide) (fun hc8 => ?_) (fun hc8 => ?_)
        · have hW := hW.1 hc8
          refine J.iinc (v := x4 + 1) (vs' := [some (.ref (eB E + 56)), some (.int x1), some (.int x2), some (.int x3), some (.int (x4 + 1))]) dX3_descend_118 rfl (by rfl) (by decide) rfl ?_
          refine J.goto 40 dX3_descend_121 (by decide) ?_
          exact hW
        · have hW := hW.2 hc8
          refine J.aload_n dX3_descend_87 rfl rfl ?_
          refine J.getR (r := 61) fl_X3_24 rfl dX3_descend_88 (lt56 hs) (kk56 hs) (rr56_5 hs) ?_
          refine J.iload dX3_descend_91 rfl ?_
          refine J.aload_n dX3_descend_93 rfl rfl ?_
          refine J.getR (r := 61) fl_X3_24 rfl dX3_descend_94 (lt56 hs) (kk56 hs) (rr56_5 hs) ?_
          refine J.aload_n dX3_descend_97 rfl rfl ?_
          refine J.getR (r := 62) fl_X3_27 rfl dX3_descend_98 (lt56 hs) (kk56 hs) (rr56_6 hs) ?_
          refine J.iload_n dX3_descend_101 rfl rfl ?_
          refine J.iald (x := I3 62 x3.toNatClampNeg) dX3_descend_102 (lt62 hs) (kk62 hs) hb2 rfl ?_
          obtain ⟨hb9, hW⟩ := hW
          refine J.iald (x := I3 61 ((I3 62 x3.toNatClampNeg).toNatClampNeg)) dX3_descend_103 (lt61 hs) (kk61 hs) hb9 rfl ?_
          refine J.iconst (v := 1) dX3_descend_104 (by decide) ?_
          refine J.iadd dX3_descend_105 ?_
          refine J.iast dX3_descend_106 (lt61 hs) (kk61 hs) hb6 ?_
          refine J.aload_n dX3_descend_107 rfl rfl ?_
          refine J.getR (r := 62) fl_X3_27 rfl dX3_descend_108 (lt56 hs) (kk56 hs) (rr56_6 hs) ?_
          refine J.iload_n dX3_descend_111 rfl rfl ?_
          refine J.iload dX3_descend_112 rfl ?_
          obtain ⟨hb10, hW⟩ := hW
          refine J.iast dX3_descend_114 (lt62 hs) (kk62 hs) hb10 ?_
          refine J.iinc (v := x2 + 1) (vs' := [some (.ref (eB E + 56)), some (.int x1), some (.int (x2 + 1)), some (.int x3), some (.int x4)]) dX3_descend_115 rfl (by rfl) (by decide) rfl ?_
          refine J.iinc (v := x4 + 1) (vs' := [some (.ref (eB E + 56)), some (.int x1), some (.int (x2 + 1)), some (.int x3), some (.int (x4 + 1))]) dX3_descend_118 rfl (by rfl) (by decide) rfl ?_
          refine J.goto 40 dX3_descend_121 (by decide) ?_
          exact hW
