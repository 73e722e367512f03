set_option maxRecDepth 100000 in
set_option maxHeartbeats 4000000 in
theorem w_X12_isFree {E : Envt} {d : Nat} {Q : Pst} {h : mS} {I : mI} {L : mL} (hs : SL h) (x1 : Int32) 
    (hW : (vp_in x1 80 ∧ ((((I 100 x1.toNatClampNeg) = 0) → ((((I 101 x1.toNatClampNeg) = (-1)) → (CT E mX12_openOf (d + 1) 0 0 [.ref (eB E + 83), .int x1] h I L (qi h L fun r5 I4 => Q (some (.int (bI (r5 = (-1))))) h I4 L))) ∧ (¬ ((I 101 x1.toNatClampNeg) = (-1)) → Q (some (.int 0)) h I L))) ∧ (¬ ((I 100 x1.toNatClampNeg) = 0) → Q (some (.int 0)) h I L)))) :
    CT E mX12_isFree (d + 2) 0 0 [.ref (eB E + 83), .int x1] h I L Q := by
  refine CT.of (by decide) [some (.ref (eB E + 83)), some (.int x1)] rfl (Nat.le_of_ble_eq_true rfl) ?_
  refine J.aload_n dX12_isFree_0 rfl rfl ?_
  refine J.getR (r := 100) fl_X12_59 rfl dX12_isFree_1 (lt83 hs) (kk83 hs) (rr83_17 hs) ?_
  refine J.iload_n dX12_isFree_4 rfl rfl ?_
  obtain ⟨hb1, hW⟩ := hW
  refine J.zald (x := I 100 x1.toNatClampNeg) dX12_isFree_5 (lt100 hs) (kk100 hs) hb1 rfl ?_
  refine J.if_ne 32 dX12_isFree_6 (by decide) (fun hc2 => ?_) (fun hc2 => ?_)
  · have hW := hW.2 hc2
    refine J.iconst (v := 0) dX12_isFree_32 (by decide) ?_
    exact J.reti dX12_isFree_33 rfl (bz_nar (Or.inl rfl)) hW
  · have hW := hW.1 hc2
    refine J.aload_n dX12_isFree_9 rfl rfl ?_
    refine J.getR (r := 101) fl_X12_63 rfl dX12_isFree_10 (lt83 hs) (kk83 hs) (rr83_18 hs) ?_
    refine J.iload_n dX12_isFree_13 rfl rfl ?_
    refine J.iald (x := I 101 x1.toNatClampNeg) dX12_isFree_14 (lt101 hs) (kk101 hs) hb1 rfl ?_
    refine J.iconst (v := (-1)) dX12_isFree_15 (by decide) ?_
    refine J.ic_ne 32 dX12_isFree_16 (by decide) (fun hc3 => ?_) (fun hc3 => ?_)
    · have hW := hW.2 hc3
      refine J.iconst (v := 0) dX12_isFree_32 (by decide) ?_
      exact J.reti dX12_isFree_33 rfl (bz_nar (Or.inl rfl)) hW
    · have hW := hW.1 hc3
      refine J.aload_n dX12_isFree_19 rfl rfl ?_
      refine J.iload_n dX12_isFree_20 rfl rfl ?_
      refine J.callV (M' := mX12_openOf) (index := 245) (bc := 0) (bs := 0) (bc' := 0) (bs' := 0) (st := []) [.int x1] ml_X12_245 cv_X12_openOf dX12_isFree_21 (lt83 hs) (kk83 hs) (by decide) rfl rfl rfl rfl (Nat.le_of_ble_eq_true rfl) (kqi hW (fun r5 I4 hW => ?_))
      refine J.iconst (v := (-1)) dX12_isFree_24 (by decide) ?_
      have hj : J E mX12_isFree (d + 2) Q 0 0 33 [some (.ref (eB E + 83)), some (.int x1)] [.int (bI (r5 = (-1)))] h I4 L := by
        exact J.reti dX12_isFree_33 rfl (bz_nar (bI_bz _)) hW
      refine J.ic_ne 32 dX12_isFree_25 (by decide) (fun hc6 => ?_) (fun hc6 => ?_)
      · refine J.iconst (v := 0) dX12_isFree_32 (by decide) ?_
        rw [show bI (r5 = (-1)) = 0 from bI_f (by simp only [eq_false hc6, and_true, true_and, and_false, false_and, or_true, true_or, or_false, false_or, not_true_eq_false, not_false_eq_true])] at hj
        exact hj
      · refine J.iconst (v := 1) dX12_isFree_28 (by decide) ?_
        refine J.goto 33 dX12_isFree_29 (by decide) ?_
        rw [show bI (r5 = (-1)) = 1 from bI_t (by simp only [eq_true hc6, and_true, true_and, and_false, false_and, or_true, true_or, or_false, false_or, not_true_eq_false, not_false_eq_true])] at hj
        exact hj
set_option maxRecDepth 100000 in
set_option maxHeartbeats 4000000 in
theorem w_X12_tell {E : Envt} {d : Nat} {Q : Pst} {h : mS} {I : mI} {L : mL} (hs : SL h) (x1 : Int32) (x2 : Int32) 
    (hW : (((¬ (x1 < 0) ∧ (¬ ((((uI I 83 0 0) 95 0) - 1) < x1))) → ((x2 = 0 → (vp_in x1 80 ∧ Q (some (.int (I 96 x1.toNatClampNeg))) h (uI I 83 0 0) L)) ∧ (x2 = 1 → (vp_in x1 80 ∧ Q (some (.int (I 97 x1.toNatClampNeg))) h (uI I 83 0 0) L)) ∧ (x2 = 2 → (vp_in x1 80 ∧ Q (some (.int (I 98 x1.toNatClampNeg))) h (uI I 83 0 0) L)) ∧ (x2 = 3 → (vp_in x1 80 ∧ Q (some (.int (I 99 x1.toNatClampNeg))) h (uI I 83 0 0) L)) ∧ (x2 = 4 → ((vp_in x1 80) ∧ Q (some (.int (((uI I 83 0 0) 88 0) - ((uI I 83 0 0) 99 x1.toNatClampNeg)))) h (uI I 83 0 0) L)) ∧ (x2 = 5 → (vp_in x1 80 ∧ Q (some (.int (bI ((I 100 x1.toNatClampNeg) = 0)))) h (uI I 83 0 0) L)) ∧ (x2 = 6 → (vp_in x1 80 ∧ Q (some (.int (I 101 x1.toNatClampNeg))) h (uI I 83 0 0) L)) ∧ (x2 = 7 → (vp_in x1 80 ∧ Q (some (.int (bI (¬ ((I 102 x1.toNatClampNeg) = 0))))) h (uI I 83 0 0) L)) ∧ (x2 = 8 → (CT E mX12_openOf (d + 2) 0 0 [.ref (eB E + 83), .int x1] h (uI I 83 0 0) L (qi h L fun r17 I16 => Q (some (.int r17)) h I16 L))) ∧ (x2 = 9 → (CT E mX12_isFree (d + 2) 0 0 [.ref (eB E + 83), .int x1] h (uI I 83 0 0) L (qi h L fun r19 I18 => Q (some (.int (bI (¬ (r19 = 0))))) h I18 L))) ∧ (¬ x2 = 0 → ¬ x2 = 1 → ¬ x2 = 2 → ¬ x2 = 3 → ¬ x2 = 4 → ¬ x2 = 5 → ¬ x2 = 6 → ¬ x2 = 7 → ¬ x2 = 8 → ¬ x2 = 9 → Q (some (.int (-100))) h (uI I 83 0 0) L))) ∧ (¬ (¬ (x1 < 0) ∧ (¬ ((((uI I 83 0 0) 95 0) - 1) < x1))) → Q (some (.int (-100))) h (uI I 83 0 0) L))) :
    CT E mX12_tell (d + 3) 0 0 [.ref (eB E + 83), .int x1, .int x2] h I L Q := by
  refine CT.of (by decide) [some (.ref (eB E + 83)), some (.int x1), some (.int x2)] rfl (Nat.le_of_ble_eq_true rfl) ?_
  refine J.aload_n dX12_tell_0 rfl rfl ?_
  refine J.iconst (v := 0) dX12_tell_1 (by decide) ?_
  refine J.putI fw_X12_202 rfl dX12_tell_2 (lt83 hs) (kk83 hs) ?_
  refine J.aload_n dX12_tell_5 rfl rfl ?_
  refine J.iload_n dX12_tell_6 rfl rfl ?_
  refine J.callV (M' := mX12_isPerson) (index := 222) (bc := 0) (bs := 0) (bc' := 0) (bs' := 0) (st := []) [.int x1] ml_X12_222 cv_X12_isPerson dX12_tell_7 (lt83 hs) (kk83 hs) (by decide) rfl rfl rfl rfl (Nat.le_of_ble_eq_true rfl) (kqi (w_X12_isPerson (d := d + 1) (Q := qi h L (fun v I' => I' = (uI I 83 0 0) ∧ v = bI (¬ (x1 < 0) ∧ (¬ ((((uI I 83 0 0) 95 0) - 1) < x1))))) hs x1 ⟨rfl, rfl, _, rfl, rfl, rfl⟩) (fun v1 I2 hv => ?_))
  rw [hv.1, hv.2]
  refine J.if_ne 16 dX12_tell_10 (by decide) (fun hc3 => ?_) (fun hc3 => ?_)
  · have hc3 := bI_n0.mp hc3
    have hW := hW.1 hc3
    refine J.iload_n dX12_tell_16 rfl rfl ?_
    by_cases hk21 : x2 = 0
    · have hW := hW.1 hk21
      refine J.tableIn (off := 55) 72 dX12_tell_17 (by rw [hk21] <;> decide) (by rw [hk21] <;> decide) (by rw [hk21] <;> rfl) (by decide) ?_
      refine J.aload_n dX12_tell_72 rfl rfl ?_
      refine J.getR (r := 96) fl_X12_47 rfl dX12_tell_73 (lt83 hs) (kk83 hs) (rr83_13 hs) ?_
      refine J.iload_n dX12_tell_76 rfl rfl ?_
      obtain ⟨hb4, hW⟩ := hW
      refine J.iald (x := I 96 x1.toNatClampNeg) dX12_tell_77 (lt96 hs) (kk96 hs) hb4 rfl ?_
      exact J.reti dX12_tell_78 rfl rfl hW
    by_cases hk22 : x2 = 1
    · have hW := hW.2.1 hk22
      refine J.tableIn (off := 62) 79 dX12_tell_17 (by rw [hk22] <;> decide) (by rw [hk22] <;> decide) (by rw [hk22] <;> rfl) (by decide) ?_
      refine J.aload_n dX12_tell_79 rfl rfl ?_
      refine J.getR (r := 97) fl_X12_50 rfl dX12_tell_80 (lt83 hs) (kk83 hs) (rr83_14 hs) ?_
      refine J.iload_n dX12_tell_83 rfl rfl ?_
      obtain ⟨hb5, hW⟩ := hW
      refine J.iald (x := I 97 x1.toNatClampNeg) dX12_tell_84 (lt97 hs) (kk97 hs) hb5 rfl ?_
      exact J.reti dX12_tell_85 rfl rfl hW
    by_cases hk23 : x2 = 2
    · have hW := hW.2.2.1 hk23
      refine J.tableIn (off := 69) 86 dX12_tell_17 (by rw [hk23] <;> decide) (by rw [hk23] <;> decide) (by rw [hk23] <;> rfl) (by decide) ?_
      refine J.aload_n dX12_tell_86 rfl rfl ?_
      refine J.getR (r := 98) fl_X12_53 rfl dX12_tell_87 (lt83 hs) (kk83 hs) (rr83_15 hs) ?_
      refine J.iload_n dX12_tell_90 rfl rfl ?_
      obtain ⟨hb6, hW⟩ := hW
      refine J.iald (x := I 98 x1.toNatClampNeg) dX12_tell_91 (lt98 hs) (kk98 hs) hb6 rfl ?_
      exact J.reti dX12_tell_92 rfl rfl hW
    by_cases hk24 : x2 = 3
    · have hW := hW.2.2.2.1 hk24
      refine J.tableIn (off := 76) 93 dX12_tell_17 (by rw [hk24] <;> decide) (by rw [hk24] <;> decide) (by rw [hk24] <;> rfl) (by decide) ?_
      refine J.aload_n dX12_tell_93 rfl rfl ?_
      refine J.getR (r := 99) fl_X12_56 rfl dX12_tell_94 (lt83 hs) (kk83 hs) (rr83_16 hs) ?_
      refine J.iload_n dX12_tell_97 rfl rfl ?_
      obtain ⟨hb7, hW⟩ := hW
      refine J.iald (x := I 99 x1.toNatClampNeg) dX12_tell_98 (lt99 hs) (kk99 hs) hb7 rfl ?_
      exact J.reti dX12_tell_99 rfl rfl hW
    by_cases hk25 : x2 = 4
    · have hW := hW.2.2.2.2.1 hk25
      refine J.tableIn (off := 83) 100 dX12_tell_17 (by rw [hk25] <;> decide) (by rw [hk25] <;> decide) (by rw [hk25] <;> rfl) (by decide) ?_
      refine J.aload_n dX12_tell_100 rfl rfl ?_
      refine J.iload_n dX12_tell_101 rfl rfl ?_
      obtain ⟨hb8, hW⟩ := hW
      refine J.callV (M' := mX12_ageOf) (index := 275) (bc := 0) (bs := 0) (bc' := 0) (bs' := 0) (st := []) [.int x1] ml_X12_275 cv_X12_ageOf dX12_tell_102 (lt83 hs) (kk83 hs) (by decide) rfl rfl rfl rfl (Nat.le_of_ble_eq_true rfl) (kqi (w_X12_ageOf (d := d + 2) (Q := qi h L (fun v I' => I' = (uI I 83 0 0) ∧ v = ((uI I 83 0 0) 88 0) - ((uI I 83 0 0) 99 x1.toNatClampNeg))) hs x1 ⟨hb8, rfl, rfl, _, rfl, rfl, rfl⟩) (fun v9 I10 hv => ?_))
      rw [hv.1, hv.2]
      exact J.reti dX12_tell_105 rfl rfl hW
    by_cases hk26 : x2 = 5
    · have hW := hW.2.2.2.2.2.1 hk26
      refine J.tableIn (off := 89) 106 dX12_tell_17 (by rw [hk26] <;> decide) (by rw [hk26] <;> decide) (by rw [hk26] <;> rfl) (by decide) ?_
      refine J.aload_n dX12_tell_106 rfl rfl ?_
      refine J.getR (r := 100) fl_X12_59 rfl dX12_tell_107 (lt83 hs) (kk83 hs) (rr83_17 hs) ?_
      refine J.iload_n dX12_tell_110 rfl rfl ?_
      obtain ⟨hb11, hW⟩ := hW
      refine J.zald (x := I 100 x1.toNatClampNeg) dX12_tell_111 (lt100 hs) (kk100 hs) hb11 rfl ?_
      have hj : J E mX12_tell (d + 3) Q 0 0 120 [some (.ref (eB E + 83)), some (.int x1), some (.int x2)] [.int (bI ((I 100 x1.toNatClampNeg) = 0))] h (uI I 83 0 0) L := by
        exact J.reti dX12_tell_120 rfl rfl hW
      refine J.if_eq 119 dX12_tell_112 (by decide) (fun hc12 => ?_) (fun hc12 => ?_)
      · refine J.iconst (v := 1) dX12_tell_119 (by decide) ?_
        rw [show bI ((I 100 x1.toNatClampNeg) = 0) = 1 from bI_t (by simp only [eq_true hc12, and_true, true_and, and_false, false_and, or_true, true_or, or_false, false_or, not_true_eq_false, not_false_eq_true])] at hj
        exact hj
      · refine J.iconst (v := 0) dX12_tell_115 (by decide) ?_
        refine J.goto 120 dX12_tell_116 (by decide) ?_
        rw [show bI ((I 100 x1.toNatClampNeg) = 0) = 0 from bI_f (by simp only [eq_false hc12, and_true, true_and, and_false, false_and, or_true, true_or, or_false, false_or, not_true_eq_false, not_false_eq_true])] at hj
        exact hj
    by_cases hk27 : x2 = 6
    · have hW := hW.2.2.2.2.2.2.1 hk27
      refine J.tableIn (off := 104) 121 dX12_tell_17 (by rw [hk27] <;> decide) (by rw [hk27] <;> decide) (by rw [hk27] <;> rfl) (by decide) ?_
      refine J.aload_n dX12_tell_121 rfl rfl ?_
      refine J.getR (r := 101) fl_X12_63 rfl dX12_tell_122 (lt83 hs) (kk83 hs) (rr83_18 hs) ?_
      refine J.iload_n dX12_tell_125 rfl rfl ?_
      obtain ⟨hb13, hW⟩ := hW
      refine J.iald (x := I 101 x1.toNatClampNeg) dX12_tell_126 (lt101 hs) (kk101 hs) hb13 rfl ?_
      exact J.reti dX12_tell_127 rfl rfl hW
    by_cases hk28 : x2 = 7
    · have hW := hW.2.2.2.2.2.2.2.1 hk28
      refine J.tableIn (off := 111) 128 dX12_tell_17 (by rw [hk28] <;> decide) (by rw [hk28] <;> decide) (by rw [hk28] <;> rfl) (by decide) ?_
      refine J.aload_n dX12_tell_128 rfl rfl ?_
      refine J.getR (r := 102) fl_X12_66 rfl dX12_tell_129 (lt83 hs) (kk83 hs) (rr83_19 hs) ?_
      refine J.iload_n dX12_tell_132 rfl rfl ?_
      obtain ⟨hb14, hW⟩ := hW
      refine J.zald (x := I 102 x1.toNatClampNeg) dX12_tell_133 (lt102 hs) (kk102 hs) hb14 rfl ?_
      have hj : J E mX12_tell (d + 3) Q 0 0 142 [some (.ref (eB E + 83)), some (.int x1), some (.int x2)] [.int (bI (¬ ((I 102 x1.toNatClampNeg) = 0)))] h (uI I 83 0 0) L := by
        exact J.reti dX12_tell_142 rfl rfl hW
      refine J.if_eq 141 dX12_tell_134 (by decide) (fun hc15 => ?_) (fun hc15 => ?_)
      · refine J.iconst (v := 0) dX12_tell_141 (by decide) ?_
        rw [show bI (¬ ((I 102 x1.toNatClampNeg) = 0)) = 0 from bI_f (by simp only [eq_true hc15, and_true, true_and, and_false, false_and, or_true, true_or, or_false, false_or, not_true_eq_false, not_false_eq_true])] at hj
        exact hj
      · refine J.iconst (v := 1) dX12_tell_137 (by decide) ?_
        refine J.goto 142 dX12_tell_138 (by decide) ?_
        rw [show bI (¬ ((I 102 x1.toNatClampNeg) = 0)) = 1 from bI_t (by simp only [eq_false hc15, and_true, true_and, and_false, false_and, or_true, true_or, or_false, false_or, not_true_eq_false, not_false_eq_true])] at hj
        exact hj
    by_cases hk29 : x2 = 8
    · have hW := hW.2.2.2.2.2.2.2.2.1 hk29
      refine J.tableIn (off := 126) 143 dX12_tell_17 (by rw [hk29] <;> decide) (by rw [hk29] <;> decide) (by rw [hk29] <;> rfl) (by decide) ?_
      refine J.aload_n dX12_tell_143 rfl rfl ?_
      refine J.iload_n dX12_tell_144 rfl rfl ?_
      refine J.callV (M' := mX12_openOf) (index := 245) (bc := 0) (bs := 0) (bc' := 0) (bs' := 0) (st := []) [.int x1] ml_X12_245 cv_X12_openOf dX12_tell_145 (lt83 hs) (kk83 hs) (by decide) rfl rfl rfl rfl (Nat.le_of_ble_eq_true rfl) (kqi hW (fun r17 I16 hW => ?_))
      exact J.reti dX12_tell_148 rfl rfl hW
    by_cases hk30 : x2 = 9
    · have hW := hW.2.2.2.2.2.2.2.2.2.1 hk30
      refine J.tableIn (off := 132) 149 dX12_tell_17 (by rw [hk30] <;> decide) (by rw [hk30] <;> decide) (by rw [hk30] <;> rfl) (by decide) ?_
      refine J.aload_n dX12_tell_149 rfl rfl ?_
      refine J.iload_n dX12_tell_150 rfl rfl ?_
      refine J.callV (M' := mX12_isFree) (index := 278) (bc := 0) (bs := 0) (bc' := 0) (bs' := 0) (st := []) [.int x1] ml_X12_278 cv_X12_isFree dX12_tell_151 (lt83 hs) (kk83 hs) (by decide) rfl rfl rfl rfl (Nat.le_of_ble_eq_true rfl) (kqi hW (fun r19 I18 hW => ?_))
      have hj : J E mX12_tell (d + 3) Q 0 0 162 [some (.ref (eB E + 83)), some (.int x1), some (.int x2)] [.int (bI (¬ (r19 = 0)))] h I18 L := by
        exact J.reti dX12_tell_162 rfl rfl hW
      refine J.if_eq 161 dX12_tell_154 (by decide) (fun hc20 => ?_) (fun hc20 => ?_)
      · refine J.iconst (v := 0) dX12_tell_161 (by decide) ?_
        rw [show bI (¬ (r19 = 0)) = 0 from bI_f (by simp only [eq_true hc20, and_true, true_and, and_false, false_and, or_true, true_or, or_false, false_or, not_true_eq_false, not_false_eq_true])] at hj
        exact hj
      · refine J.iconst (v := 1) dX12_tell_157 (by decide) ?_
        refine J.goto 162 dX12_tell_158 (by decide) ?_
        rw [show bI (¬ (r19 = 0)) = 1 from bI_t (by simp only [eq_false hc20, and_true, true_and, and_false, false_and, or_true, true_or, or_false, false_or, not_true_eq_false, not_false_eq_true])] at hj
        exact hj
    have hW := hW.2.2.2.2.2.2.2.2.2.2 hk21 hk22 hk23 hk24 hk25 hk26 hk27 hk28 hk29 hk30
    refine J.tableOut 163 dX12_tell_17 (by have := toInt_ne (k := 0) (by decide) hk21; have := toInt_ne (k := 1) (by decide) hk22; have := toInt_ne (k := 2) (by decide) hk23; have := toInt_ne (k := 3) (by decide) hk24; have := toInt_ne (k := 4) (by decide) hk25; have := toInt_ne (k := 5) (by decide) hk26; have := toInt_ne (k := 6) (by decide) hk27; have := toInt_ne (k := 7) (by decide) hk28; have := toInt_ne (k := 8) (by decide) hk29; have := toInt_ne (k := 9) (by decide) hk30; omega) (by decide) ?_
    refine J.bipush (v := (-100)) dX12_tell_163 (by decide) ?_
    exact J.reti dX12_tell_165 rfl rfl hW
  · have hc3 := bI_0.mp hc3
    have hW := hW.2 hc3
    refine J.bipush (v := (-100)) dX12_tell_13 (by decide) ?_
    exact J.reti dX12_tell_15 rfl rfl hW
set_option maxRecDepth 100000 in
set_option maxHeartbeats 4000000 in
theorem w_X12_about {E : Envt} {d : Nat} {Q : Pst} {h : mS} {I : mI} {L : mL} (hs : SL h) (x1 : Int32) (x2 : Int32) 
    (hW : (((¬ (x1 < 0) ∧ (¬ ((((uI I 83 0 0) 90 0) - 1) < x1))) → ((x2 = 0 → (vp_in x1 32 ∧ Q (some (.int (I 91 x1.toNatClampNeg))) h (uI I 83 0 0) L)) ∧ (x2 = 1 → (vp_in x1 32 ∧ Q (some (.int (I 92 x1.toNatClampNeg))) h (uI I 83 0 0) L)) ∧ (x2 = 2 → (vp_in x1 32 ∧ Q (some (.int (I 93 x1.toNatClampNeg))) h (uI I 83 0 0) L)) ∧ (x2 = 3 → (vp_in x1 32 ∧ Q (some (.int (I 94 x1.toNatClampNeg))) h (uI I 83 0 0) L)) ∧ (x2 = 4 → J E mX12_about (d + 2) Q 0 0 83 [some (.ref (eB E + 83)), some (.int x1), some (.int x2), some (.int 0), some (.int 0)] [] h (uI I 83 0 0) L) ∧ (¬ x2 = 0 → ¬ x2 = 1 → ¬ x2 = 2 → ¬ x2 = 3 → ¬ x2 = 4 → Q (some (.int (-1))) h (uI I 83 0 0) L))) ∧ (¬ (¬ (x1 < 0) ∧ (¬ ((((uI I 83 0 0) 90 0) - 1) < x1))) → Q (some (.int (-1))) h (uI I 83 0 0) L))) :
    CT E mX12_about (d + 2) 0 0 [.ref (eB E + 83), .int x1, .int x2] h I L Q := by
  refine CT.of (by decide) [some (.ref (eB E + 83)), some (.int x1), some (.int x2), none, none] rfl (Nat.le_of_ble_eq_true rfl) ?_
  refine J.aload_n dX12_about_0 rfl rfl ?_
  refine J.iconst (v := 0) dX12_about_1 (by decide) ?_
  refine J.putI fw_X12_202 rfl dX12_about_2 (lt83 hs) (kk83 hs) ?_
  refine J.aload_n dX12_about_5 rfl rfl ?_
  refine J.iload_n dX12_about_6 rfl rfl ?_
  refine J.callV (M' := mX12_isHouse) (index := 230) (bc := 0) (bs := 0) (bc' := 0) (bs' := 0) (st := []) [.int x1] ml_X12_230 cv_X12_isHouse dX12_about_7 (lt83 hs) (kk83 hs) (by decide) rfl rfl rfl rfl (Nat.le_of_ble_eq_true rfl) (kqi (w_X12_isHouse (d := d) (Q := qi h L (fun v I' => I' = (uI I 83 0 0) ∧ v = bI (¬ (x1 < 0) ∧ (¬ ((((uI I 83 0 0) 90 0) - 1) < x1))))) hs x1 ⟨rfl, rfl, _, rfl, rfl, rfl⟩) (fun v1 I2 hv => ?_))
  rw [hv.1, hv.2]
  refine J.if_ne 15 dX12_about_10 (by decide) (fun hc3 => ?_) (fun hc3 => ?_)
  · have hc3 := bI_n0.mp hc3
    have hW := hW.1 hc3
    refine J.iconst (v := 0) dX12_about_15 (by decide) ?_
    refine J.istore_n (vs' := [some (.ref (eB E + 83)), some (.int x1), some (.int x2), some (.int 0), none]) dX12_about_16 rfl (by decide) rfl ?_
    refine J.iload_n dX12_about_17 rfl rfl ?_
    by_cases hk8 : x2 = 0
    · have hW := hW.1 hk8
      refine J.tableIn (off := 34) 52 dX12_about_18 (by rw [hk8] <;> decide) (by rw [hk8] <;> decide) (by rw [hk8] <;> rfl) (by decide) ?_
      refine J.aload_n dX12_about_52 rfl rfl ?_
      refine J.getR (r := 91) fl_X12_32 rfl dX12_about_53 (lt83 hs) (kk83 hs) (rr83_8 hs) ?_
      refine J.iload_n dX12_about_56 rfl rfl ?_
      obtain ⟨hb4, hW⟩ := hW
      refine J.iald (x := I 91 x1.toNatClampNeg) dX12_about_57 (lt91 hs) (kk91 hs) hb4 rfl ?_
      exact J.reti dX12_about_58 rfl rfl hW
    by_cases hk9 : x2 = 1
    · have hW := hW.2.1 hk9
      refine J.tableIn (off := 41) 59 dX12_about_18 (by rw [hk9] <;> decide) (by rw [hk9] <;> decide) (by rw [hk9] <;> rfl) (by decide) ?_
      refine J.aload_n dX12_about_59 rfl rfl ?_
      refine J.getR (r := 92) fl_X12_35 rfl dX12_about_60 (lt83 hs) (kk83 hs) (rr83_9 hs) ?_
      refine J.iload_n dX12_about_63 rfl rfl ?_
      obtain ⟨hb5, hW⟩ := hW
      refine J.iald (x := I 92 x1.toNatClampNeg) dX12_about_64 (lt92 hs) (kk92 hs) hb5 rfl ?_
      exact J.reti dX12_about_65 rfl rfl hW
    by_cases hk10 : x2 = 2
    · have hW := hW.2.2.1 hk10
      refine J.tableIn (off := 48) 66 dX12_about_18 (by rw [hk10] <;> decide) (by rw [hk10] <;> decide) (by rw [hk10] <;> rfl) (by decide) ?_
      refine J.aload_n dX12_about_66 rfl rfl ?_
      refine J.getR (r := 93) fl_X12_38 rfl dX12_about_67 (lt83 hs) (kk83 hs) (rr83_10 hs) ?_
      refine J.iload_n dX12_about_70 rfl rfl ?_
      obtain ⟨hb6, hW⟩ := hW
      refine J.iald (x := I 93 x1.toNatClampNeg) dX12_about_71 (lt93 hs) (kk93 hs) hb6 rfl ?_
      exact J.reti dX12_about_72 rfl rfl hW
    by_cases hk11 : x2 = 3
    · have hW := hW.2.2.2.1 hk11
      refine J.tableIn (off := 55) 73 dX12_about_18 (by rw [hk11] <;> decide) (by rw [hk11] <;> decide) (by rw [hk11] <;> rfl) (by decide) ?_
      refine J.aload_n dX12_about_73 rfl rfl ?_
      refine J.getR (r := 94) fl_X12_41 rfl dX12_about_74 (lt83 hs) (kk83 hs) (rr83_11 hs) ?_
      refine J.iload_n dX12_about_77 rfl rfl ?_
      obtain ⟨hb7, hW⟩ := hW
      refine J.iald (x := I 94 x1.toNatClampNeg) dX12_about_78 (lt94 hs) (kk94 hs) hb7 rfl ?_
      exact J.reti dX12_about_79 rfl rfl hW
    by_cases hk12 : x2 = 4
    · have hW := hW.2.2.2.2.1 hk12
      refine J.tableIn (off := 62) 80 dX12_about_18 (by rw [hk12] <;> decide) (by rw [hk12] <;> decide) (by rw [hk12] <;> rfl) (by decide) ?_
      refine J.iconst (v := 0) dX12_about_80 (by decide) ?_
      refine J.istore (vs' := [some (.ref (eB E + 83)), some (.int x1), some (.int x2), some (.int 0), some (.int 0)]) dX12_about_81 (by decide) rfl ?_
      exact hW
    have hW := hW.2.2.2.2.2 hk8 hk9 hk10 hk11 hk12
    refine J.tableOut 131 dX12_about_18 (by have := toInt_ne (k := 0) (by decide) hk8; have := toInt_ne (k := 1) (by decide) hk9; have := toInt_ne (k := 2) (by decide) hk10; have := toInt_ne (k := 3) (by decide) hk11; have := toInt_ne (k := 4) (by decide) hk12; omega) (by decide) ?_
    refine J.iconst (v := (-1)) dX12_about_131 (by decide) ?_
    exact J.reti dX12_about_132 rfl rfl hW
  · have hc3 := bI_0.mp hc3
    have hW := hW.2 hc3
    refine J.iconst (v := (-1)) dX12_about_13 (by decide) ?_
    exact J.reti dX12_about_14 rfl rfl hW
set_option maxRecDepth 100000 in
set_option maxHeartbeats 4000000 in
theorem w_X12_about_83 {E : Envt} {d : Nat} {Q : Pst} {h : mS} {I : mI} {L : mL} (hs : SL h)    (x1 : Int32) (x2 : Int32) (x3 : Int32) (x4 : Int32)
    (hW : ((((I 95 0) ≤ x4) → Q (some (.int x3)) h I L) ∧ (¬ ((I 95 0) ≤ x4) → (vp_in x4 80 ∧ (∀ y5 : Int32, y5 = x3 + (bI (((I 96 x4.toNatClampNeg) = x1) ∧ ((I 100 x4.toNatClampNeg) = 0))) → J E mX12_about (d + 2) Q 0 0 83 [some (.ref (eB E + 83)), some (.int x1), some (.int x2), some (.int y5), some (.int (x4 + 1))] [] h I L))))) :
    J E mX12_about (d + 2) Q 0 0 83 [some (.ref (eB E + 83)), some (.int x1), some (.int x2), some (.int x3), some (.int x4)] [] h I L := by
  refine J.iload dX12_about_83 rfl ?_
  refine J.aload_n dX12_about_85 rfl rfl ?_
  refine J.getR (r := 95) fl_X12_44 rfl dX12_about_86 (lt83 hs) (kk83 hs) (rr83_12 hs) ?_
  refine J.iconst (v := 0) dX12_about_89 (by decide) ?_
  refine J.iald (x := I 95 0) dX12_about_90 (lt95 hs) (kk95 hs) (by unfold vp_in; decide) rfl ?_
  refine J.ic_ge 129 dX12_about_91 (by decide) (fun hc1 => ?_) (fun hc1 => ?_)
  · have hW := hW.1 hc1
    refine J.iload_n dX12_about_129 rfl rfl ?_
    exact J.reti dX12_about_130 rfl rfl hW
  · have hW := hW.2 hc1
    refine J.iload_n dX12_about_94 rfl rfl ?_
    refine J.aload_n dX12_about_95 rfl rfl ?_
    refine J.getR (r := 96) fl_X12_47 rfl dX12_about_96 (lt83 hs) (kk83 hs) (rr83_13 hs) ?_
    refine J.iload dX12_about_99 rfl ?_
    obtain ⟨hb2, hW⟩ := hW
    refine J.iald (x := I 96 x4.toNatClampNeg) dX12_about_101 (lt96 hs) (kk96 hs) hb2 rfl ?_
    refine J.iload_n dX12_about_102 rfl rfl ?_
    have hj : J E mX12_about (d + 2) Q 0 0 121 [some (.ref (eB E + 83)), some (.int x1), some (.int x2), some (.int x3), some (.int x4)] [.int (bI (((I 96 x4.toNatClampNeg) = x1) ∧ ((I 100 x4.toNatClampNeg) = 0))), .int x3] h I L := by
      refine J.iadd dX12_about_121 ?_
      refine J.topi (fun y5 hyy5 => ?_)
      have hW := hW y5 hyy5
      refine J.istore_n (vs' := [some (.ref (eB E + 83)), some (.int x1), some (.int x2), some (.int y5), some (.int x4)]) dX12_about_122 rfl (by decide) rfl ?_
      refine J.iinc (v := x4 + 1) (vs' := [some (.ref (eB E + 83)), some (.int x1), some (.int x2), some (.int y5), some (.int (x4 + 1))]) dX12_about_123 rfl (by rfl) (by decide) rfl ?_
      refine J.goto 83 dX12_about_126 (by decide) ?_
      exact hW
    refine J.ic_ne 120 dX12_about_103 (by decide) (fun hc3 => ?_) (fun hc3 => ?_)
    · refine J.iconst (v := 0) dX12_about_120 (by decide) ?_
      rw [show bI (((I 96 x4.toNatClampNeg) = x1) ∧ ((I 100 x4.toNatClampNeg) = 0)) = 0 from bI_f (by simp only [eq_false hc3, and_true, true_and, and_false, false_and, or_true, true_or, or_false, false_or, not_true_eq_false, not_false_eq_true])] at hj
      exact hj
    · refine J.aload_n dX12_about_106 rfl rfl ?_
      refine J.getR (r := 100) fl_X12_59 rfl dX12_about_107 (lt83 hs) (kk83 hs) (rr83_17 hs) ?_
      refine J.iload dX12_about_110 rfl ?_
      refine J.zald (x := I 100 x4.toNatClampNeg) dX12_about_112 (lt100 hs) (kk100 hs) hb2 rfl ?_
      refine J.if_ne 120 dX12_about_113 (by decide) (fun hc4 => ?_) (fun hc4 => ?_)
      · refine J.iconst (v := 0) dX12_about_120 (by decide) ?_
        rw [show bI (((I 96 x4.toNatClampNeg) = x1) ∧ ((I 100 x4.toNatClampNeg) = 0)) = 0 from bI_f (by simp only [eq_true hc3, eq_false hc4, and_true, true_and, and_false, false_and, or_true, true_or, or_false, false_or, not_true_eq_false, not_false_eq_true])] at hj
        exact hj
      · refine J.iconst (v := 1) dX12_about_116 (by decide) ?_
        refine J.goto 121 dX12_about_117 (by decide) ?_
        rw [show bI (((I 96 x4.toNatClampNeg) = x1) ∧ ((I 100 x4.toNatClampNeg) = 0)) = 1 from bI_t (by simp only [eq_true hc3, eq_true hc4, and_true, true_and, and_false, false_and, or_true, true_or, or_false, false_or, not_true_eq_false, not_false_eq_true])] at hj
        exact hj
set_option maxRecDepth 100000 in
set_option maxHeartbeats 4000000 in
theorem w_X12_four {E : Envt} {d : Nat} {Q : Pst} {h : mS} {I : mI} {L : mL} (hs : SL h) (x1 : Int32) 
    (hW : J E mX12_four d Q 0 0 3 [some (.ref (eB E + 83)), some (.int x1), some (.int 24)] [] h I L) :
    CT E mX12_four d 0 0 [.ref (eB E + 83), .int x1] h I L Q := by
  refine CT.of (by decide) [some (.ref (eB E + 83)), some (.int x1), none] rfl (Nat.le_of_ble_eq_true rfl) ?_
  refine J.bipush (v := 24) dX12_four_0 (by decide) ?_
  refine J.istore_n (vs' := [some (.ref (eB E + 83)), some (.int x1), some (.int 24)]) dX12_four_2 rfl (by decide) rfl ?_
  exact hW
set_option maxRecDepth 100000 in
set_option maxHeartbeats 4000000 in
theorem w_X12_four_3 {E : Envt} {d : Nat} {Q : Pst} {h : mS} {I : mI} {L : mL} (hs : SL h)    (x1 : Int32) (x2 : Int32)
    (hW : (((x2 < 0) → Q none h I L) ∧ (¬ (x2 < 0) → (vp_in (I 85 0) 2000 ∧ J E mX12_four d Q 0 0 3 [some (.ref (eB E + 83)), some (.int x1), some (.int (x2 + (-8)))] [] h (uI (uI I 84 ((I 85 0).toNatClampNeg) ((x1 >>> (x2 &&& 31)).toInt8.toInt32)) 85 0 ((I 85 0) + 1)) L)))) :
    J E mX12_four d Q 0 0 3 [some (.ref (eB E + 83)), some (.int x1), some (.int x2)] [] h I L := by
  refine J.iload_n dX12_four_3 rfl rfl ?_
  refine J.if_lt 38 dX12_four_4 (by decide) (fun hc1 => ?_) (fun hc1 => ?_)
  · have hW := hW.1 hc1
    exact J.retv dX12_four_38 rfl hW
  · have hW := hW.2 hc1
    refine J.aload_n dX12_four_7 rfl rfl ?_
    refine J.getR (r := 84) fl_X12_7 rfl dX12_four_8 (lt83 hs) (kk83 hs) (rr83_1 hs) ?_
    refine J.aload_n dX12_four_11 rfl rfl ?_
    refine J.getR (r := 85) fl_X12_13 rfl dX12_four_12 (lt83 hs) (kk83 hs) (rr83_2 hs) ?_
    refine J.iconst (v := 0) dX12_four_15 (by decide) ?_
    refine J.iald (x := I 85 0) dX12_four_16 (lt85 hs) (kk85 hs) (by unfold vp_in; decide) rfl ?_
    refine J.iload_n dX12_four_17 rfl rfl ?_
    refine J.iload_n dX12_four_18 rfl rfl ?_
    refine J.ishr dX12_four_19 ?_
    refine J.i2b dX12_four_20 ?_
    obtain ⟨hb2, hW⟩ := hW
    refine J.bast dX12_four_21 (lt84 hs) (kk84 hs) hb2 ?_
    refine J.aload_n dX12_four_22 rfl rfl ?_
    refine J.getR (r := 85) fl_X12_13 rfl dX12_four_23 (lt83 hs) (kk83 hs) (rr83_2 hs) ?_
    refine J.iconst (v := 0) dX12_four_26 (by decide) ?_
    refine J.dup2 dX12_four_27 rfl rfl ?_
    refine J.iald (x := I 85 0) dX12_four_28 (lt85 hs) (kk85 hs) (by unfold vp_in; decide) rfl ?_
    refine J.iconst (v := 1) dX12_four_29 (by decide) ?_
    refine J.iadd dX12_four_30 ?_
    refine J.iast dX12_four_31 (lt85 hs) (kk85 hs) (by unfold vp_in; decide) ?_
    refine J.iinc (v := x2 + (-8)) (vs' := [some (.ref (eB E + 83)), some (.int x1), some (.int (x2 + (-8)))]) dX12_four_32 rfl (by rfl) (by decide) rfl ?_
    refine J.goto 3 dX12_four_35 (by decide) ?_
    exact hW
set_option maxRecDepth 100000 in
set_option maxHeartbeats 4000000 in
theorem w_X12_feed {E : Envt} {d : Nat} {Q : Pst} {h : mS} {I : mI} {L : mL} (hs : SL h) (x1 : Int32) (x2 : Int32) (x3 : Int32) (x4 : Int32) (x5 : Int32) 
    (hW : (((((I 85 0) + 20) ≤ 500) → (CT E mX12_four d 0 0 [.ref (eB E + 83), .int x1] h (uI I 83 0 0) L (qv h L fun I2 => (CT E mX12_four d 0 0 [.ref (eB E + 83), .int x2] h I2 L (qv h L fun I3 => (CT E mX12_four d 0 0 [.ref (eB E + 83), .int x3] h I3 L (qv h L fun I4 => (CT E mX12_four d 0 0 [.ref (eB E + 83), .int x4] h I4 L (qv h L fun I5 => (CT E mX12_four d 0 0 [.ref (eB E + 83), .int x5] h I5 L (qv h L fun I6 => Q (some (.int (I6 85 0))) h I6 L))))))))))) ∧ (¬ (((I 85 0) + 20) ≤ 500) → Q (some (.int (-1))) h (uI I 83 0 0) L))) :
    CT E mX12_feed (d + 1) 0 0 [.ref (eB E + 83), .int x1, .int x2, .int x3, .int x4, .int x5] h I L Q := by
  refine CT.of (by decide) [some (.ref (eB E + 83)), some (.int x1), some (.int x2), some (.int x3), some (.int x4), some (.int x5)] rfl (Nat.le_of_ble_eq_true rfl) ?_
  refine J.aload_n dX12_feed_0 rfl rfl ?_
  refine J.iconst (v := 0) dX12_feed_1 (by decide) ?_
  refine J.putI fw_X12_202 rfl dX12_feed_2 (lt83 hs) (kk83 hs) ?_
  refine J.aload_n dX12_feed_5 rfl rfl ?_
  refine J.getR (r := 85) fl_X12_13 rfl dX12_feed_6 (lt83 hs) (kk83 hs) (rr83_2 hs) ?_
  refine J.iconst (v := 0) dX12_feed_9 (by decide) ?_
  refine J.iald (x := I 85 0) dX12_feed_10 (lt85 hs) (kk85 hs) (by unfold vp_in; decide) rfl ?_
  refine J.bipush (v := 20) dX12_feed_11 (by decide) ?_
  refine J.iadd dX12_feed_13 ?_
  refine J.sipush (v := 500) dX12_feed_14 (by decide) ?_
  refine J.ic_le 22 dX12_feed_17 (by decide) (fun hc1 => ?_) (fun hc1 => ?_)
  · have hW := hW.1 hc1
    refine J.aload_n dX12_feed_22 rfl rfl ?_
    refine J.iload_n dX12_feed_23 rfl rfl ?_
    refine J.callV (M' := mX12_four) (index := 281) (bc := 0) (bs := 0) (bc' := 0) (bs' := 0) (st := []) [.int x1] ml_X12_281 cv_X12_four dX12_feed_24 (lt83 hs) (kk83 hs) (by decide) rfl rfl rfl rfl (Nat.le_of_ble_eq_true rfl) (kqv hW (fun I2 hW => ?_))
    refine J.aload_n dX12_feed_27 rfl rfl ?_
    refine J.iload_n dX12_feed_28 rfl rfl ?_
    refine J.callV (M' := mX12_four) (index := 281) (bc := 0) (bs := 0) (bc' := 0) (bs' := 0) (st := []) [.int x2] ml_X12_281 cv_X12_four dX12_feed_29 (lt83 hs) (kk83 hs) (by decide) rfl rfl rfl rfl (Nat.le_of_ble_eq_true rfl) (kqv hW (fun I3 hW => ?_))
    refine J.aload_n dX12_feed_32 rfl rfl ?_
    refine J.iload_n dX12_feed_33 rfl rfl ?_
    refine J.callV (M' := mX12_four) (index := 281) (bc := 0) (bs := 0) (bc' := 0) (bs' := 0) (st := []) [.int x3] ml_X12_281 cv_X12_four dX12_feed_34 (lt83 hs) (kk83 hs) (by decide) rfl rfl rfl rfl (Nat.le_of_ble_eq_true rfl) (kqv hW (fun I4 hW => ?_))
    refine J.aload_n dX12_feed_37 rfl rfl ?_
    refine J.iload dX12_feed_38 rfl ?_
    refine J.callV (M' := mX12_four) (index := 281) (bc := 0) (bs := 0) (bc' := 0) (bs' := 0) (st := []) [.int x4] ml_X12_281 cv_X12_four dX12_feed_40 (lt83 hs) (kk83 hs) (by decide) rfl rfl rfl rfl (Nat.le_of_ble_eq_true rfl) (kqv hW (fun I5 hW => ?_))
    refine J.aload_n dX12_feed_43 rfl rfl ?_
    refine J.iload dX12_feed_44 rfl ?_
    refine J.callV (M' := mX12_four) (index := 281) (bc := 0) (bs := 0) (bc' := 0) (bs' := 0) (st := []) [.int x5] ml_X12_281 cv_X12_four dX12_feed_46 (lt83 hs) (kk83 hs) (by decide) rfl rfl rfl rfl (Nat.le_of_ble_eq_true rfl) (kqv hW (fun I6 hW => ?_))
    refine J.aload_n dX12_feed_49 rfl rfl ?_
    refine J.getR (r := 85) fl_X12_13 rfl dX12_feed_50 (lt83 hs) (kk83 hs) (rr83_2 hs) ?_
    refine J.iconst (v := 0) dX12_feed_53 (by decide) ?_
    refine J.iald (x := I6 85 0) dX12_feed_54 (lt85 hs) (kk85 hs) (by unfold vp_in; decide) rfl ?_
    exact J.reti dX12_feed_55 rfl rfl hW
  · have hW := hW.2 hc1
    refine J.iconst (v := (-1)) dX12_feed_20 (by decide) ?_
    exact J.reti dX12_feed_21 rfl rfl hW
set_option maxRecDepth 100000 in
set_option maxHeartbeats 4000000 in
theorem w_X12_end {E : Envt} {d : Nat} {Q : Pst} {h : mS} {I : mI} {L : mL} (hs : SL h) (x1 : Int32) 
    (hW : (((¬ (x1 < 0) ∧ (¬ ((I 85 0) < x1))) → Q (some (.int x1)) h (uI (uI I 83 0 0) 85 0 x1) L) ∧ (¬ (¬ (x1 < 0) ∧ (¬ ((I 85 0) < x1))) → Q (some (.int (-1))) h (uI I 83 0 0) L))) :
    CT E mX12_end (d + 1) 0 0 [.ref (eB E + 83), .int x1] h I L Q := by
  refine CT.of (by decide) [some (.ref (eB E + 83)), some (.int x1)] rfl (Nat.le_of_ble_eq_true rfl) ?_
  refine J.aload_n dX12_end_0 rfl rfl ?_
  refine J.iconst (v := 0) dX12_end_1 (by decide) ?_
  refine J.putI fw_X12_202 rfl dX12_end_2 (lt83 hs) (kk83 hs) ?_
  refine J.iload_n dX12_end_5 rfl rfl ?_
  refine J.iconst (v := 0) dX12_end_6 (by decide) ?_
  refine J.aload_n dX12_end_7 rfl rfl ?_
  refine J.getR (r := 85) fl_X12_13 rfl dX12_end_8 (lt83 hs) (kk83 hs) (rr83_2 hs) ?_
  refine J.iconst (v := 0) dX12_end_11 (by decide) ?_
  refine J.iald (x := I 85 0) dX12_end_12 (lt85 hs) (kk85 hs) (by unfold vp_in; decide) rfl ?_
  refine J.callS (M' := mX12_in) (index := 218) (bc := 0) (bs := 0) (bc' := 0) (bs' := 0) (st := []) [.int x1, .int 0, .int (I 85 0)] ml_X12_218 cv_X12_in dX12_end_13 rfl rfl (Nat.le_of_ble_eq_true rfl) (kqi (w_X12_in (d := d) (Q := qi h L (fun v I' => I' = (uI I 83 0 0) ∧ v = bI (¬ (x1 < 0) ∧ (¬ ((I 85 0) < x1))))) hs x1 0 (I 85 0) ⟨rfl, rfl, _, rfl, rfl, rfl⟩) (fun v1 I2 hv => ?_))
  rw [hv.1, hv.2]
  refine J.if_ne 21 dX12_end_16 (by decide) (fun hc3 => ?_) (fun hc3 => ?_)
  · have hc3 := bI_n0.mp hc3
    have hW := hW.1 hc3
    refine J.aload_n dX12_end_21 rfl rfl ?_
    refine J.getR (r := 85) fl_X12_13 rfl dX12_end_22 (lt83 hs) (kk83 hs) (rr83_2 hs) ?_
    refine J.iconst (v := 0) dX12_end_25 (by decide) ?_
    refine J.iload_n dX12_end_26 rfl rfl ?_
    refine J.iast dX12_end_27 (lt85 hs) (kk85 hs) (by unfold vp_in; decide) ?_
    refine J.iload_n dX12_end_28 rfl rfl ?_
    exact J.reti dX12_end_29 rfl rfl hW
  · have hc3 := bI_0.mp hc3
    have hW := hW.2 hc3
    refine J.iconst (v := (-1)) dX12_end_19 (by decide) ?_
    exact J.reti dX12_end_20 rfl rfl hW
set_option maxRecDepth 100000 in
set_option maxHeartbeats 4000000 in
theorem w_X12_see {E : Envt} {d : Nat} {Q : Pst} {h : mS} {I : mI} {L : mL} (hs : SL h)  
    (hW : ((¬ ((I 83 46) ≤ (I 83 45)) → vp_in (I 83 45) 2000) ∧ Q (some (.int (if (I 83 46) ≤ (I 83 45) then (-1) else (I 84 ((I 83 45).toNatClampNeg)) &&& 255 : Int32))) h I L)) :
    CT E mX12_see d 0 0 [.ref (eB E + 83)] h I L Q := by
  refine CT.of (by decide) [some (.ref (eB E + 83))] rfl (Nat.le_of_ble_eq_true rfl) ?_
  refine J.aload_n dX12_see_0 rfl rfl ?_
  refine J.getI (x := I 83 45) fl_X12_284 rfl dX12_see_1 (lt83 hs) (kk83 hs) rfl ?_
  refine J.aload_n dX12_see_4 rfl rfl ?_
  refine J.getI (x := I 83 46) fl_X12_287 rfl dX12_see_5 (lt83 hs) (kk83 hs) rfl ?_
  obtain ⟨hq3, hW⟩ := hW
  have hj : J E mX12_see d Q 0 0 28 [some (.ref (eB E + 83))] [.int (if (I 83 46) ≤ (I 83 45) then (-1) else (I 84 ((I 83 45).toNatClampNeg)) &&& 255 : Int32)] h I L := by
    exact J.reti dX12_see_28 rfl rfl hW
  refine J.ic_ge 27 dX12_see_8 (by decide) (fun hc1 => ?_) (fun hc1 => ?_)
  · refine J.iconst (v := (-1)) dX12_see_27 (by decide) ?_
    rw [show ((if (I 83 46) ≤ (I 83 45) then (-1) else (I 84 ((I 83 45).toNatClampNeg)) &&& 255 : Int32) = (-1)) from by simp only [eq_true hc1, if_true, if_false, bI_true, bI_false, and_true, true_and, and_false, false_and, or_true, true_or, or_false, false_or, not_true_eq_false, not_false_eq_true]] at hj
    exact hj
  · refine J.aload_n dX12_see_11 rfl rfl ?_
    refine J.getR (r := 84) fl_X12_7 rfl dX12_see_12 (lt83 hs) (kk83 hs) (rr83_1 hs) ?_
    refine J.aload_n dX12_see_15 rfl rfl ?_
    refine J.getI (x := I 83 45) fl_X12_284 rfl dX12_see_16 (lt83 hs) (kk83 hs) rfl ?_
    have hb2 := hq3 hc1
    refine J.bald (x := I 84 ((I 83 45).toNatClampNeg)) dX12_see_19 (lt84 hs) (kk84 hs) hb2 rfl ?_
    refine J.sipush (v := 255) dX12_see_20 (by decide) ?_
    refine J.iand dX12_see_23 ?_
    refine J.goto 28 dX12_see_24 (by decide) ?_
    rw [show ((if (I 83 46) ≤ (I 83 45) then (-1) else (I 84 ((I 83 45).toNatClampNeg)) &&& 255 : Int32) = (I 84 ((I 83 45).toNatClampNeg)) &&& 255) from by simp only [eq_false hc1, if_true, if_false, bI_true, bI_false, and_true, true_and, and_false, false_and, or_true, true_or, or_false, false_or, not_true_eq_false, not_false_eq_true]] at hj
    exact hj
set_option maxRecDepth 100000 in
set_option maxHeartbeats 4000000 in
theorem w_X12_token {E : Envt} {d : Nat} {Q : Pst} {h : mS} {I : mI} {L : mL} (hs : SL h)  
    (hW : ((¬ ((I 83 46) ≤ (I 83 45)) → vp_in (I 83 45) 2000) ∧ ((((if (I 83 46) ≤ (I 83 45) then (-1) else (I 84 ((I 83 45).toNatClampNeg)) &&& 255 : Int32) = 10) → J E mX12_token (d + 1) Q 0 0 0 [some (.ref (eB E + 83)), none, none] [] h (uI I 83 45 ((I 83 45) + 1)) L) ∧ (¬ ((if (I 83 46) ≤ (I 83 45) then (-1) else (I 84 ((I 83 45).toNatClampNeg)) &&& 255 : Int32) = 10) → ((((if (I 83 46) ≤ (I 83 45) then (-1) else (I 84 ((I 83 45).toNatClampNeg)) &&& 255 : Int32) = 32) → J E mX12_token (d + 1) Q 0 0 0 [some (.ref (eB E + 83)), none, none] [] h (uI I 83 45 ((I 83 45) + 1)) L) ∧ (¬ ((if (I 83 46) ≤ (I 83 45) then (-1) else (I 84 ((I 83 45).toNatClampNeg)) &&& 255 : Int32) = 32) → ((¬ (((uI I 83 47 (I 83 45)) 83 46) ≤ ((uI I 83 47 (I 83 45)) 83 45)) → vp_in ((uI I 83 47 (I 83 45)) 83 45) 2000) ∧ (∀ y11 : Int32, y11 = (if ((uI I 83 47 (I 83 45)) 83 46) ≤ ((uI I 83 47 (I 83 45)) 83 45) then (-1) else ((uI I 83 47 (I 83 45)) 84 (((uI I 83 47 (I 83 45)) 83 45).toNatClampNeg)) &&& 255 : Int32) → (((0 ≤ y11) → (((¬ (y11 < 97) ∧ (¬ (122 < y11))) → J E mX12_token (d + 1) Q 0 0 79 [some (.ref (eB E + 83)), some (.int y11), some (.int 0)] [] h (uI (uI I 83 47 (I 83 45)) 83 49 y11) (uL L 83 50 0)) ∧ (¬ (¬ (y11 < 97) ∧ (¬ (122 < y11))) → (((¬ (y11 < 48) ∧ (¬ (57 < y11))) → J E mX12_token (d + 1) Q 0 0 168 [some (.ref (eB E + 83)), some (.int y11), some (.int 0)] [] h (uI (uI (uI I 83 47 (I 83 45)) 83 49 y11) 83 49 0) (uL L 83 50 0)) ∧ (¬ (¬ (y11 < 48) ∧ (¬ (57 < y11))) → (∀ y24 : Int32, y24 = (if y11 = 58 then 4 else if y11 = 59 then 4 else if y11 = 60 then 4 else if y11 = 62 then 4 else if y11 = 61 then 4 else 1) → Q none h (uI (uI (uI (uI I 83 47 (I 83 45)) 83 49 y11) 83 45 ((I 83 45) + 1)) 83 48 y24) (uL L 83 50 0))))))) ∧ (¬ (0 ≤ y11) → Q none h (uI (uI (uI I 83 47 (I 83 45)) 83 49 y11) 83 48 0) (uL L 83 50 0))))))))))) :
    CT E mX12_token (d + 1) 0 0 [.ref (eB E + 83)] h I L Q := by
  refine CT.of (by decide) [some (.ref (eB E + 83)), none, none] rfl (Nat.le_of_ble_eq_true rfl) ?_
  refine J.aload_n dX12_token_0 rfl rfl ?_
  obtain ⟨hb1, hW⟩ := hW
  refine J.callV (M' := mX12_see) (index := 290) (bc := 0) (bs := 0) (bc' := 0) (bs' := 0) (st := []) [] ml_X12_290 cv_X12_see dX12_token_1 (lt83 hs) (kk83 hs) (by decide) rfl rfl rfl rfl (Nat.le_of_ble_eq_true rfl) (kqi (w_X12_see (d := d) (Q := qi h L (fun v I' => I' = I ∧ v = (if (I 83 46) ≤ (I 83 45) then (-1) else (I 84 ((I 83 45).toNatClampNeg)) &&& 255 : Int32))) hs  ⟨hb1, rfl, rfl, _, rfl, rfl, rfl⟩) (fun v2 I3 hv => ?_))
  rw [hv.1, hv.2]
  refine J.bipush (v := 10) dX12_token_4 (by decide) ?_
  refine J.ic_eq 18 dX12_token_6 (by decide) (fun hc4 => ?_) (fun hc4 => ?_)
  · have hW := hW.1 hc4
    refine J.aload_n dX12_token_18 rfl rfl ?_
    refine J.dup dX12_token_19 rfl ?_
    refine J.getI (x := I 83 45) fl_X12_284 rfl dX12_token_20 (lt83 hs) (kk83 hs) rfl ?_
    refine J.iconst (v := 1) dX12_token_23 (by decide) ?_
    refine J.iadd dX12_token_24 ?_
    refine J.putI fw_X12_284 rfl dX12_token_25 (lt83 hs) (kk83 hs) ?_
    refine J.goto 0 dX12_token_28 (by decide) ?_
    exact hW
  · have hW := hW.2 hc4
    refine J.aload_n dX12_token_9 rfl rfl ?_
    refine J.callV (M' := mX12_see) (index := 290) (bc := 0) (bs := 0) (bc' := 0) (bs' := 0) (st := []) [] ml_X12_290 cv_X12_see dX12_token_10 (lt83 hs) (kk83 hs) (by decide) rfl rfl rfl rfl (Nat.le_of_ble_eq_true rfl) (kqi (w_X12_see (d := d) (Q := qi h L (fun v I' => I' = I ∧ v = (if (I 83 46) ≤ (I 83 45) then (-1) else (I 84 ((I 83 45).toNatClampNeg)) &&& 255 : Int32))) hs  ⟨hb1, rfl, rfl, _, rfl, rfl, rfl⟩) (fun v5 I6 hv => ?_))
    rw [hv.1, hv.2]
    refine J.bipush (v := 32) dX12_token_13 (by decide) ?_
    refine J.ic_ne 31 dX12_token_15 (by decide) (fun hc7 => ?_) (fun hc7 => ?_)
    · have hW := hW.2 hc7
      refine J.aload_n dX12_token_31 rfl rfl ?_
      refine J.aload_n dX12_token_32 rfl rfl ?_
      refine J.getI (x := I 83 45) fl_X12_284 rfl dX12_token_33 (lt83 hs) (kk83 hs) rfl ?_
      refine J.putI fw_X12_294 rfl dX12_token_36 (lt83 hs) (kk83 hs) ?_
      refine J.aload_n dX12_token_39 rfl rfl ?_
      obtain ⟨hb8, hW⟩ := hW
      refine J.callV (M' := mX12_see) (index := 290) (bc := 0) (bs := 0) (bc' := 0) (bs' := 0) (st := []) [] ml_X12_290 cv_X12_see dX12_token_40 (lt83 hs) (kk83 hs) (by decide) rfl rfl rfl rfl (Nat.le_of_ble_eq_true rfl) (kqi (w_X12_see (d := d) (Q := qi h L (fun v I' => I' = (uI I 83 47 (I 83 45)) ∧ v = (if ((uI I 83 47 (I 83 45)) 83 46) ≤ ((uI I 83 47 (I 83 45)) 83 45) then (-1) else ((uI I 83 47 (I 83 45)) 84 (((uI I 83 47 (I 83 45)) 83 45).toNatClampNeg)) &&& 255 : Int32))) hs  ⟨hb8, rfl, rfl, _, rfl, rfl, rfl⟩) (fun v9 I10 hv => ?_))
      rw [hv.1, hv.2]
      refine J.topi (fun y11 hyy11 => ?_)
      have hW := hW y11 hyy11
      refine J.istore_n (vs' := [some (.ref (eB E + 83)), some (.int y11), none]) dX12_token_43 rfl (by decide) rfl ?_
      refine J.aload_n dX12_token_44 rfl rfl ?_
      refine J.iload_n dX12_token_45 rfl rfl ?_
      refine J.putI fw_X12_297 rfl dX12_token_46 (lt83 hs) (kk83 hs) ?_
      refine J.aload_n dX12_token_49 rfl rfl ?_
      refine J.lconst (v := 0) dX12_token_50 (by decide) ?_
      refine J.putL fw_X12_300 rfl dX12_token_51 (lt83 hs) (kk83 hs) ?_
      refine J.iconst (v := 0) dX12_token_54 (by decide) ?_
      refine J.istore_n (vs' := [some (.ref (eB E + 83)), some (.int y11), some (.int 0)]) dX12_token_55 rfl (by decide) rfl ?_
      refine J.iload_n dX12_token_56 rfl rfl ?_
      refine J.if_ge 68 dX12_token_57 (by decide) (fun hc12 => ?_) (fun hc12 => ?_)
      · have hW := hW.1 hc12
        refine J.iload_n dX12_token_68 rfl rfl ?_
        refine J.bipush (v := 97) dX12_token_69 (by decide) ?_
        refine J.bipush (v := 122) dX12_token_71 (by decide) ?_
        refine J.callS (M' := mX12_in) (index := 218) (bc := 0) (bs := 0) (bc' := 0) (bs' := 0) (st := []) [.int y11, .int 97, .int 122] ml_X12_218 cv_X12_in dX12_token_73 rfl rfl (Nat.le_of_ble_eq_true rfl) (kqi (w_X12_in (d := d) (Q := qi h (uL L 83 50 0) (fun v I' => I' = (uI (uI I 83 47 (I 83 45)) 83 49 y11) ∧ v = bI (¬ (y11 < 97) ∧ (¬ (122 < y11))))) hs y11 97 122 ⟨rfl, rfl, _, rfl, rfl, rfl⟩) (fun v13 I14 hv => ?_))
        rw [hv.1, hv.2]
        refine J.if_eq 152 dX12_token_76 (by decide) (fun hc15 => ?_) (fun hc15 => ?_)
        · have hc15 := bI_0.mp hc15
          have hW := hW.2 hc15
          refine J.iload_n dX12_token_152 rfl rfl ?_
          refine J.bipush (v := 48) dX12_token_153 (by decide) ?_
          refine J.bipush (v := 57) dX12_token_155 (by decide) ?_
          refine J.callS (M' := mX12_in) (index := 218) (bc := 0) (bs := 0) (bc' := 0) (bs' := 0) (st := []) [.int y11, .int 48, .int 57] ml_X12_218 cv_X12_in dX12_token_157 rfl rfl (Nat.le_of_ble_eq_true rfl) (kqi (w_X12_in (d := d) (Q := qi h (uL L 83 50 0) (fun v I' => I' = (uI (uI I 83 47 (I 83 45)) 83 49 y11) ∧ v = bI (¬ (y11 < 48) ∧ (¬ (57 < y11))))) hs y11 48 57 ⟨rfl, rfl, _, rfl, rfl, rfl⟩) (fun v16 I17 hv => ?_))
          rw [hv.1, hv.2]
          refine J.if_eq 246 dX12_token_160 (by decide) (fun hc18 => ?_) (fun hc18 => ?_)
          · have hc18 := bI_0.mp hc18
            have hW := hW.2 hc18
            refine J.aload_n dX12_token_246 rfl rfl ?_
            refine J.dup dX12_token_247 rfl ?_
            refine J.getI (x := I 83 45) fl_X12_284 rfl dX12_token_248 (lt83 hs) (kk83 hs) rfl ?_
            refine J.iconst (v := 1) dX12_token_251 (by decide) ?_
            refine J.iadd dX12_token_252 ?_
            refine J.putI fw_X12_284 rfl dX12_token_253 (lt83 hs) (kk83 hs) ?_
            refine J.aload_n dX12_token_256 rfl rfl ?_
            refine J.iload_n dX12_token_257 rfl rfl ?_
            refine J.bipush (v := 58) dX12_token_258 (by decide) ?_
            obtain ⟨y24, hyy24⟩ : ∃ y24 : Int32, y24 = (if y11 = 58 then 4 else if y11 = 59 then 4 else if y11 = 60 then 4 else if y11 = 62 then 4 else if y11 = 61 then 4 else 1) := ⟨_, rfl⟩
            have hW := hW y24 hyy24
            have hj : J E mX12_token (d + 1) Q 0 0 292 [some (.ref (eB E + 83)), some (.int y11), some (.int 0)] [.int y24, .ref (eB E + 83)] h (uI (uI (uI I 83 47 (I 83 45)) 83 49 y11) 83 45 ((I 83 45) + 1)) (uL L 83 50 0) := by
              refine J.putI fw_X12_304 rfl dX12_token_292 (lt83 hs) (kk83 hs) ?_
              exact J.retv dX12_token_295 rfl hW
            refine J.ic_eq 287 dX12_token_260 (by decide) (fun hc19 => ?_) (fun hc19 => ?_)
            · refine J.iconst (v := 4) dX12_token_287 (by decide) ?_
              refine J.goto 292 dX12_token_288 (by decide) ?_
              rw [show y24 = 4 from by simp only [hyy24, eq_true hc19, if_true, if_false, bI_true, bI_false, and_true, true_and, and_false, false_and, or_true, true_or, or_false, false_or, not_true_eq_false, not_false_eq_true]] at hj
              exact hj
            · refine J.iload_n dX12_token_263 rfl rfl ?_
              refine J.bipush (v := 59) dX12_token_264 (by decide) ?_
              refine J.ic_eq 287 dX12_token_266 (by decide) (fun hc20 => ?_) (fun hc20 => ?_)
              · refine J.iconst (v := 4) dX12_token_287 (by decide) ?_
                refine J.goto 292 dX12_token_288 (by decide) ?_
                rw [show y24 = 4 from by simp only [hyy24, eq_false hc19, eq_true hc20, if_true, if_false, bI_true, bI_false, and_true, true_and, and_false, false_and, or_true, true_or, or_false, false_or, not_true_eq_false, not_false_eq_true]] at hj
                exact hj
              · refine J.iload_n dX12_token_269 rfl rfl ?_
                refine J.bipush (v := 60) dX12_token_270 (by decide) ?_
                refine J.ic_eq 287 dX12_token_272 (by decide) (fun hc21 => ?_) (fun hc21 => ?_)
                · refine J.iconst (v := 4) dX12_token_287 (by decide) ?_
                  refine J.goto 292 dX12_token_288 (by decide) ?_
                  rw [show y24 = 4 from by simp only [hyy24, eq_false hc19, eq_false hc20, eq_true hc21, if_true, if_false, bI_true, bI_false, and_true, true_and, and_false, false_and, or_true, true_or, or_false, false_or, not_true_eq_false, not_false_eq_true]] at hj
                  exact hj
                · refine J.iload_n dX12_token_275 rfl rfl ?_
                  refine J.bipush (v := 62) dX12_token_276 (by decide) ?_
                  refine J.ic_eq 287 dX12_token_278 (by decide) (fun hc22 => ?_) (fun hc22 => ?_)
                  · refine J.iconst (v := 4) dX12_token_287 (by decide) ?_
                    refine J.goto 292 dX12_token_288 (by decide) ?_
                    rw [show y24 = 4 from by simp only [hyy24, eq_false hc19, eq_false hc20, eq_false hc21, eq_true hc22, if_true, if_false, bI_true, bI_false, and_true, true_and, and_false, false_and, or_true, true_or, or_false, false_or, not_true_eq_false, not_false_eq_true]] at hj
                    exact hj
                  · refine J.iload_n dX12_token_281 rfl rfl ?_
                    refine J.bipush (v := 61) dX12_token_282 (by decide) ?_
                    refine J.ic_ne 291 dX12_token_284 (by decide) (fun hc23 => ?_) (fun hc23 => ?_)
                    · refine J.iconst (v := 1) dX12_token_291 (by decide) ?_
                      rw [show y24 = 1 from by simp only [hyy24, eq_false hc19, eq_false hc20, eq_false hc21, eq_false hc22, eq_false hc23, if_true, if_false, bI_true, bI_false, and_true, true_and, and_false, false_and, or_true, true_or, or_false, false_or, not_true_eq_false, not_false_eq_true]] at hj
                      exact hj
                    · refine J.iconst (v := 4) dX12_token_287 (by decide) ?_
                      refine J.goto 292 dX12_token_288 (by decide) ?_
                      rw [show y24 = 4 from by simp only [hyy24, eq_false hc19, eq_false hc20, eq_false hc21, eq_false hc22, eq_true hc23, if_true, if_false, bI_true, bI_false, and_true, true_and, and_false, false_and, or_true, true_or, or_false, false_or, not_true_eq_false, not_false_eq_true]] at hj
                      exact hj
          · have hc18 := bI_n0.mp hc18
            have hW := hW.1 hc18
            refine J.aload_n dX12_token_163 rfl rfl ?_
            refine J.iconst (v := 0) dX12_token_164 (by decide) ?_
            refine J.putI fw_X12_297 rfl dX12_token_165 (lt83 hs) (kk83 hs) ?_
            exact hW
        · have hc15 := bI_n0.mp hc15
          have hW := hW.1 hc15
          exact hW
      · have hW := hW.2 hc12
        refine J.aload_n dX12_token_60 rfl rfl ?_
        refine J.iconst (v := 0) dX12_token_61 (by decide) ?_
        refine J.putI fw_X12_304 rfl dX12_token_62 (lt83 hs) (kk83 hs) ?_
        refine J.goto 295 dX12_token_65 (by decide) ?_
        exact J.retv dX12_token_295 rfl hW
    · have hW := hW.1 hc7
      refine J.aload_n dX12_token_18 rfl rfl ?_
      refine J.dup dX12_token_19 rfl ?_
      refine J.getI (x := I 83 45) fl_X12_284 rfl dX12_token_20 (lt83 hs) (kk83 hs) rfl ?_
      refine J.iconst (v := 1) dX12_token_23 (by decide) ?_
      refine J.iadd dX12_token_24 ?_
      refine J.putI fw_X12_284 rfl dX12_token_25 (lt83 hs) (kk83 hs) ?_
      refine J.goto 0 dX12_token_28 (by decide) ?_
      exact hW
set_option maxRecDepth 100000 in
set_option maxHeartbeats 4000000 in
theorem w_X12_token_0 {E : Envt} {d : Nat} {Q : Pst} {h : mS} {I : mI} {L : mL} (hs : SL h)    
    (hW : ((¬ ((I 83 46) ≤ (I 83 45)) → vp_in (I 83 45) 2000) ∧ ((((if (I 83 46) ≤ (I 83 45) then (-1) else (I 84 ((I 83 45).toNatClampNeg)) &&& 255 : Int32) = 10) → J E mX12_token (d + 1) Q 0 0 0 [some (.ref (eB E + 83)), none, none] [] h (uI I 83 45 ((I 83 45) + 1)) L) ∧ (¬ ((if (I 83 46) ≤ (I 83 45) then (-1) else (I 84 ((I 83 45).toNatClampNeg)) &&& 255 : Int32) = 10) → ((((if (I 83 46) ≤ (I 83 45) then (-1) else (I 84 ((I 83 45).toNatClampNeg)) &&& 255 : Int32) = 32) → J E mX12_token (d + 1) Q 0 0 0 [some (.ref (eB E + 83)), none, none] [] h (uI I 83 45 ((I 83 45) + 1)) L) ∧ (¬ ((if (I 83 46) ≤ (I 83 45) then (-1) else (I 84 ((I 83 45).toNatClampNeg)) &&& 255 : Int32) = 32) → ((¬ (((uI I 83 47 (I 83 45)) 83 46) ≤ ((uI I 83 47 (I 83 45)) 83 45)) → vp_in ((uI I 83 47 (I 83 45)) 83 45) 2000) ∧ (∀ y11 : Int32, y11 = (if ((uI I 83 47 (I 83 45)) 83 46) ≤ ((uI I 83 47 (I 83 45)) 83 45) then (-1) else ((uI I 83 47 (I 83 45)) 84 (((uI I 83 47 (I 83 45)) 83 45).toNatClampNeg)) &&& 255 : Int32) → (((0 ≤ y11) → (((¬ (y11 < 97) ∧ (¬ (122 < y11))) → J E mX12_token (d + 1) Q 0 0 79 [some (.ref (eB E + 83)), some (.int y11), some (.int 0)] [] h (uI (uI I 83 47 (I 83 45)) 83 49 y11) (uL L 83 50 0)) ∧ (¬ (¬ (y11 < 97) ∧ (¬ (122 < y11))) → (((¬ (y11 < 48) ∧ (¬ (57 < y11))) → J E mX12_token (d + 1) Q 0 0 168 [some (.ref (eB E + 83)), some (.int y11), some (.int 0)] [] h (uI (uI (uI I 83 47 (I 83 45)) 83 49 y11) 83 49 0) (uL L 83 50 0)) ∧ (¬ (¬ (y11 < 48) ∧ (¬ (57 < y11))) → (∀ y24 : Int32, y24 = (if y11 = 58 then 4 else if y11 = 59 then 4 else if y11 = 60 then 4 else if y11 = 62 then 4 else if y11 = 61 then 4 else 1) → Q none h (uI (uI (uI (uI I 83 47 (I 83 45)) 83 49 y11) 83 45 ((I 83 45) + 1)) 83 48 y24) (uL L 83 50 0))))))) ∧ (¬ (0 ≤ y11) → Q none h (uI (uI (uI I 83 47 (I 83 45)) 83 49 y11) 83 48 0) (uL L 83 50 0))))))))))) :
    J E mX12_token (d + 1) Q 0 0 0 [some (.ref (eB E + 83)), none, none] [] h I L := by
  refine J.aload_n dX12_token_0 rfl rfl ?_
  obtain ⟨hb1, hW⟩ := hW
  refine J.callV (M' := mX12_see) (index := 290) (bc := 0) (bs := 0) (bc' := 0) (bs' := 0) (st := []) [] ml_X12_290 cv_X12_see dX12_token_1 (lt83 hs) (kk83 hs) (by decide) rfl rfl rfl rfl (Nat.le_of_ble_eq_true rfl) (kqi (w_X12_see (d := d) (Q := qi h L (fun v I' => I' = I ∧ v = (if (I 83 46) ≤ (I 83 45) then (-1) else (I 84 ((I 83 45).toNatClampNeg)) &&& 255 : Int32))) hs  ⟨hb1, rfl, rfl, _, rfl, rfl, rfl⟩) (fun v2 I3 hv => ?_))
  rw [hv.1, hv.2]
  refine J.bipush (v := 10) dX12_token_4 (by decide) ?_
  refine J.ic_eq 18 dX12_token_6 (by decide) (fun hc4 => ?_) (fun hc4 => ?_)
  · have hW := hW.1 hc4
    refine J.aload_n dX12_token_18 rfl rfl ?_
    refine J.dup dX12_token_19 rfl ?_
    refine J.getI (x := I 83 45) fl_X12_284 rfl dX12_token_20 (lt83 hs) (kk83 hs) rfl ?_
    refine J.iconst (v := 1) dX12_token_23 (by decide) ?_
    refine J.iadd dX12_token_24 ?_
    refine J.putI fw_X12_284 rfl dX12_token_25 (lt83 hs) (kk83 hs) ?_
    refine J.goto 0 dX12_token_28 (by decide) ?_
    exact hW
  · have hW := hW.2 hc4
    refine J.aload_n dX12_token_9 rfl rfl ?_
    refine J.callV (M' := mX12_see) (index := 290) (bc := 0) (bs := 0) (bc' := 0) (bs' := 0) (st := []) [] ml_X12_290 cv_X12_see dX12_token_10 (lt83 hs) (kk83 hs) (by decide) rfl rfl rfl rfl (Nat.le_of_ble_eq_true rfl) (kqi (w_X12_see (d := d) (Q := qi h L (fun v I' => I' = I ∧ v = (if (I 83 46) ≤ (I 83 45) then (-1) else (I 84 ((I 83 45).toNatClampNeg)) &&& 255 : Int32))) hs  ⟨hb1, rfl, rfl, _, rfl, rfl, rfl⟩) (fun v5 I6 hv => ?_))
    rw [hv.1, hv.2]
    refine J.bipush (v := 32) dX12_token_13 (by decide) ?_
    refine J.ic_ne 31 dX12_token_15 (by decide) (fun hc7 => ?_) (fun hc7 => ?_)
    · have hW := hW.2 hc7
      refine J.aload_n dX12_token_31 rfl rfl ?_
      refine J.aload_n dX12_token_32 rfl rfl ?_
      refine J.getI (x := I 83 45) fl_X12_284 rfl dX12_token_33 (lt83 hs) (kk83 hs) rfl ?_
      refine J.putI fw_X12_294 rfl dX12_token_36 (lt83 hs) (kk83 hs) ?_
      refine J.aload_n dX12_token_39 rfl rfl ?_
      obtain ⟨hb8, hW⟩ := hW
      refine J.callV (M' := mX12_see) (index := 290) (bc := 0) (bs := 0) (bc' := 0) (bs' := 0) (st := []) [] ml_X12_290 cv_X12_see dX12_token_40 (lt83 hs) (kk83 hs) (by decide) rfl rfl rfl rfl (Nat.le_of_ble_eq_true rfl) (kqi (w_X12_see (d := d) (Q := qi h L (fun v I' => I' = (uI I 83 47 (I 83 45)) ∧ v = (if ((uI I 83 47 (I 83 45)) 83 46) ≤ ((uI I 83 47 (I 83 45)) 83 45) then (-1) else ((uI I 83 47 (I 83 45)) 84 (((uI I 83 47 (I 83 45)) 83 45).toNatClampNeg)) &&& 255 : Int32))) hs  ⟨hb8, rfl, rfl, _, rfl, rfl, rfl⟩) (fun v9 I10 hv => ?_))
      rw [hv.1, hv.2]
      refine J.topi (fun y11 hyy11 => ?_)
      have hW := hW y11 hyy11
      refine J.istore_n (vs' := [some (.ref (eB E + 83)), some (.int y11), none]) dX12_token_43 rfl (by decide) rfl ?_
      refine J.aload_n dX12_token_44 rfl rfl ?_
      refine J.iload_n dX12_token_45 rfl rfl ?_
      refine J.putI fw_X12_297 rfl dX12_token_46 (lt83 hs) (kk83 hs) ?_
      refine J.aload_n dX12_token_49 rfl rfl ?_
      refine J.lconst (v := 0) dX12_token_50 (by decide) ?_
      refine J.putL fw_X12_300 rfl dX12_token_51 (lt83 hs) (kk83 hs) ?_
      refine J.iconst (v := 0) dX12_token_54 (by decide) ?_
      refine J.istore_n (vs' := [some (.ref (eB E + 83)), some (.int y11), some (.int 0)]) dX12_token_55 rfl (by decide) rfl ?_
      refine J.iload_n dX12_token_56 rfl rfl ?_
      refine J.if_ge 68 dX12_token_57 (by decide) (fun hc12 => ?_) (fun hc12 => ?_)
      · have hW := hW.1 hc12
        refine J.iload_n dX12_token_68 rfl rfl ?_
        refine J.bipush (v := 97) dX12_token_69 (by decide) ?_
        refine J.bipush (v := 122) dX12_token_71 (by decide) ?_
        refine J.callS (M' := mX12_in) (index := 218) (bc := 0) (bs := 0) (bc' := 0) (bs' := 0) (st := []) [.int y11, .int 97, .int 122] ml_X12_218 cv_X12_in dX12_token_73 rfl rfl (Nat.le_of_ble_eq_true rfl) (kqi (w_X12_in (d := d) (Q := qi h (uL L 83 50 0) (fun v I' => I' = (uI (uI I 83 47 (I 83 45)) 83 49 y11) ∧ v = bI (¬ (y11 < 97) ∧ (¬ (122 < y11))))) hs y11 97 122 ⟨rfl, rfl, _, rfl, rfl, rfl⟩) (fun v13 I14 hv => ?_))
        rw [hv.1, hv.2]
        refine J.if_eq 152 dX12_token_76 (by decide) (fun hc15 => ?_) (fun hc15 => ?_)
        · have hc15 := bI_0.mp hc15
          have hW := hW.2 hc15
          refine J.iload_n dX12_token_152 rfl rfl ?_
          refine J.bipush (v := 48) dX12_token_153 (by decide) ?_
          refine J.bipush (v := 57) dX12_token_155 (by decide) ?_
          refine J.callS (M' := mX12_in) (index := 218) (bc := 0) (bs := 0) (bc' := 0) (bs' := 0) (st := []) [.int y11, .int 48, .int 57] ml_X12_218 cv_X12_in dX12_token_157 rfl rfl (Nat.le_of_ble_eq_true rfl) (kqi (w_X12_in (d := d) (Q := qi h (uL L 83 50 0) (fun v I' => I' = (uI (uI I 83 47 (I 83 45)) 83 49 y11) ∧ v = bI (¬ (y11 < 48) ∧ (¬ (57 < y11))))) hs y11 48 57 ⟨rfl, rfl, _, rfl, rfl, rfl⟩) (fun v16 I17 hv => ?_))
          rw [hv.1, hv.2]
          refine J.if_eq 246 dX12_token_160 (by decide) (fun hc18 => ?_) (fun hc18 => ?_)
          · have hc18 := bI_0.mp hc18
            have hW := hW.2 hc18
            refine J.aload_n dX12_token_246 rfl rfl ?_
            refine J.dup dX12_token_247 rfl ?_
            refine J.getI (x := I 83 45) fl_X12_284 rfl dX12_token_248 (lt83 hs) (kk83 hs) rfl ?_
            refine J.iconst (v := 1) dX12_token_251 (by decide) ?_
            refine J.iadd dX12_token_252 ?_
            refine J.putI fw_X12_284 rfl dX12_token_253 (lt83 hs) (kk83 hs) ?_
            refine J.aload_n dX12_token_256 rfl rfl ?_
            refine J.iload_n dX12_token_257 rfl rfl ?_
            refine J.bipush (v := 58) dX12_token_258 (by decide) ?_
            obtain ⟨y24, hyy24⟩ : ∃ y24 : Int32, y24 = (if y11 = 58 then 4 else if y11 = 59 then 4 else if y11 = 60 then 4 else if y11 = 62 then 4 else if y11 = 61 then 4 else 1) := ⟨_, rfl⟩
            have hW := hW y24 hyy24
            have hj : J E mX12_token (d + 1) Q 0 0 292 [some (.ref (eB E + 83)), some (.int y11), some (.int 0)] [.int y24, .ref (eB E + 83)] h (uI (uI (uI I 83 47 (I 83 45)) 83 49 y11) 83 45 ((I 83 45) + 1)) (uL L 83 50 0) := by
              refine J.putI fw_X12_304 rfl dX12_token_292 (lt83 hs) (kk83 hs) ?_
              exact J.retv dX12_token_295 rfl hW
            refine J.ic_eq 287 dX12_token_260 (by decide) (fun hc19 => ?_) (fun hc19 => ?_)
            · refine J.iconst (v := 4) dX12_token_287 (by decide) ?_
              refine J.goto 292 dX12_token_288 (by decide) ?_
              rw [show y24 = 4 from by simp only [hyy24, eq_true hc19, if_true, if_false, bI_true, bI_false, and_true, true_and, and_false, false_and, or_true, true_or, or_false, false_or, not_true_eq_false, not_false_eq_true]] at hj
              exact hj
            · refine J.iload_n dX12_token_263 rfl rfl ?_
              refine J.bipush (v := 59) dX12_token_264 (by decide) ?_
              refine J.ic_eq 287 dX12_token_266 (by decide) (fun hc20 => ?_) (fun hc20 => ?_)
              · refine J.iconst (v := 4) dX12_token_287 (by decide) ?_
                refine J.goto 292 dX12_token_288 (by decide) ?_
                rw [show y24 = 4 from by simp only [hyy24, eq_false hc19, eq_true hc20, if_true, if_false, bI_true, bI_false, and_true, true_and, and_false, false_and, or_true, true_or, or_false, false_or, not_true_eq_false, not_false_eq_true]] at hj
                exact hj
              · refine J.iload_n dX12_token_269 rfl rfl ?_
                refine J.bipush (v := 60) dX12_token_270 (by decide) ?_
                refine J.ic_eq 287 dX12_token_272 (by decide) (fun hc21 => ?_) (fun hc21 => ?_)
                · refine J.iconst (v := 4) dX12_token_287 (by decide) ?_
                  refine J.goto 292 dX12_token_288 (by decide) ?_
                  rw [show y24 = 4 from by simp only [hyy24, eq_false hc19, eq_false hc20, eq_true hc21, if_true, if_false, bI_true, bI_false, and_true, true_and, and_false, false_and, or_true, true_or, or_false, false_or, not_true_eq_false, not_false_eq_true]] at hj
                  exact hj
                · refine J.iload_n dX12_token_275 rfl rfl ?_
                  refine J.bipush (v := 62) dX12_token_276 (by decide) ?_
                  refine J.ic_eq 287 dX12_token_278 (by decide) (fun hc22 => ?_) (fun hc22 => ?_)
                  · refine J.iconst (v := 4) dX12_token_287 (by decide) ?_
                    refine J.goto 292 dX12_token_288 (by decide) ?_
                    rw [show y24 = 4 from by simp only [hyy24, eq_false hc19, eq_false hc20, eq_false hc21, eq_true hc22, if_true, if_false, bI_true, bI_false, and_true, true_and, and_false, false_and, or_true, true_or, or_false, false_or, not_true_eq_false, not_false_eq_true]] at hj
                    exact hj
                  · refine J.iload_n dX12_token_281 rfl rfl ?_
                    refine J.bipush (v := 61) dX12_token_282 (by decide) ?_
                    refine J.ic_ne 291 dX12_token_284 (by decide) (fun hc23 => ?_) (fun hc23 => ?_)
                    · refine J.iconst (v := 1) dX12_token_291 (by decide) ?_
                      rw [show y24 = 1 from by simp only [hyy24, eq_false hc19, eq_false hc20, eq_false hc21, eq_false hc22, eq_false hc23, if_true, if_false, bI_true, bI_false, and_true, true_and, and_false, false_and, or_true, true_or, or_false, false_or, not_true_eq_false, not_false_eq_true]] at hj
                      exact hj
                    · refine J.iconst (v := 4) dX12_token_287 (by decide) ?_
                      refine J.goto 292 dX12_token_288 (by decide) ?_
                      rw [show y24 = 4 from by simp only [hyy24, eq_false hc19, eq_false hc20, eq_false hc21, eq_false hc22, eq_true hc23, if_true, if_false, bI_true, bI_false, and_true, true_and, and_false, false_and, or_true, true_or, or_false, false_or, not_true_eq_false, not_false_eq_true]] at hj
                      exact hj
          · have hc18 := bI_n0.mp hc18
            have hW := hW.1 hc18
            refine J.aload_n dX12_token_163 rfl rfl ?_
            refine J.iconst (v := 0) dX12_token_164 (by decide) ?_
            refine J.putI fw_X12_297 rfl dX12_token_165 (lt83 hs) (kk83 hs) ?_
            exact hW
        · have hc15 := bI_n0.mp hc15
          have hW := hW.1 hc15
          exact hW
      · have hW := hW.2 hc12
        refine J.aload_n dX12_token_60 rfl rfl ?_
        refine J.iconst (v := 0) dX12_token_61 (by decide) ?_
        refine J.putI fw_X12_304 rfl dX12_token_62 (lt83 hs) (kk83 hs) ?_
        refine J.goto 295 dX12_token_65 (by decide) ?_
        exact J.retv dX12_token_295 rfl hW
    · have hW := hW.1 hc7
      refine J.aload_n dX12_token_18 rfl rfl ?_
      refine J.dup dX12_token_19 rfl ?_
      refine J.getI (x := I 83 45) fl_X12_284 rfl dX12_token_20 (lt83 hs) (kk83 hs) rfl ?_
      refine J.iconst (v := 1) dX12_token_23 (by decide) ?_
      refine J.iadd dX12_token_24 ?_
      refine J.putI fw_X12_284 rfl dX12_token_25 (lt83 hs) (kk83 hs) ?_
      refine J.goto 0 dX12_token_28 (by decide) ?_
      exact hW
set_option maxRecDepth 100000 in
set_option maxHeartbeats 4000000 in
theorem w_X12_token_79 {E : Envt} {d : Nat} {Q : Pst} {h : mS} {I : mI} {L : mL} (hs : SL h)    (x1 : Int32) (x2 : Int32)
    (hW : ((¬ ((I 83 46) ≤ (I 83 45)) → vp_in (I 83 45) 2000) ∧ (((¬ ((if (I 83 46) ≤ (I 83 45) then (-1) else (I 84 ((I 83 45).toNatClampNeg)) &&& 255 : Int32) < 97) ∧ (¬ (122 < (if (I 83 46) ≤ (I 83 45) then (-1) else (I 84 ((I 83 45).toNatClampNeg)) &&& 255 : Int32)))) → J E mX12_token (d + 1) Q 0 0 79 [some (.ref (eB E + 83)), some (.int x1), some (.int (x2 + 1))] [] h (uI I 83 45 ((I 83 45) + 1)) (uL L 83 50 (((L 83 50) <<< ((8 : Int32).toInt64 &&& 63)) ||| ((if (I 83 46) ≤ (I 83 45) then (-1) else (I 84 ((I 83 45).toNatClampNeg)) &&& 255 : Int32).toInt64)))) ∧ (¬ (¬ ((if (I 83 46) ≤ (I 83 45) then (-1) else (I 84 ((I 83 45).toNatClampNeg)) &&& 255 : Int32) < 97) ∧ (¬ (122 < (if (I 83 46) ≤ (I 83 45) then (-1) else (I 84 ((I 83 45).toNatClampNeg)) &&& 255 : Int32)))) → (∀ y8 : Int64, y8 = (if x2 ≤ 8 then L 83 50 else 0) → Q none h (uI I 83 48 2) (uL L 83 50 y8)))))) :
    J E mX12_token (d + 1) Q 0 0 79 [some (.ref (eB E + 83)), some (.int x1), some (.int x2)] [] h I L := by
  refine J.aload_n dX12_token_79 rfl rfl ?_
  obtain ⟨hb1, hW⟩ := hW
  refine J.callV (M' := mX12_see) (index := 290) (bc := 0) (bs := 0) (bc' := 0) (bs' := 0) (st := []) [] ml_X12_290 cv_X12_see dX12_token_80 (lt83 hs) (kk83 hs) (by decide) rfl rfl rfl rfl (Nat.le_of_ble_eq_true rfl) (kqi (w_X12_see (d := d) (Q := qi h L (fun v I' => I' = I ∧ v = (if (I 83 46) ≤ (I 83 45) then (-1) else (I 84 ((I 83 45).toNatClampNeg)) &&& 255 : Int32))) hs  ⟨hb1, rfl, rfl, _, rfl, rfl, rfl⟩) (fun v2 I3 hv => ?_))
  rw [hv.1, hv.2]
  refine J.bipush (v := 97) dX12_token_83 (by decide) ?_
  refine J.bipush (v := 122) dX12_token_85 (by decide) ?_
  refine J.callS (M' := mX12_in) (index := 218) (bc := 0) (bs := 0) (bc' := 0) (bs' := 0) (st := []) [.int (if (I 83 46) ≤ (I 83 45) then (-1) else (I 84 ((I 83 45).toNatClampNeg)) &&& 255 : Int32), .int 97, .int 122] ml_X12_218 cv_X12_in dX12_token_87 rfl rfl (Nat.le_of_ble_eq_true rfl) (kqi (w_X12_in (d := d) (Q := qi h L (fun v I' => I' = I ∧ v = bI (¬ ((if (I 83 46) ≤ (I 83 45) then (-1) else (I 84 ((I 83 45).toNatClampNeg)) &&& 255 : Int32) < 97) ∧ (¬ (122 < (if (I 83 46) ≤ (I 83 45) then (-1) else (I 84 ((I 83 45).toNatClampNeg)) &&& 255 : Int32)))))) hs (if (I 83 46) ≤ (I 83 45) then (-1) else (I 84 ((I 83 45).toNatClampNeg)) &&& 255 : Int32) 97 122 ⟨rfl, rfl, _, rfl, rfl, rfl⟩) (fun v4 I5 hv => ?_))
  rw [hv.1, hv.2]
  refine J.if_eq 126 dX12_token_90 (by decide) (fun hc6 => ?_) (fun hc6 => ?_)
  · have hc6 := bI_0.mp hc6
    have hW := hW.2 hc6
    refine J.aload_n dX12_token_126 rfl rfl ?_
    refine J.iload_n dX12_token_127 rfl rfl ?_
    refine J.bipush (v := 8) dX12_token_128 (by decide) ?_
    obtain ⟨y8, hyy8⟩ : ∃ y8 : Int64, y8 = (if x2 ≤ 8 then L 83 50 else 0) := ⟨_, rfl⟩
    have hW := hW y8 hyy8
    have hj : J E mX12_token (d + 1) Q 0 0 141 [some (.ref (eB E + 83)), some (.int x1), some (.int x2)] [.long y8, .ref (eB E + 83)] h I L := by
      refine J.putL fw_X12_300 rfl dX12_token_141 (lt83 hs) (kk83 hs) ?_
      refine J.aload_n dX12_token_144 rfl rfl ?_
      refine J.iconst (v := 2) dX12_token_145 (by decide) ?_
      refine J.putI fw_X12_304 rfl dX12_token_146 (lt83 hs) (kk83 hs) ?_
      refine J.goto 295 dX12_token_149 (by decide) ?_
      exact J.retv dX12_token_295 rfl hW
    refine J.ic_le 137 dX12_token_130 (by decide) (fun hc7 => ?_) (fun hc7 => ?_)
    · refine J.aload_n dX12_token_137 rfl rfl ?_
      refine J.getL (x := L 83 50) fl_X12_300 rfl dX12_token_138 (lt83 hs) (kk83 hs) rfl ?_
      rw [show y8 = L 83 50 from by simp only [hyy8, eq_true hc7, if_true, if_false, bI_true, bI_false, and_true, true_and, and_false, false_and, or_true, true_or, or_false, false_or, not_true_eq_false, not_false_eq_true]] at hj
      exact hj
    · refine J.lconst (v := 0) dX12_token_133 (by decide) ?_
      refine J.goto 141 dX12_token_134 (by decide) ?_
      rw [show y8 = 0 from by simp only [hyy8, eq_false hc7, if_true, if_false, bI_true, bI_false, and_true, true_and, and_false, false_and, or_true, true_or, or_false, false_or, not_true_eq_false, not_false_eq_true]] at hj
      exact hj
  · have hc6 := bI_n0.mp hc6
    have hW := hW.1 hc6
    refine J.aload_n dX12_token_93 rfl rfl ?_
    refine J.aload_n dX12_token_94 rfl rfl ?_
    refine J.getL (x := L 83 50) fl_X12_300 rfl dX12_token_95 (lt83 hs) (kk83 hs) rfl ?_
    refine J.bipush (v := 8) dX12_token_98 (by decide) ?_
    refine J.lshl dX12_token_100 ?_
    refine J.aload_n dX12_token_101 rfl rfl ?_
    refine J.callV (M' := mX12_see) (index := 290) (bc := 0) (bs := 0) (bc' := 0) (bs' := 0) (st := [.long ((L 83 50) <<< ((8 : Int32).toInt64 &&& 63)), .ref (eB E + 83)]) [] ml_X12_290 cv_X12_see dX12_token_102 (lt83 hs) (kk83 hs) (by decide) rfl rfl rfl rfl (Nat.le_of_ble_eq_true rfl) (kqi (w_X12_see (d := d) (Q := qi h L (fun v I' => I' = I ∧ v = (if (I 83 46) ≤ (I 83 45) then (-1) else (I 84 ((I 83 45).toNatClampNeg)) &&& 255 : Int32))) hs  ⟨hb1, rfl, rfl, _, rfl, rfl, rfl⟩) (fun v9 I10 hv => ?_))
    rw [hv.1, hv.2]
    refine J.i2l dX12_token_105 ?_
    refine J.lor dX12_token_106 ?_
    refine J.putL fw_X12_300 rfl dX12_token_107 (lt83 hs) (kk83 hs) ?_
    refine J.aload_n dX12_token_110 rfl rfl ?_
    refine J.dup dX12_token_111 rfl ?_
    refine J.getI (x := I 83 45) fl_X12_284 rfl dX12_token_112 (lt83 hs) (kk83 hs) rfl ?_
    refine J.iconst (v := 1) dX12_token_115 (by decide) ?_
    refine J.iadd dX12_token_116 ?_
    refine J.putI fw_X12_284 rfl dX12_token_117 (lt83 hs) (kk83 hs) ?_
    refine J.iinc (v := x2 + 1) (vs' := [some (.ref (eB E + 83)), some (.int x1), some (.int (x2 + 1))]) dX12_token_120 rfl (by rfl) (by decide) rfl ?_
    refine J.goto 79 dX12_token_123 (by decide) ?_
    exact hW
set_option maxRecDepth 100000 in
set_option maxHeartbeats 4000000 in
theorem w_X12_token_168 {E : Envt} {d : Nat} {Q : Pst} {h : mS} {I : mI} {L : mL} (hs : SL h)    (x1 : Int32) (x2 : Int32)
    (hW : ((¬ ((I 83 46) ≤ (I 83 45)) → vp_in (I 83 45) 2000) ∧ (((¬ ((if (I 83 46) ≤ (I 83 45) then (-1) else (I 84 ((I 83 45).toNatClampNeg)) &&& 255 : Int32) < 48) ∧ (¬ (57 < (if (I 83 46) ≤ (I 83 45) then (-1) else (I 84 ((I 83 45).toNatClampNeg)) &&& 255 : Int32)))) → (∀ y11 : Int32, y11 = (if 4 ≤ x2 then I 83 49 else ((10 * (I 83 49)) + (if (I 83 46) ≤ (I 83 45) then (-1) else (I 84 ((I 83 45).toNatClampNeg)) &&& 255 : Int32)) - 48) → J E mX12_token (d + 1) Q 0 0 168 [some (.ref (eB E + 83)), some (.int x1), some (.int (x2 + 1))] [] h (uI (uI I 83 49 y11) 83 45 ((I 83 45) + 1)) L)) ∧ (¬ (¬ ((if (I 83 46) ≤ (I 83 45) then (-1) else (I 84 ((I 83 45).toNatClampNeg)) &&& 255 : Int32) < 48) ∧ (¬ (57 < (if (I 83 46) ≤ (I 83 45) then (-1) else (I 84 ((I 83 45).toNatClampNeg)) &&& 255 : Int32)))) → Q none h (uI I 83 48 (if x2 ≤ 4 then 3 else 1 : Int32)) L)))) :
    J E mX12_token (d + 1) Q 0 0 168 [some (.ref (eB E + 83)), some (.int x1), some (.int x2)] [] h I L := by
  refine J.aload_n dX12_token_168 rfl rfl ?_
  obtain ⟨hb1, hW⟩ := hW
  refine J.callV (M' := mX12_see) (index := 290) (bc := 0) (bs := 0) (bc' := 0) (bs' := 0) (st := []) [] ml_X12_290 cv_X12_see dX12_token_169 (lt83 hs) (kk83 hs) (by decide) rfl rfl rfl rfl (Nat.le_of_ble_eq_true rfl) (kqi (w_X12_see (d := d) (Q := qi h L (fun v I' => I' = I ∧ v = (if (I 83 46) ≤ (I 83 45) then (-1) else (I 84 ((I 83 45).toNatClampNeg)) &&& 255 : Int32))) hs  ⟨hb1, rfl, rfl, _, rfl, rfl, rfl⟩) (fun v2 I3 hv => ?_))
  rw [hv.1, hv.2]
  refine J.bipush (v := 48) dX12_token_172 (by decide) ?_
  refine J.bipush (v := 57) dX12_token_174 (by decide) ?_
  refine J.callS (M' := mX12_in) (index := 218) (bc := 0) (bs := 0) (bc' := 0) (bs' := 0) (st := []) [.int (if (I 83 46) ≤ (I 83 45) then (-1) else (I 84 ((I 83 45).toNatClampNeg)) &&& 255 : Int32), .int 48, .int 57] ml_X12_218 cv_X12_in dX12_token_176 rfl rfl (Nat.le_of_ble_eq_true rfl) (kqi (w_X12_in (d := d) (Q := qi h L (fun v I' => I' = I ∧ v = bI (¬ ((if (I 83 46) ≤ (I 83 45) then (-1) else (I 84 ((I 83 45).toNatClampNeg)) &&& 255 : Int32) < 48) ∧ (¬ (57 < (if (I 83 46) ≤ (I 83 45) then (-1) else (I 84 ((I 83 45).toNatClampNeg)) &&& 255 : Int32)))))) hs (if (I 83 46) ≤ (I 83 45) then (-1) else (I 84 ((I 83 45).toNatClampNeg)) &&& 255 : Int32) 48 57 ⟨rfl, rfl, _, rfl, rfl, rfl⟩) (fun v4 I5 hv => ?_))
  rw [hv.1, hv.2]
  refine J.if_eq 229 dX12_token_179 (by decide) (fun hc6 => ?_) (fun hc6 => ?_)
  · have hc6 := bI_0.mp hc6
    have hW := hW.2 hc6
    refine J.aload_n dX12_token_229 rfl rfl ?_
    refine J.iload_n dX12_token_230 rfl rfl ?_
    refine J.iconst (v := 4) dX12_token_231 (by decide) ?_
    have hj : J E mX12_token (d + 1) Q 0 0 240 [some (.ref (eB E + 83)), some (.int x1), some (.int x2)] [.int (if x2 ≤ 4 then 3 else 1 : Int32), .ref (eB E + 83)] h I L := by
      refine J.putI fw_X12_304 rfl dX12_token_240 (lt83 hs) (kk83 hs) ?_
      refine J.goto 295 dX12_token_243 (by decide) ?_
      exact J.retv dX12_token_295 rfl hW
    refine J.ic_le 239 dX12_token_232 (by decide) (fun hc7 => ?_) (fun hc7 => ?_)
    · refine J.iconst (v := 3) dX12_token_239 (by decide) ?_
      rw [show ((if x2 ≤ 4 then 3 else 1 : Int32) = 3) from by simp only [eq_true hc7, if_true, if_false, bI_true, bI_false, and_true, true_and, and_false, false_and, or_true, true_or, or_false, false_or, not_true_eq_false, not_false_eq_true]] at hj
      exact hj
    · refine J.iconst (v := 1) dX12_token_235 (by decide) ?_
      refine J.goto 240 dX12_token_236 (by decide) ?_
      rw [show ((if x2 ≤ 4 then 3 else 1 : Int32) = 1) from by simp only [eq_false hc7, if_true, if_false, bI_true, bI_false, and_true, true_and, and_false, false_and, or_true, true_or, or_false, false_or, not_true_eq_false, not_false_eq_true]] at hj
      exact hj
  · have hc6 := bI_n0.mp hc6
    have hW := hW.1 hc6
    refine J.aload_n dX12_token_182 rfl rfl ?_
    refine J.iload_n dX12_token_183 rfl rfl ?_
    refine J.iconst (v := 4) dX12_token_184 (by decide) ?_
    obtain ⟨y11, hyy11⟩ : ∃ y11 : Int32, y11 = (if 4 ≤ x2 then I 83 49 else ((10 * (I 83 49)) + (if (I 83 46) ≤ (I 83 45) then (-1) else (I 84 ((I 83 45).toNatClampNeg)) &&& 255 : Int32)) - 48) := ⟨_, rfl⟩
    have hW := hW y11 hyy11
    have hj : J E mX12_token (d + 1) Q 0 0 210 [some (.ref (eB E + 83)), some (.int x1), some (.int x2)] [.int y11, .ref (eB E + 83)] h I L := by
      refine J.putI fw_X12_297 rfl dX12_token_210 (lt83 hs) (kk83 hs) ?_
      refine J.aload_n dX12_token_213 rfl rfl ?_
      refine J.dup dX12_token_214 rfl ?_
      refine J.getI (x := I 83 45) fl_X12_284 rfl dX12_token_215 (lt83 hs) (kk83 hs) rfl ?_
      refine J.iconst (v := 1) dX12_token_218 (by decide) ?_
      refine J.iadd dX12_token_219 ?_
      refine J.putI fw_X12_284 rfl dX12_token_220 (lt83 hs) (kk83 hs) ?_
      refine J.iinc (v := x2 + 1) (vs' := [some (.ref (eB E + 83)), some (.int x1), some (.int (x2 + 1))]) dX12_token_223 rfl (by rfl) (by decide) rfl ?_
      refine J.goto 168 dX12_token_226 (by decide) ?_
      exact hW
    refine J.ic_ge 206 dX12_token_185 (by decide) (fun hc8 => ?_) (fun hc8 => ?_)
    · refine J.aload_n dX12_token_206 rfl rfl ?_
      refine J.getI (x := I 83 49) fl_X12_297 rfl dX12_token_207 (lt83 hs) (kk83 hs) rfl ?_
      rw [show y11 = I 83 49 from by simp only [hyy11, eq_true hc8, if_true, if_false, bI_true, bI_false, and_true, true_and, and_false, false_and, or_true, true_or, or_false, false_or, not_true_eq_false, not_false_eq_true]] at hj
      exact hj
    · refine J.bipush (v := 10) dX12_token_188 (by decide) ?_
      refine J.aload_n dX12_token_190 rfl rfl ?_
      refine J.getI (x := I 83 49) fl_X12_297 rfl dX12_token_191 (lt83 hs) (kk83 hs) rfl ?_
      refine J.imul dX12_token_194 ?_
      refine J.aload_n dX12_token_195 rfl rfl ?_
      refine J.callV (M' := mX12_see) (index := 290) (bc := 0) (bs := 0) (bc' := 0) (bs' := 0) (st := [.int (10 * (I 83 49)), .ref (eB E + 83)]) [] ml_X12_290 cv_X12_see dX12_token_196 (lt83 hs) (kk83 hs) (by decide) rfl rfl rfl rfl (Nat.le_of_ble_eq_true rfl) (kqi (w_X12_see (d := d) (Q := qi h L (fun v I' => I' = I ∧ v = (if (I 83 46) ≤ (I 83 45) then (-1) else (I 84 ((I 83 45).toNatClampNeg)) &&& 255 : Int32))) hs  ⟨hb1, rfl, rfl, _, rfl, rfl, rfl⟩) (fun v9 I10 hv => ?_))
      rw [hv.1, hv.2]
      refine J.iadd dX12_token_199 ?_
      refine J.bipush (v := 48) dX12_token_200 (by decide) ?_
      refine J.isub dX12_token_202 ?_
      refine J.goto 210 dX12_token_203 (by decide) ?_
      rw [show y11 = ((10 * (I 83 49)) + (if (I 83 46) ≤ (I 83 45) then (-1) else (I 84 ((I 83 45).toNatClampNeg)) &&& 255 : Int32)) - 48 from by simp only [hyy11, eq_false hc8, if_true, if_false, bI_true, bI_false, and_true, true_and, and_false, false_and, or_true, true_or, or_false, false_or, not_true_eq_false, not_false_eq_true]] at hj
      exact hj
