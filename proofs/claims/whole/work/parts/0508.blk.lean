set_option maxRecDepth 100000 in
set_option maxHeartbeats 4000000 in
theorem w_X8_isWord {E : Envt} {d : Nat} {Q : Pst} {h : mS} {I : mI} {L : mL} (hs : SL h) {w1 : Nat} (hw1 : w1 < 19)
    (hW : ((((I 47 1) = 1) → (((((I 47 3) - (I 47 2)) = (Int32.ofNat (sLen.getD w1 0))) → J E mX8_isWord (d + 4) Q 0 0 28 [some (.ref (eB E + 47)), some (.ref (eK E w1)), some (.int 0)] [] h I L) ∧ (¬ (((I 47 3) - (I 47 2)) = (Int32.ofNat (sLen.getD w1 0))) → Q (some (.int 0)) h I L))) ∧ (¬ ((I 47 1) = 1) → Q (some (.int 0)) h I L))) :
    CT E mX8_isWord (d + 4) 0 0 [.ref (eB E + 47), .ref (eK E w1)] h I L Q := by
  refine CT.of (by decide) [some (.ref (eB E + 47)), some (.ref (eK E w1)), none] rfl (Nat.le_of_ble_eq_true rfl) ?_
  refine J.aload_n dX8_isWord_0 rfl rfl ?_
  refine J.getI (x := I 47 1) fl_X8_47 rfl dX8_isWord_1 (lt47 hs) (kk47 hs) rfl ?_
  refine J.iconst (v := 1) dX8_isWord_4 (by decide) ?_
  refine J.ic_ne 24 dX8_isWord_5 (by decide) (fun hc1 => ?_) (fun hc1 => ?_)
  · have hW := hW.2 hc1
    refine J.iconst (v := 0) dX8_isWord_24 (by decide) ?_
    exact J.reti dX8_isWord_25 rfl (bz_nar (Or.inl rfl)) hW
  · have hW := hW.1 hc1
    refine J.aload_n dX8_isWord_8 rfl rfl ?_
    refine J.getI (x := I 47 3) fl_X8_28 rfl dX8_isWord_9 (lt47 hs) (kk47 hs) rfl ?_
    refine J.aload_n dX8_isWord_12 rfl rfl ?_
    refine J.getI (x := I 47 2) fl_X8_138 rfl dX8_isWord_13 (lt47 hs) (kk47 hs) rfl ?_
    refine J.isub dX8_isWord_16 ?_
    refine J.aload_n dX8_isWord_17 rfl rfl ?_
    refine J.callStr (M' := mJ0_length_8abf5) (index := 182) (bc := 0) (bs := 0) (bc' := 0) (bs' := 0) (st := [.int ((I 47 3) - (I 47 2))]) [] ml_X8_182 cv_J0_length_8abf5 dX8_isWord_18 hw1 rfl rfl rfl (Nat.le_of_ble_eq_true rfl) (kqi (pf_length (d := d + 2) hw1) (fun v2 I3 hv => ?_))
    rw [hv.1, hv.2]
    refine J.ic_eq 26 dX8_isWord_21 (by decide) (fun hc4 => ?_) (fun hc4 => ?_)
    · have hW := hW.1 hc4
      refine J.iconst (v := 0) dX8_isWord_26 (by decide) ?_
      refine J.istore_n (vs' := [some (.ref (eB E + 47)), some (.ref (eK E w1)), some (.int 0)]) dX8_isWord_27 rfl (by decide) rfl ?_
      exact hW
    · have hW := hW.2 hc4
      refine J.iconst (v := 0) dX8_isWord_24 (by decide) ?_
      exact J.reti dX8_isWord_25 rfl (bz_nar (Or.inl rfl)) hW
set_option maxRecDepth 100000 in
set_option maxHeartbeats 4000000 in
theorem w_X8_isWord_28 {E : Envt} {d : Nat} {Q : Pst} {h : mS} {I : mI} {L : mL} (hs : SL h) {w1 : Nat} (hw1 : w1 < 19)  (x2 : Int32)
    (hW : ((((Int32.ofNat (sLen.getD w1 0)) ≤ x2) → Q (some (.int 1)) h I L) ∧ (¬ ((Int32.ofNat (sLen.getD w1 0)) ≤ x2) → (vp_in ((I 47 2) + x2) 500 ∧ ((vp_in x2 (sLen.getD w1 0)) ∧ ((((I 37 (((I 47 2) + x2).toNatClampNeg)) = ((sByt.getD w1 []).getD x2.toNatClampNeg 0)) → J E mX8_isWord (d + 4) Q 0 0 28 [some (.ref (eB E + 47)), some (.ref (eK E w1)), some (.int (x2 + 1))] [] h I L) ∧ (¬ ((I 37 (((I 47 2) + x2).toNatClampNeg)) = ((sByt.getD w1 []).getD x2.toNatClampNeg 0)) → Q (some (.int 0)) h I L))))))) :
    J E mX8_isWord (d + 4) Q 0 0 28 [some (.ref (eB E + 47)), some (.ref (eK E w1)), some (.int x2)] [] h I L := by
  refine J.iload_n dX8_isWord_28 rfl rfl ?_
  refine J.aload_n dX8_isWord_29 rfl rfl ?_
  refine J.callStr (M' := mJ0_length_8abf5) (index := 182) (bc := 0) (bs := 0) (bc' := 0) (bs' := 0) (st := [.int x2]) [] ml_X8_182 cv_J0_length_8abf5 dX8_isWord_30 hw1 rfl rfl rfl (Nat.le_of_ble_eq_true rfl) (kqi (pf_length (d := d + 2) hw1) (fun v1 I2 hv => ?_))
  rw [hv.1, hv.2]
  refine J.ic_ge 66 dX8_isWord_33 (by decide) (fun hc3 => ?_) (fun hc3 => ?_)
  · have hW := hW.1 hc3
    refine J.iconst (v := 1) dX8_isWord_66 (by decide) ?_
    exact J.reti dX8_isWord_67 rfl (bz_nar (Or.inr rfl)) hW
  · have hW := hW.2 hc3
    refine J.aload_n dX8_isWord_36 rfl rfl ?_
    refine J.getR (r := 1) fl_X8_20 rfl dX8_isWord_37 (lt47 hs) (kk47 hs) (rr47_0 hs) ?_
    refine J.getR (r := 37) fl_X8_132 rfl dX8_isWord_40 (lt1 hs) (kk1 hs) (rr1_6 hs) ?_
    refine J.aload_n dX8_isWord_43 rfl rfl ?_
    refine J.getI (x := I 47 2) fl_X8_138 rfl dX8_isWord_44 (lt47 hs) (kk47 hs) rfl ?_
    refine J.iload_n dX8_isWord_47 rfl rfl ?_
    refine J.iadd dX8_isWord_48 ?_
    obtain ⟨hb4, hW⟩ := hW
    refine J.bald (x := I 37 (((I 47 2) + x2).toNatClampNeg)) dX8_isWord_49 (lt37 hs) (kk37 hs) hb4 rfl ?_
    refine J.aload_n dX8_isWord_50 rfl rfl ?_
    refine J.iload_n dX8_isWord_51 rfl rfl ?_
    obtain ⟨hb5, hW⟩ := hW
    refine J.callStr (M' := mJ0_charAt_5068e) (index := 187) (bc := 0) (bs := 0) (bc' := 0) (bs' := 0) (st := [.int (I 37 (((I 47 2) + x2).toNatClampNeg))]) [.int x2] ml_X8_187 cv_J0_charAt_5068e dX8_isWord_52 hw1 rfl rfl rfl (Nat.le_of_ble_eq_true rfl) (kqi (pf_charAt (d := d) hw1 hb5) (fun v6 I7 hv => ?_))
    rw [hv.1, hv.2]
    refine J.ic_eq 60 dX8_isWord_55 (by decide) (fun hc8 => ?_) (fun hc8 => ?_)
    · have hW := hW.1 hc8
      refine J.iinc (v := x2 + 1) (vs' := [some (.ref (eB E + 47)), some (.ref (eK E w1)), some (.int (x2 + 1))]) dX8_isWord_60 rfl (by rfl) (by decide) rfl ?_
      refine J.goto 28 dX8_isWord_63 (by decide) ?_
      exact hW
    · have hW := hW.2 hc8
      refine J.iconst (v := 0) dX8_isWord_58 (by decide) ?_
      exact J.reti dX8_isWord_59 rfl (bz_nar (Or.inl rfl)) hW
set_option maxRecDepth 100000 in
set_option maxHeartbeats 4000000 in
theorem w_X8_subjectAtHand {E : Envt} {d : Nat} {Q : Pst} {h : mS} {I : mI} {L : mL} (hs : SL h)  
    (hW : (CT E mX8_isWord (d + 4) 0 0 [.ref (eB E + 47), .ref (eK E 2)] h I L (qi h L fun r2 I1 => (((r2 = 0) → (CT E mX8_isWord (d + 4) 0 0 [.ref (eB E + 47), .ref (eK E 3)] h I1 L (qi h L fun r5 I4 => (((r5 = 0) → (CT E mX8_isWord (d + 4) 0 0 [.ref (eB E + 47), .ref (eK E 4)] h I4 L (qi h L fun r8 I7 => (((r8 = 0) → (CT E mX8_isWord (d + 4) 0 0 [.ref (eB E + 47), .ref (eK E 5)] h I7 L (qi h L fun r11 I10 => (((r11 = 0) → (CT E mX8_isWord (d + 4) 0 0 [.ref (eB E + 47), .ref (eK E 6)] h I10 L (qi h L fun r14 I13 => (((r14 = 0) → (CT E mX8_isWord (d + 4) 0 0 [.ref (eB E + 47), .ref (eK E 7)] h I13 L (qi h L fun r17 I16 => (((r17 = 0) → (CT E mX8_isWord (d + 4) 0 0 [.ref (eB E + 47), .ref (eK E 8)] h I16 L (qi h L fun r20 I19 => (((r20 = 0) → (CT E mX8_isWord (d + 4) 0 0 [.ref (eB E + 47), .ref (eK E 9)] h I19 L (qi h L fun r23 I22 => (((r23 = 0) → (CT E mX8_isWord (d + 4) 0 0 [.ref (eB E + 47), .ref (eK E 10)] h I22 L (qi h L fun r26 I25 => (((r26 = 0) → (CT E mX8_isWord (d + 4) 0 0 [.ref (eB E + 47), .ref (eK E 11)] h I25 L (qi h L fun r29 I28 => (((r29 = 0) → (CT E mX8_isWord (d + 4) 0 0 [.ref (eB E + 47), .ref (eK E 12)] h I28 L (qi h L fun r32 I31 => (((r32 = 0) → Q (some (.int (-1))) h I31 L) ∧ (¬ (r32 = 0) → Q (some (.int 10)) h I31 L))))) ∧ (¬ (r29 = 0) → Q (some (.int 9)) h I28 L))))) ∧ (¬ (r26 = 0) → Q (some (.int 8)) h I25 L))))) ∧ (¬ (r23 = 0) → Q (some (.int 7)) h I22 L))))) ∧ (¬ (r20 = 0) → Q (some (.int 6)) h I19 L))))) ∧ (¬ (r17 = 0) → Q (some (.int 5)) h I16 L))))) ∧ (¬ (r14 = 0) → Q (some (.int 4)) h I13 L))))) ∧ (¬ (r11 = 0) → Q (some (.int 3)) h I10 L))))) ∧ (¬ (r8 = 0) → Q (some (.int 2)) h I7 L))))) ∧ (¬ (r5 = 0) → Q (some (.int 1)) h I4 L))))) ∧ (¬ (r2 = 0) → Q (some (.int 0)) h I1 L))))) :
    CT E mX8_subjectAtHand (d + 5) 0 0 [.ref (eB E + 47)] h I L Q := by
  refine CT.of (by decide) [some (.ref (eB E + 47))] rfl (Nat.le_of_ble_eq_true rfl) ?_
  refine J.aload_n dX8_subjectAtHand_0 rfl rfl ?_
  refine J.ldcS 2 (by decide) rfl dX8_subjectAtHand_1 ?_
  refine J.callV (M' := mX8_isWord) (index := 98) (bc := 0) (bs := 0) (bc' := 0) (bs' := 0) (st := []) [.ref (eK E 2)] ml_X8_98 cv_X8_isWord dX8_subjectAtHand_3 (lt47 hs) (kk47 hs) (by decide) rfl rfl rfl rfl (Nat.le_of_ble_eq_true rfl) (kqi hW (fun r2 I1 hW => ?_))
  refine J.if_eq 11 dX8_subjectAtHand_6 (by decide) (fun hc3 => ?_) (fun hc3 => ?_)
  · have hW := hW.1 hc3
    refine J.aload_n dX8_subjectAtHand_11 rfl rfl ?_
    refine J.ldcS 3 (by decide) rfl dX8_subjectAtHand_12 ?_
    refine J.callV (M' := mX8_isWord) (index := 98) (bc := 0) (bs := 0) (bc' := 0) (bs' := 0) (st := []) [.ref (eK E 3)] ml_X8_98 cv_X8_isWord dX8_subjectAtHand_14 (lt47 hs) (kk47 hs) (by decide) rfl rfl rfl rfl (Nat.le_of_ble_eq_true rfl) (kqi hW (fun r5 I4 hW => ?_))
    refine J.if_eq 22 dX8_subjectAtHand_17 (by decide) (fun hc6 => ?_) (fun hc6 => ?_)
    · have hW := hW.1 hc6
      refine J.aload_n dX8_subjectAtHand_22 rfl rfl ?_
      refine J.ldcS 4 (by decide) rfl dX8_subjectAtHand_23 ?_
      refine J.callV (M' := mX8_isWord) (index := 98) (bc := 0) (bs := 0) (bc' := 0) (bs' := 0) (st := []) [.ref (eK E 4)] ml_X8_98 cv_X8_isWord dX8_subjectAtHand_25 (lt47 hs) (kk47 hs) (by decide) rfl rfl rfl rfl (Nat.le_of_ble_eq_true rfl) (kqi hW (fun r8 I7 hW => ?_))
      refine J.if_eq 33 dX8_subjectAtHand_28 (by decide) (fun hc9 => ?_) (fun hc9 => ?_)
      · have hW := hW.1 hc9
        refine J.aload_n dX8_subjectAtHand_33 rfl rfl ?_
        refine J.ldcS 5 (by decide) rfl dX8_subjectAtHand_34 ?_
        refine J.callV (M' := mX8_isWord) (index := 98) (bc := 0) (bs := 0) (bc' := 0) (bs' := 0) (st := []) [.ref (eK E 5)] ml_X8_98 cv_X8_isWord dX8_subjectAtHand_36 (lt47 hs) (kk47 hs) (by decide) rfl rfl rfl rfl (Nat.le_of_ble_eq_true rfl) (kqi hW (fun r11 I10 hW => ?_))
        refine J.if_eq 44 dX8_subjectAtHand_39 (by decide) (fun hc12 => ?_) (fun hc12 => ?_)
        · have hW := hW.1 hc12
          refine J.aload_n dX8_subjectAtHand_44 rfl rfl ?_
          refine J.ldcS 6 (by decide) rfl dX8_subjectAtHand_45 ?_
          refine J.callV (M' := mX8_isWord) (index := 98) (bc := 0) (bs := 0) (bc' := 0) (bs' := 0) (st := []) [.ref (eK E 6)] ml_X8_98 cv_X8_isWord dX8_subjectAtHand_47 (lt47 hs) (kk47 hs) (by decide) rfl rfl rfl rfl (Nat.le_of_ble_eq_true rfl) (kqi hW (fun r14 I13 hW => ?_))
          refine J.if_eq 55 dX8_subjectAtHand_50 (by decide) (fun hc15 => ?_) (fun hc15 => ?_)
          · have hW := hW.1 hc15
            refine J.aload_n dX8_subjectAtHand_55 rfl rfl ?_
            refine J.ldcS 7 (by decide) rfl dX8_subjectAtHand_56 ?_
            refine J.callV (M' := mX8_isWord) (index := 98) (bc := 0) (bs := 0) (bc' := 0) (bs' := 0) (st := []) [.ref (eK E 7)] ml_X8_98 cv_X8_isWord dX8_subjectAtHand_58 (lt47 hs) (kk47 hs) (by decide) rfl rfl rfl rfl (Nat.le_of_ble_eq_true rfl) (kqi hW (fun r17 I16 hW => ?_))
            refine J.if_eq 66 dX8_subjectAtHand_61 (by decide) (fun hc18 => ?_) (fun hc18 => ?_)
            · have hW := hW.1 hc18
              refine J.aload_n dX8_subjectAtHand_66 rfl rfl ?_
              refine J.ldcS 8 (by decide) rfl dX8_subjectAtHand_67 ?_
              refine J.callV (M' := mX8_isWord) (index := 98) (bc := 0) (bs := 0) (bc' := 0) (bs' := 0) (st := []) [.ref (eK E 8)] ml_X8_98 cv_X8_isWord dX8_subjectAtHand_69 (lt47 hs) (kk47 hs) (by decide) rfl rfl rfl rfl (Nat.le_of_ble_eq_true rfl) (kqi hW (fun r20 I19 hW => ?_))
              refine J.if_eq 78 dX8_subjectAtHand_72 (by decide) (fun hc21 => ?_) (fun hc21 => ?_)
              · have hW := hW.1 hc21
                refine J.aload_n dX8_subjectAtHand_78 rfl rfl ?_
                refine J.ldcS 9 (by decide) rfl dX8_subjectAtHand_79 ?_
                refine J.callV (M' := mX8_isWord) (index := 98) (bc := 0) (bs := 0) (bc' := 0) (bs' := 0) (st := []) [.ref (eK E 9)] ml_X8_98 cv_X8_isWord dX8_subjectAtHand_81 (lt47 hs) (kk47 hs) (by decide) rfl rfl rfl rfl (Nat.le_of_ble_eq_true rfl) (kqi hW (fun r23 I22 hW => ?_))
                refine J.if_eq 90 dX8_subjectAtHand_84 (by decide) (fun hc24 => ?_) (fun hc24 => ?_)
                · have hW := hW.1 hc24
                  refine J.aload_n dX8_subjectAtHand_90 rfl rfl ?_
                  refine J.ldcS 10 (by decide) rfl dX8_subjectAtHand_91 ?_
                  refine J.callV (M' := mX8_isWord) (index := 98) (bc := 0) (bs := 0) (bc' := 0) (bs' := 0) (st := []) [.ref (eK E 10)] ml_X8_98 cv_X8_isWord dX8_subjectAtHand_93 (lt47 hs) (kk47 hs) (by decide) rfl rfl rfl rfl (Nat.le_of_ble_eq_true rfl) (kqi hW (fun r26 I25 hW => ?_))
                  refine J.if_eq 102 dX8_subjectAtHand_96 (by decide) (fun hc27 => ?_) (fun hc27 => ?_)
                  · have hW := hW.1 hc27
                    refine J.aload_n dX8_subjectAtHand_102 rfl rfl ?_
                    refine J.ldcS 11 (by decide) rfl dX8_subjectAtHand_103 ?_
                    refine J.callV (M' := mX8_isWord) (index := 98) (bc := 0) (bs := 0) (bc' := 0) (bs' := 0) (st := []) [.ref (eK E 11)] ml_X8_98 cv_X8_isWord dX8_subjectAtHand_105 (lt47 hs) (kk47 hs) (by decide) rfl rfl rfl rfl (Nat.le_of_ble_eq_true rfl) (kqi hW (fun r29 I28 hW => ?_))
                    refine J.if_eq 114 dX8_subjectAtHand_108 (by decide) (fun hc30 => ?_) (fun hc30 => ?_)
                    · have hW := hW.1 hc30
                      refine J.aload_n dX8_subjectAtHand_114 rfl rfl ?_
                      refine J.ldcS 12 (by decide) rfl dX8_subjectAtHand_115 ?_
                      refine J.callV (M' := mX8_isWord) (index := 98) (bc := 0) (bs := 0) (bc' := 0) (bs' := 0) (st := []) [.ref (eK E 12)] ml_X8_98 cv_X8_isWord dX8_subjectAtHand_117 (lt47 hs) (kk47 hs) (by decide) rfl rfl rfl rfl (Nat.le_of_ble_eq_true rfl) (kqi hW (fun r32 I31 hW => ?_))
                      refine J.if_eq 126 dX8_subjectAtHand_120 (by decide) (fun hc33 => ?_) (fun hc33 => ?_)
                      · have hW := hW.1 hc33
                        refine J.iconst (v := (-1)) dX8_subjectAtHand_126 (by decide) ?_
                        exact J.reti dX8_subjectAtHand_127 rfl rfl hW
                      · have hW := hW.2 hc33
                        refine J.bipush (v := 10) dX8_subjectAtHand_123 (by decide) ?_
                        exact J.reti dX8_subjectAtHand_125 rfl rfl hW
                    · have hW := hW.2 hc30
                      refine J.bipush (v := 9) dX8_subjectAtHand_111 (by decide) ?_
                      exact J.reti dX8_subjectAtHand_113 rfl rfl hW
                  · have hW := hW.2 hc27
                    refine J.bipush (v := 8) dX8_subjectAtHand_99 (by decide) ?_
                    exact J.reti dX8_subjectAtHand_101 rfl rfl hW
                · have hW := hW.2 hc24
                  refine J.bipush (v := 7) dX8_subjectAtHand_87 (by decide) ?_
                  exact J.reti dX8_subjectAtHand_89 rfl rfl hW
              · have hW := hW.2 hc21
                refine J.bipush (v := 6) dX8_subjectAtHand_75 (by decide) ?_
                exact J.reti dX8_subjectAtHand_77 rfl rfl hW
            · have hW := hW.2 hc18
              refine J.iconst (v := 5) dX8_subjectAtHand_64 (by decide) ?_
              exact J.reti dX8_subjectAtHand_65 rfl rfl hW
          · have hW := hW.2 hc15
            refine J.iconst (v := 4) dX8_subjectAtHand_53 (by decide) ?_
            exact J.reti dX8_subjectAtHand_54 rfl rfl hW
        · have hW := hW.2 hc12
          refine J.iconst (v := 3) dX8_subjectAtHand_42 (by decide) ?_
          exact J.reti dX8_subjectAtHand_43 rfl rfl hW
      · have hW := hW.2 hc9
        refine J.iconst (v := 2) dX8_subjectAtHand_31 (by decide) ?_
        exact J.reti dX8_subjectAtHand_32 rfl rfl hW
    · have hW := hW.2 hc6
      refine J.iconst (v := 1) dX8_subjectAtHand_20 (by decide) ?_
      exact J.reti dX8_subjectAtHand_21 rfl rfl hW
  · have hW := hW.2 hc3
    refine J.iconst (v := 0) dX8_subjectAtHand_9 (by decide) ?_
    exact J.reti dX8_subjectAtHand_10 rfl rfl hW
set_option maxRecDepth 100000 in
set_option maxHeartbeats 4000000 in
theorem w_X8_refuse {E : Envt} {d : Nat} {Q : Pst} {h : mS} {I : mI} {L : mL} (hs : SL h)  
    (hW : Q (some (.int 0)) h (uI (uI I 47 9 1) 47 10 (I 47 2)) L) :
    CT E mX8_refuse d 0 0 [.ref (eB E + 47)] h I L Q := by
  refine CT.of (by decide) [some (.ref (eB E + 47))] rfl (Nat.le_of_ble_eq_true rfl) ?_
  refine J.aload_n dX8_refuse_0 rfl rfl ?_
  refine J.iconst (v := 1) dX8_refuse_1 (by decide) ?_
  refine J.putI fw_X8_38 rfl dX8_refuse_2 (lt47 hs) (kk47 hs) ?_
  refine J.aload_n dX8_refuse_5 rfl rfl ?_
  refine J.aload_n dX8_refuse_6 rfl rfl ?_
  refine J.getI (x := I 47 2) fl_X8_138 rfl dX8_refuse_7 (lt47 hs) (kk47 hs) rfl ?_
  refine J.putI fw_X8_41 rfl dX8_refuse_10 (lt47 hs) (kk47 hs) ?_
  refine J.iconst (v := 0) dX8_refuse_13 (by decide) ?_
  exact J.reti dX8_refuse_14 rfl (bz_nar (Or.inl rfl)) hW
set_option maxRecDepth 100000 in
set_option maxHeartbeats 4000000 in
theorem w_X8_keepTest {E : Envt} {d : Nat} {Q : Pst} {h : mS} {I : mI} {L : mL} (hs : SL h) (x1 : Int32) (x2 : Int32) (x3 : Int32) (x4 : Int32) 
    (hW : ((((I 47 9) = 0) → (vp_in (I 47 7) 64 ∧ (bz x4 ∧ Q none h (uI (uI (uI (uI (uI (uI I 52 ((I 47 7).toNatClampNeg) x1) 53 ((I 47 7).toNatClampNeg) x2) 54 ((I 47 7).toNatClampNeg) x3) 55 ((I 47 7).toNatClampNeg) x4) 47 7 ((I 47 7) + 1)) 47 8 ((I 47 8) + 1)) L))) ∧ (¬ ((I 47 9) = 0) → Q none h I L))) :
    CT E mX8_keepTest d 0 0 [.ref (eB E + 47), .int x1, .int x2, .int x3, .int x4] h I L Q := by
  refine CT.of (by decide) [some (.ref (eB E + 47)), some (.int x1), some (.int x2), some (.int x3), some (.int x4)] rfl (Nat.le_of_ble_eq_true rfl) ?_
  refine J.aload_n dX8_keepTest_0 rfl rfl ?_
  refine J.getI (x := I 47 9) fl_X8_38 rfl dX8_keepTest_1 (lt47 hs) (kk47 hs) rfl ?_
  refine J.if_ne 80 dX8_keepTest_4 (by decide) (fun hc1 => ?_) (fun hc1 => ?_)
  · have hW := hW.2 hc1
    exact J.retv dX8_keepTest_80 rfl hW
  · have hW := hW.1 hc1
    refine J.aload_n dX8_keepTest_7 rfl rfl ?_
    refine J.getR (r := 48) fl_X8_14 rfl dX8_keepTest_8 (lt47 hs) (kk47 hs) (rr47_11 hs) ?_
    refine J.getR (r := 52) fl_X8_72 rfl dX8_keepTest_11 (lt48 hs) (kk48 hs) (rr48_4 hs) ?_
    refine J.aload_n dX8_keepTest_14 rfl rfl ?_
    refine J.getI (x := I 47 7) fl_X8_35 rfl dX8_keepTest_15 (lt47 hs) (kk47 hs) rfl ?_
    refine J.iload_n dX8_keepTest_18 rfl rfl ?_
    obtain ⟨hb2, hW⟩ := hW
    refine J.iast dX8_keepTest_19 (lt52 hs) (kk52 hs) hb2 ?_
    refine J.aload_n dX8_keepTest_20 rfl rfl ?_
    refine J.getR (r := 48) fl_X8_14 rfl dX8_keepTest_21 (lt47 hs) (kk47 hs) (rr47_11 hs) ?_
    refine J.getR (r := 53) fl_X8_75 rfl dX8_keepTest_24 (lt48 hs) (kk48 hs) (rr48_5 hs) ?_
    refine J.aload_n dX8_keepTest_27 rfl rfl ?_
    refine J.getI (x := I 47 7) fl_X8_35 rfl dX8_keepTest_28 (lt47 hs) (kk47 hs) rfl ?_
    refine J.iload_n dX8_keepTest_31 rfl rfl ?_
    refine J.iast dX8_keepTest_32 (lt53 hs) (kk53 hs) hb2 ?_
    refine J.aload_n dX8_keepTest_33 rfl rfl ?_
    refine J.getR (r := 48) fl_X8_14 rfl dX8_keepTest_34 (lt47 hs) (kk47 hs) (rr47_11 hs) ?_
    refine J.getR (r := 54) fl_X8_78 rfl dX8_keepTest_37 (lt48 hs) (kk48 hs) (rr48_6 hs) ?_
    refine J.aload_n dX8_keepTest_40 rfl rfl ?_
    refine J.getI (x := I 47 7) fl_X8_35 rfl dX8_keepTest_41 (lt47 hs) (kk47 hs) rfl ?_
    refine J.iload_n dX8_keepTest_44 rfl rfl ?_
    refine J.iast dX8_keepTest_45 (lt54 hs) (kk54 hs) hb2 ?_
    refine J.aload_n dX8_keepTest_46 rfl rfl ?_
    refine J.getR (r := 48) fl_X8_14 rfl dX8_keepTest_47 (lt47 hs) (kk47 hs) (rr47_11 hs) ?_
    refine J.getR (r := 55) fl_X8_81 rfl dX8_keepTest_50 (lt48 hs) (kk48 hs) (rr48_7 hs) ?_
    refine J.aload_n dX8_keepTest_53 rfl rfl ?_
    refine J.getI (x := I 47 7) fl_X8_35 rfl dX8_keepTest_54 (lt47 hs) (kk47 hs) rfl ?_
    refine J.iload dX8_keepTest_57 rfl ?_
    obtain ⟨hz, hW⟩ := hW
    refine J.zast dX8_keepTest_59 (lt55 hs) (kk55 hs) hb2 hz ?_
    refine J.aload_n dX8_keepTest_60 rfl rfl ?_
    refine J.dup dX8_keepTest_61 rfl ?_
    refine J.getI (x := I 47 7) fl_X8_35 rfl dX8_keepTest_62 (lt47 hs) (kk47 hs) rfl ?_
    refine J.iconst (v := 1) dX8_keepTest_65 (by decide) ?_
    refine J.iadd dX8_keepTest_66 ?_
    refine J.putI fw_X8_35 rfl dX8_keepTest_67 (lt47 hs) (kk47 hs) ?_
    refine J.aload_n dX8_keepTest_70 rfl rfl ?_
    refine J.dup dX8_keepTest_71 rfl ?_
    refine J.getI (x := I 47 8) fl_X8_89 rfl dX8_keepTest_72 (lt47 hs) (kk47 hs) rfl ?_
    refine J.iconst (v := 1) dX8_keepTest_75 (by decide) ?_
    refine J.iadd dX8_keepTest_76 ?_
    refine J.putI fw_X8_89 rfl dX8_keepTest_77 (lt47 hs) (kk47 hs) ?_
    exact J.retv dX8_keepTest_80 rfl hW
set_option maxRecDepth 100000 in
set_option maxHeartbeats 4000000 in
theorem w_X8_isSign {E : Envt} {d : Nat} {Q : Pst} {h : mS} {I : mI} {L : mL} (hs : SL h) (x1 : Int32) 
    (hW : ((((I 47 1) = 3) → vp_in (I 47 2) 500) ∧ Q (some (.int (bI (((I 47 1) = 3) ∧ ((I 37 ((I 47 2).toNatClampNeg)) = x1))))) h I L)) :
    CT E mX8_isSign d 0 0 [.ref (eB E + 47), .int x1] h I L Q := by
  refine CT.of (by decide) [some (.ref (eB E + 47)), some (.int x1)] rfl (Nat.le_of_ble_eq_true rfl) ?_
  refine J.aload_n dX8_isSign_0 rfl rfl ?_
  refine J.getI (x := I 47 1) fl_X8_47 rfl dX8_isSign_1 (lt47 hs) (kk47 hs) rfl ?_
  refine J.iconst (v := 3) dX8_isSign_4 (by decide) ?_
  obtain ⟨hq3, hW⟩ := hW
  have hj : J E mX8_isSign d Q 0 0 29 [some (.ref (eB E + 47)), some (.int x1)] [.int (bI (((I 47 1) = 3) ∧ ((I 37 ((I 47 2).toNatClampNeg)) = x1)))] h I L := by
    exact J.reti dX8_isSign_29 rfl (bz_nar (bI_bz _)) hW
  refine J.ic_ne 28 dX8_isSign_5 (by decide) (fun hc1 => ?_) (fun hc1 => ?_)
  · refine J.iconst (v := 0) dX8_isSign_28 (by decide) ?_
    rw [show bI (((I 47 1) = 3) ∧ ((I 37 ((I 47 2).toNatClampNeg)) = x1)) = 0 from bI_f (by simp only [eq_false hc1, and_true, true_and, and_false, false_and, or_true, true_or, or_false, false_or, not_true_eq_false, not_false_eq_true])] at hj
    exact hj
  · refine J.aload_n dX8_isSign_8 rfl rfl ?_
    refine J.getR (r := 1) fl_X8_20 rfl dX8_isSign_9 (lt47 hs) (kk47 hs) (rr47_0 hs) ?_
    refine J.getR (r := 37) fl_X8_132 rfl dX8_isSign_12 (lt1 hs) (kk1 hs) (rr1_6 hs) ?_
    refine J.aload_n dX8_isSign_15 rfl rfl ?_
    refine J.getI (x := I 47 2) fl_X8_138 rfl dX8_isSign_16 (lt47 hs) (kk47 hs) rfl ?_
    have hb2 := hq3 hc1
    refine J.bald (x := I 37 ((I 47 2).toNatClampNeg)) dX8_isSign_19 (lt37 hs) (kk37 hs) hb2 rfl ?_
    refine J.iload_n dX8_isSign_20 rfl rfl ?_
    refine J.ic_ne 28 dX8_isSign_21 (by decide) (fun hc4 => ?_) (fun hc4 => ?_)
    · refine J.iconst (v := 0) dX8_isSign_28 (by decide) ?_
      rw [show bI (((I 47 1) = 3) ∧ ((I 37 ((I 47 2).toNatClampNeg)) = x1)) = 0 from bI_f (by simp only [eq_true hc1, eq_false hc4, and_true, true_and, and_false, false_and, or_true, true_or, or_false, false_or, not_true_eq_false, not_false_eq_true])] at hj
      exact hj
    · refine J.iconst (v := 1) dX8_isSign_24 (by decide) ?_
      refine J.goto 29 dX8_isSign_25 (by decide) ?_
      rw [show bI (((I 47 1) = 3) ∧ ((I 37 ((I 47 2).toNatClampNeg)) = x1)) = 1 from bI_t (by simp only [eq_true hc1, eq_true hc4, and_true, true_and, and_false, false_and, or_true, true_or, or_false, false_or, not_true_eq_false, not_false_eq_true])] at hj
      exact hj
set_option maxRecDepth 100000 in
set_option maxHeartbeats 4000000 in
theorem w_X8_readTest {E : Envt} {d : Nat} {Q : Pst} {h : mS} {I : mI} {L : mL} (hs : SL h)  
    (hW : ((((I 47 8) < 4) → J E mX8_readTest (d + 6) Q 0 0 13 [some (.ref (eB E + 47)), none, none, none] [] h I L) ∧ (¬ ((I 47 8) < 4) → (CT E mX8_note (d + 5) 0 0 [.ref (eB E + 47), .int 3] h I L (qv h L fun I2 => J E mX8_readTest (d + 6) Q 0 0 13 [some (.ref (eB E + 47)), none, none, none] [] h I2 L))))) :
    CT E mX8_readTest (d + 6) 0 0 [.ref (eB E + 47)] h I L Q := by
  refine CT.of (by decide) [some (.ref (eB E + 47)), none, none, none] rfl (Nat.le_of_ble_eq_true rfl) ?_
  refine J.aload_n dX8_readTest_0 rfl rfl ?_
  refine J.getI (x := I 47 8) fl_X8_89 rfl dX8_readTest_1 (lt47 hs) (kk47 hs) rfl ?_
  refine J.iconst (v := 4) dX8_readTest_4 (by decide) ?_
  refine J.ic_lt 13 dX8_readTest_5 (by decide) (fun hc1 => ?_) (fun hc1 => ?_)
  · have hW := hW.1 hc1
    exact hW
  · have hW := hW.2 hc1
    refine J.aload_n dX8_readTest_8 rfl rfl ?_
    refine J.iconst (v := 3) dX8_readTest_9 (by decide) ?_
    refine J.callV (M' := mX8_note) (index := 92) (bc := 0) (bs := 0) (bc' := 0) (bs' := 0) (st := []) [.int 3] ml_X8_92 cv_X8_note dX8_readTest_10 (lt47 hs) (kk47 hs) (by decide) rfl rfl rfl rfl (Nat.le_of_ble_eq_true rfl) (kqv hW (fun I2 hW => ?_))
    exact hW
set_option maxRecDepth 100000 in
set_option maxHeartbeats 4000000 in
theorem w_X8_readTest_13 {E : Envt} {d : Nat} {Q : Pst} {h : mS} {I : mI} {L : mL} (hs : SL h)    
    (hW : (CT E mX8_isWord (d + 5) 0 0 [.ref (eB E + 47), .ref (eK E 1)] h I L (qi h L fun r2 I1 => (((r2 = 0) → J E mX8_readTest (d + 6) Q 0 0 28 [some (.ref (eB E + 47)), some (.int r2), none, none] [] h I1 L) ∧ (¬ (r2 = 0) → (CT E mX8_advance (d + 5) 0 0 [.ref (eB E + 47)] h I1 L (qv h L fun I4 => J E mX8_readTest (d + 6) Q 0 0 28 [some (.ref (eB E + 47)), some (.int r2), none, none] [] h I4 L))))))) :
    J E mX8_readTest (d + 6) Q 0 0 13 [some (.ref (eB E + 47)), none, none, none] [] h I L := by
  refine J.aload_n dX8_readTest_13 rfl rfl ?_
  refine J.ldcS 1 (by decide) rfl dX8_readTest_14 ?_
  refine J.callV (M' := mX8_isWord) (index := 98) (bc := 0) (bs := 0) (bc' := 0) (bs' := 0) (st := []) [.ref (eK E 1)] ml_X8_98 cv_X8_isWord dX8_readTest_16 (lt47 hs) (kk47 hs) (by decide) rfl rfl rfl rfl (Nat.le_of_ble_eq_true rfl) (kqi hW (fun r2 I1 hW => ?_))
  refine J.istore_n (vs' := [some (.ref (eB E + 47)), some (.int r2), none, none]) dX8_readTest_19 rfl (by decide) rfl ?_
  refine J.iload_n dX8_readTest_20 rfl rfl ?_
  refine J.if_eq 28 dX8_readTest_21 (by decide) (fun hc3 => ?_) (fun hc3 => ?_)
  · have hW := hW.1 hc3
    exact hW
  · have hW := hW.2 hc3
    refine J.aload_n dX8_readTest_24 rfl rfl ?_
    refine J.callV (M' := mX8_advance) (index := 44) (bc := 0) (bs := 0) (bc' := 0) (bs' := 0) (st := []) [] ml_X8_44 cv_X8_advance dX8_readTest_25 (lt47 hs) (kk47 hs) (by decide) rfl rfl rfl rfl (Nat.le_of_ble_eq_true rfl) (kqv hW (fun I4 hW => ?_))
    exact hW
set_option maxRecDepth 100000 in
set_option maxHeartbeats 4000000 in
theorem w_X8_readTest_28 {E : Envt} {d : Nat} {Q : Pst} {h : mS} {I : mI} {L : mL} (hs : SL h)    (x1 : Int32)
    (hW : (CT E mX8_subjectAtHand (d + 5) 0 0 [.ref (eB E + 47)] h I L (qi h L fun r2 I1 => (((r2 = (-1)) → (CT E mX8_refuse (d + 5) 0 0 [.ref (eB E + 47)] h I1 L (qi h L fun r20 I19 => (bz r20 ∧ Q (some (.int r20)) h I19 L)))) ∧ (¬ (r2 = (-1)) → (CT E mX8_advance (d + 5) 0 0 [.ref (eB E + 47)] h I1 L (qv h L fun I4 => (((5 ≤ r2) → ((((I4 47 1) = 3) → vp_in (I4 47 2) 500) ∧ (((((I4 47 1) = 3) ∧ ((I4 37 ((I4 47 2).toNatClampNeg)) = 60)) → J E mX8_readTest (d + 6) Q 0 0 94 [some (.ref (eB E + 47)), some (.int x1), some (.int r2), none] [] h I4 L) ∧ (¬ (((I4 47 1) = 3) ∧ ((I4 37 ((I4 47 2).toNatClampNeg)) = 60)) → (((((I4 47 1) = 3) ∧ ((I4 37 ((I4 47 2).toNatClampNeg)) = 62)) → J E mX8_readTest (d + 6) Q 0 0 94 [some (.ref (eB E + 47)), some (.int x1), some (.int r2), none] [] h I4 L) ∧ (¬ (((I4 47 1) = 3) ∧ ((I4 37 ((I4 47 2).toNatClampNeg)) = 62)) → (((((I4 47 1) = 3) ∧ ((I4 37 ((I4 47 2).toNatClampNeg)) = 61)) → J E mX8_readTest (d + 6) Q 0 0 94 [some (.ref (eB E + 47)), some (.int x1), some (.int r2), none] [] h I4 L) ∧ (¬ (((I4 47 1) = 3) ∧ ((I4 37 ((I4 47 2).toNatClampNeg)) = 61)) → (CT E mX8_refuse (d + 5) 0 0 [.ref (eB E + 47)] h I4 L (qi h L fun r17 I16 => (bz r17 ∧ Q (some (.int r17)) h I16 L))))))))))) ∧ (¬ (5 ≤ r2) → (CT E mX8_keepTest (d + 5) 0 0 [.ref (eB E + 47), .int r2, .int 0, .int 0, .int x1] h I4 L (qv h L fun I18 => Q (some (.int 1)) h I18 L))))))))))) :
    J E mX8_readTest (d + 6) Q 0 0 28 [some (.ref (eB E + 47)), some (.int x1), none, none] [] h I L := by
  refine J.aload_n dX8_readTest_28 rfl rfl ?_
  refine J.callV (M' := mX8_subjectAtHand) (index := 118) (bc := 0) (bs := 0) (bc' := 0) (bs' := 0) (st := []) [] ml_X8_118 cv_X8_subjectAtHand dX8_readTest_29 (lt47 hs) (kk47 hs) (by decide) rfl rfl rfl rfl (Nat.le_of_ble_eq_true rfl) (kqi hW (fun r2 I1 hW => ?_))
  refine J.istore_n (vs' := [some (.ref (eB E + 47)), some (.int x1), some (.int r2), none]) dX8_readTest_32 rfl (by decide) rfl ?_
  refine J.iload_n dX8_readTest_33 rfl rfl ?_
  refine J.iconst (v := (-1)) dX8_readTest_34 (by decide) ?_
  refine J.ic_ne 43 dX8_readTest_35 (by decide) (fun hc3 => ?_) (fun hc3 => ?_)
  · have hW := hW.2 hc3
    refine J.aload_n dX8_readTest_43 rfl rfl ?_
    refine J.callV (M' := mX8_advance) (index := 44) (bc := 0) (bs := 0) (bc' := 0) (bs' := 0) (st := []) [] ml_X8_44 cv_X8_advance dX8_readTest_44 (lt47 hs) (kk47 hs) (by decide) rfl rfl rfl rfl (Nat.le_of_ble_eq_true rfl) (kqv hW (fun I4 hW => ?_))
    refine J.iload_n dX8_readTest_47 rfl rfl ?_
    refine J.iconst (v := 5) dX8_readTest_48 (by decide) ?_
    refine J.ic_ge 62 dX8_readTest_49 (by decide) (fun hc5 => ?_) (fun hc5 => ?_)
    · have hW := hW.1 hc5
      refine J.aload_n dX8_readTest_62 rfl rfl ?_
      refine J.bipush (v := 60) dX8_readTest_63 (by decide) ?_
      obtain ⟨hb6, hW⟩ := hW
      refine J.callV (M' := mX8_isSign) (index := 129) (bc := 0) (bs := 0) (bc' := 0) (bs' := 0) (st := []) [.int 60] ml_X8_129 cv_X8_isSign dX8_readTest_65 (lt47 hs) (kk47 hs) (by decide) rfl rfl rfl rfl (Nat.le_of_ble_eq_true rfl) (kqi (w_X8_isSign (d := d + 5) (Q := qi h L (fun v I' => I' = I4 ∧ v = bI (((I4 47 1) = 3) ∧ ((I4 37 ((I4 47 2).toNatClampNeg)) = 60)))) hs 60 ⟨hb6, rfl, rfl, _, rfl, rfl, rfl⟩) (fun v7 I8 hv => ?_))
      rw [hv.1, hv.2]
      refine J.if_ne 94 dX8_readTest_68 (by decide) (fun hc9 => ?_) (fun hc9 => ?_)
      · have hc9 := bI_n0.mp hc9
        have hW := hW.1 hc9
        exact hW
      · have hc9 := bI_0.mp hc9
        have hW := hW.2 hc9
        refine J.aload_n dX8_readTest_71 rfl rfl ?_
        refine J.bipush (v := 62) dX8_readTest_72 (by decide) ?_
        refine J.callV (M' := mX8_isSign) (index := 129) (bc := 0) (bs := 0) (bc' := 0) (bs' := 0) (st := []) [.int 62] ml_X8_129 cv_X8_isSign dX8_readTest_74 (lt47 hs) (kk47 hs) (by decide) rfl rfl rfl rfl (Nat.le_of_ble_eq_true rfl) (kqi (w_X8_isSign (d := d + 5) (Q := qi h L (fun v I' => I' = I4 ∧ v = bI (((I4 47 1) = 3) ∧ ((I4 37 ((I4 47 2).toNatClampNeg)) = 62)))) hs 62 ⟨hb6, rfl, rfl, _, rfl, rfl, rfl⟩) (fun v10 I11 hv => ?_))
        rw [hv.1, hv.2]
        refine J.if_ne 94 dX8_readTest_77 (by decide) (fun hc12 => ?_) (fun hc12 => ?_)
        · have hc12 := bI_n0.mp hc12
          have hW := hW.1 hc12
          exact hW
        · have hc12 := bI_0.mp hc12
          have hW := hW.2 hc12
          refine J.aload_n dX8_readTest_80 rfl rfl ?_
          refine J.bipush (v := 61) dX8_readTest_81 (by decide) ?_
          refine J.callV (M' := mX8_isSign) (index := 129) (bc := 0) (bs := 0) (bc' := 0) (bs' := 0) (st := []) [.int 61] ml_X8_129 cv_X8_isSign dX8_readTest_83 (lt47 hs) (kk47 hs) (by decide) rfl rfl rfl rfl (Nat.le_of_ble_eq_true rfl) (kqi (w_X8_isSign (d := d + 5) (Q := qi h L (fun v I' => I' = I4 ∧ v = bI (((I4 47 1) = 3) ∧ ((I4 37 ((I4 47 2).toNatClampNeg)) = 61)))) hs 61 ⟨hb6, rfl, rfl, _, rfl, rfl, rfl⟩) (fun v13 I14 hv => ?_))
          rw [hv.1, hv.2]
          refine J.if_ne 94 dX8_readTest_86 (by decide) (fun hc15 => ?_) (fun hc15 => ?_)
          · have hc15 := bI_n0.mp hc15
            have hW := hW.1 hc15
            exact hW
          · have hc15 := bI_0.mp hc15
            have hW := hW.2 hc15
            refine J.aload_n dX8_readTest_89 rfl rfl ?_
            refine J.callV (M' := mX8_refuse) (index := 122) (bc := 0) (bs := 0) (bc' := 0) (bs' := 0) (st := []) [] ml_X8_122 cv_X8_refuse dX8_readTest_90 (lt47 hs) (kk47 hs) (by decide) rfl rfl rfl rfl (Nat.le_of_ble_eq_true rfl) (kqi hW (fun r17 I16 hW => ?_))
            obtain ⟨hz, hW⟩ := hW
            exact J.reti dX8_readTest_93 rfl (bz_nar hz) hW
    · have hW := hW.2 hc5
      refine J.aload_n dX8_readTest_52 rfl rfl ?_
      refine J.iload_n dX8_readTest_53 rfl rfl ?_
      refine J.iconst (v := 0) dX8_readTest_54 (by decide) ?_
      refine J.iconst (v := 0) dX8_readTest_55 (by decide) ?_
      refine J.iload_n dX8_readTest_56 rfl rfl ?_
      refine J.callV (M' := mX8_keepTest) (index := 125) (bc := 0) (bs := 0) (bc' := 0) (bs' := 0) (st := []) [.int r2, .int 0, .int 0, .int x1] ml_X8_125 cv_X8_keepTest dX8_readTest_57 (lt47 hs) (kk47 hs) (by decide) rfl rfl rfl rfl (Nat.le_of_ble_eq_true rfl) (kqv hW (fun I18 hW => ?_))
      refine J.iconst (v := 1) dX8_readTest_60 (by decide) ?_
      exact J.reti dX8_readTest_61 rfl (bz_nar (Or.inr rfl)) hW
  · have hW := hW.1 hc3
    refine J.aload_n dX8_readTest_38 rfl rfl ?_
    refine J.callV (M' := mX8_refuse) (index := 122) (bc := 0) (bs := 0) (bc' := 0) (bs' := 0) (st := []) [] ml_X8_122 cv_X8_refuse dX8_readTest_39 (lt47 hs) (kk47 hs) (by decide) rfl rfl rfl rfl (Nat.le_of_ble_eq_true rfl) (kqi hW (fun r20 I19 hW => ?_))
    obtain ⟨hz, hW⟩ := hW
    exact J.reti dX8_readTest_42 rfl (bz_nar hz) hW
set_option maxRecDepth 100000 in
set_option maxHeartbeats 4000000 in
theorem w_X8_readTest_94 {E : Envt} {d : Nat} {Q : Pst} {h : mS} {I : mI} {L : mL} (hs : SL h)    (x1 : Int32) (x2 : Int32)
    (hW : (vp_in (I 47 2) 500 ∧ (∀ y2 : Int32, y2 = I 37 ((I 47 2).toNatClampNeg) → (CT E mX8_advance (d + 5) 0 0 [.ref (eB E + 47)] h I L (qv h L fun I3 => ((((I3 47 1) = 2) → (CT E mX8_keepTest (d + 5) 0 0 [.ref (eB E + 47), .int x2, .int y2, .int (I3 47 4), .int x1] h I3 L (qv h L fun I5 => (CT E mX8_advance (d + 5) 0 0 [.ref (eB E + 47)] h I5 L (qv h L fun I6 => Q (some (.int 1)) h I6 L))))) ∧ (¬ ((I3 47 1) = 2) → (CT E mX8_refuse (d + 5) 0 0 [.ref (eB E + 47)] h I3 L (qi h L fun r8 I7 => (bz r8 ∧ Q (some (.int r8)) h I7 L)))))))))) :
    J E mX8_readTest (d + 6) Q 0 0 94 [some (.ref (eB E + 47)), some (.int x1), some (.int x2), none] [] h I L := by
  refine J.aload_n dX8_readTest_94 rfl rfl ?_
  refine J.getR (r := 1) fl_X8_20 rfl dX8_readTest_95 (lt47 hs) (kk47 hs) (rr47_0 hs) ?_
  refine J.getR (r := 37) fl_X8_132 rfl dX8_readTest_98 (lt1 hs) (kk1 hs) (rr1_6 hs) ?_
  refine J.aload_n dX8_readTest_101 rfl rfl ?_
  refine J.getI (x := I 47 2) fl_X8_138 rfl dX8_readTest_102 (lt47 hs) (kk47 hs) rfl ?_
  obtain ⟨hb1, hW⟩ := hW
  refine J.bald (x := I 37 ((I 47 2).toNatClampNeg)) dX8_readTest_105 (lt37 hs) (kk37 hs) hb1 rfl ?_
  refine J.topi (fun y2 hyy2 => ?_)
  have hW := hW y2 hyy2
  refine J.istore_n (vs' := [some (.ref (eB E + 47)), some (.int x1), some (.int x2), some (.int y2)]) dX8_readTest_106 rfl (by decide) rfl ?_
  refine J.aload_n dX8_readTest_107 rfl rfl ?_
  refine J.callV (M' := mX8_advance) (index := 44) (bc := 0) (bs := 0) (bc' := 0) (bs' := 0) (st := []) [] ml_X8_44 cv_X8_advance dX8_readTest_108 (lt47 hs) (kk47 hs) (by decide) rfl rfl rfl rfl (Nat.le_of_ble_eq_true rfl) (kqv hW (fun I3 hW => ?_))
  refine J.aload_n dX8_readTest_111 rfl rfl ?_
  refine J.getI (x := I3 47 1) fl_X8_47 rfl dX8_readTest_112 (lt47 hs) (kk47 hs) rfl ?_
  refine J.iconst (v := 2) dX8_readTest_115 (by decide) ?_
  refine J.ic_eq 124 dX8_readTest_116 (by decide) (fun hc4 => ?_) (fun hc4 => ?_)
  · have hW := hW.1 hc4
    refine J.aload_n dX8_readTest_124 rfl rfl ?_
    refine J.iload_n dX8_readTest_125 rfl rfl ?_
    refine J.iload_n dX8_readTest_126 rfl rfl ?_
    refine J.aload_n dX8_readTest_127 rfl rfl ?_
    refine J.getI (x := I3 47 4) fl_X8_141 rfl dX8_readTest_128 (lt47 hs) (kk47 hs) rfl ?_
    refine J.iload_n dX8_readTest_131 rfl rfl ?_
    refine J.callV (M' := mX8_keepTest) (index := 125) (bc := 0) (bs := 0) (bc' := 0) (bs' := 0) (st := []) [.int x2, .int y2, .int (I3 47 4), .int x1] ml_X8_125 cv_X8_keepTest dX8_readTest_132 (lt47 hs) (kk47 hs) (by decide) rfl rfl rfl rfl (Nat.le_of_ble_eq_true rfl) (kqv hW (fun I5 hW => ?_))
    refine J.aload_n dX8_readTest_135 rfl rfl ?_
    refine J.callV (M' := mX8_advance) (index := 44) (bc := 0) (bs := 0) (bc' := 0) (bs' := 0) (st := []) [] ml_X8_44 cv_X8_advance dX8_readTest_136 (lt47 hs) (kk47 hs) (by decide) rfl rfl rfl rfl (Nat.le_of_ble_eq_true rfl) (kqv hW (fun I6 hW => ?_))
    refine J.iconst (v := 1) dX8_readTest_139 (by decide) ?_
    exact J.reti dX8_readTest_140 rfl (bz_nar (Or.inr rfl)) hW
  · have hW := hW.2 hc4
    refine J.aload_n dX8_readTest_119 rfl rfl ?_
    refine J.callV (M' := mX8_refuse) (index := 122) (bc := 0) (bs := 0) (bc' := 0) (bs' := 0) (st := []) [] ml_X8_122 cv_X8_refuse dX8_readTest_120 (lt47 hs) (kk47 hs) (by decide) rfl rfl rfl rfl (Nat.le_of_ble_eq_true rfl) (kqi hW (fun r8 I7 hW => ?_))
    obtain ⟨hz, hW⟩ := hW
    exact J.reti dX8_readTest_123 rfl (bz_nar hz) hW
set_option maxRecDepth 100000 in
set_option maxHeartbeats 4000000 in
theorem w_X8_takeSign {E : Envt} {d : Nat} {Q : Pst} {h : mS} {I : mI} {L : mL} (hs : SL h) (x1 : Int32) 
    (hW : ((((I 47 1) = 3) → vp_in (I 47 2) 500) ∧ (((((I 47 1) = 3) ∧ ((I 37 ((I 47 2).toNatClampNeg)) = x1)) → (CT E mX8_advance (d + 1) 0 0 [.ref (eB E + 47)] h I L (qv h L fun I5 => Q (some (.int 1)) h I5 L))) ∧ (¬ (((I 47 1) = 3) ∧ ((I 37 ((I 47 2).toNatClampNeg)) = x1)) → (CT E mX8_refuse (d + 1) 0 0 [.ref (eB E + 47)] h I L (qi h L fun r7 I6 => (bz r7 ∧ Q (some (.int r7)) h I6 L))))))) :
    CT E mX8_takeSign (d + 2) 0 0 [.ref (eB E + 47), .int x1] h I L Q := by
  refine CT.of (by decide) [some (.ref (eB E + 47)), some (.int x1)] rfl (Nat.le_of_ble_eq_true rfl) ?_
  refine J.aload_n dX8_takeSign_0 rfl rfl ?_
  refine J.iload_n dX8_takeSign_1 rfl rfl ?_
  obtain ⟨hb1, hW⟩ := hW
  refine J.callV (M' := mX8_isSign) (index := 129) (bc := 0) (bs := 0) (bc' := 0) (bs' := 0) (st := []) [.int x1] ml_X8_129 cv_X8_isSign dX8_takeSign_2 (lt47 hs) (kk47 hs) (by decide) rfl rfl rfl rfl (Nat.le_of_ble_eq_true rfl) (kqi (w_X8_isSign (d := d + 1) (Q := qi h L (fun v I' => I' = I ∧ v = bI (((I 47 1) = 3) ∧ ((I 37 ((I 47 2).toNatClampNeg)) = x1)))) hs x1 ⟨hb1, rfl, rfl, _, rfl, rfl, rfl⟩) (fun v2 I3 hv => ?_))
  rw [hv.1, hv.2]
  refine J.if_ne 13 dX8_takeSign_5 (by decide) (fun hc4 => ?_) (fun hc4 => ?_)
  · have hc4 := bI_n0.mp hc4
    have hW := hW.1 hc4
    refine J.aload_n dX8_takeSign_13 rfl rfl ?_
    refine J.callV (M' := mX8_advance) (index := 44) (bc := 0) (bs := 0) (bc' := 0) (bs' := 0) (st := []) [] ml_X8_44 cv_X8_advance dX8_takeSign_14 (lt47 hs) (kk47 hs) (by decide) rfl rfl rfl rfl (Nat.le_of_ble_eq_true rfl) (kqv hW (fun I5 hW => ?_))
    refine J.iconst (v := 1) dX8_takeSign_17 (by decide) ?_
    exact J.reti dX8_takeSign_18 rfl (bz_nar (Or.inr rfl)) hW
  · have hc4 := bI_0.mp hc4
    have hW := hW.2 hc4
    refine J.aload_n dX8_takeSign_8 rfl rfl ?_
    refine J.callV (M' := mX8_refuse) (index := 122) (bc := 0) (bs := 0) (bc' := 0) (bs' := 0) (st := []) [] ml_X8_122 cv_X8_refuse dX8_takeSign_9 (lt47 hs) (kk47 hs) (by decide) rfl rfl rfl rfl (Nat.le_of_ble_eq_true rfl) (kqi hW (fun r7 I6 hW => ?_))
    obtain ⟨hz, hW⟩ := hW
    exact J.reti dX8_takeSign_12 rfl (bz_nar hz) hW
set_option maxRecDepth 100000 in
set_option maxHeartbeats 4000000 in
theorem w_X8_readTests {E : Envt} {d : Nat} {Q : Pst} {h : mS} {I : mI} {L : mL} (hs : SL h)  
    (hW : J E mX8_readTests (d + 7) Q 0 0 4 [some (.ref (eB E + 47)), some (.int 1), some (.int 0)] [] h I L) :
    CT E mX8_readTests (d + 7) 0 0 [.ref (eB E + 47)] h I L Q := by
  refine CT.of (by decide) [some (.ref (eB E + 47)), none, none] rfl (Nat.le_of_ble_eq_true rfl) ?_
  refine J.iconst (v := 1) dX8_readTests_0 (by decide) ?_
  refine J.istore_n (vs' := [some (.ref (eB E + 47)), some (.int 1), none]) dX8_readTests_1 rfl (by decide) rfl ?_
  refine J.iconst (v := 0) dX8_readTests_2 (by decide) ?_
  refine J.istore_n (vs' := [some (.ref (eB E + 47)), some (.int 1), some (.int 0)]) dX8_readTests_3 rfl (by decide) rfl ?_
  exact hW
set_option maxRecDepth 100000 in
set_option maxHeartbeats 4000000 in
theorem w_X8_readTests_4 {E : Envt} {d : Nat} {Q : Pst} {h : mS} {I : mI} {L : mL} (hs : SL h)    (x1 : Int32) (x2 : Int32)
    (hW : (((500 < x2) → (CT E mX8_takeSign (d + 6) 0 0 [.ref (eB E + 47), .int 58] h I L (qi h L fun r3 I2 => (bz r3 ∧ Q (some (.int r3)) h I2 L)))) ∧ (¬ (500 < x2) → (((x1 = 0) → (CT E mX8_takeSign (d + 6) 0 0 [.ref (eB E + 47), .int 58] h I L (qi h L fun r6 I5 => (bz r6 ∧ Q (some (.int r6)) h I5 L)))) ∧ (¬ (x1 = 0) → (CT E mX8_advance (d + 6) 0 0 [.ref (eB E + 47)] h I L (qv h L fun I7 => (CT E mX8_readTest (d + 6) 0 0 [.ref (eB E + 47)] h I7 L (qi h L fun r9 I8 => (((r9 = 0) → Q (some (.int 0)) h I8 L) ∧ (¬ (r9 = 0) → (CT E mX8_isWord (d + 6) 0 0 [.ref (eB E + 47), .ref (eK E 13)] h I8 L (qi h L fun r12 I11 => J E mX8_readTests (d + 7) Q 0 0 4 [some (.ref (eB E + 47)), some (.int r12), some (.int (x2 + 1))] [] h I11 L))))))))))))) :
    J E mX8_readTests (d + 7) Q 0 0 4 [some (.ref (eB E + 47)), some (.int x1), some (.int x2)] [] h I L := by
  refine J.iload_n dX8_readTests_4 rfl rfl ?_
  refine J.sipush (v := 500) dX8_readTests_5 (by decide) ?_
  refine J.ic_gt 41 dX8_readTests_8 (by decide) (fun hc1 => ?_) (fun hc1 => ?_)
  · have hW := hW.1 hc1
    refine J.aload_n dX8_readTests_41 rfl rfl ?_
    refine J.bipush (v := 58) dX8_readTests_42 (by decide) ?_
    refine J.callV (M' := mX8_takeSign) (index := 108) (bc := 0) (bs := 0) (bc' := 0) (bs' := 0) (st := []) [.int 58] ml_X8_108 cv_X8_takeSign dX8_readTests_44 (lt47 hs) (kk47 hs) (by decide) rfl rfl rfl rfl (Nat.le_of_ble_eq_true rfl) (kqi hW (fun r3 I2 hW => ?_))
    obtain ⟨hz, hW⟩ := hW
    exact J.reti dX8_readTests_47 rfl (bz_nar hz) hW
  · have hW := hW.2 hc1
    refine J.iload_n dX8_readTests_11 rfl rfl ?_
    refine J.if_eq 41 dX8_readTests_12 (by decide) (fun hc4 => ?_) (fun hc4 => ?_)
    · have hW := hW.1 hc4
      refine J.aload_n dX8_readTests_41 rfl rfl ?_
      refine J.bipush (v := 58) dX8_readTests_42 (by decide) ?_
      refine J.callV (M' := mX8_takeSign) (index := 108) (bc := 0) (bs := 0) (bc' := 0) (bs' := 0) (st := []) [.int 58] ml_X8_108 cv_X8_takeSign dX8_readTests_44 (lt47 hs) (kk47 hs) (by decide) rfl rfl rfl rfl (Nat.le_of_ble_eq_true rfl) (kqi hW (fun r6 I5 hW => ?_))
      obtain ⟨hz, hW⟩ := hW
      exact J.reti dX8_readTests_47 rfl (bz_nar hz) hW
    · have hW := hW.2 hc4
      refine J.aload_n dX8_readTests_15 rfl rfl ?_
      refine J.callV (M' := mX8_advance) (index := 44) (bc := 0) (bs := 0) (bc' := 0) (bs' := 0) (st := []) [] ml_X8_44 cv_X8_advance dX8_readTests_16 (lt47 hs) (kk47 hs) (by decide) rfl rfl rfl rfl (Nat.le_of_ble_eq_true rfl) (kqv hW (fun I7 hW => ?_))
      refine J.aload_n dX8_readTests_19 rfl rfl ?_
      refine J.callV (M' := mX8_readTest) (index := 112) (bc := 0) (bs := 0) (bc' := 0) (bs' := 0) (st := []) [] ml_X8_112 cv_X8_readTest dX8_readTests_20 (lt47 hs) (kk47 hs) (by decide) rfl rfl rfl rfl (Nat.le_of_ble_eq_true rfl) (kqi hW (fun r9 I8 hW => ?_))
      refine J.if_ne 28 dX8_readTests_23 (by decide) (fun hc10 => ?_) (fun hc10 => ?_)
      · have hW := hW.2 hc10
        refine J.aload_n dX8_readTests_28 rfl rfl ?_
        refine J.ldcS 13 (by decide) rfl dX8_readTests_29 ?_
        refine J.callV (M' := mX8_isWord) (index := 98) (bc := 0) (bs := 0) (bc' := 0) (bs' := 0) (st := []) [.ref (eK E 13)] ml_X8_98 cv_X8_isWord dX8_readTests_31 (lt47 hs) (kk47 hs) (by decide) rfl rfl rfl rfl (Nat.le_of_ble_eq_true rfl) (kqi hW (fun r12 I11 hW => ?_))
        refine J.istore_n (vs' := [some (.ref (eB E + 47)), some (.int r12), some (.int x2)]) dX8_readTests_34 rfl (by decide) rfl ?_
        refine J.iinc (v := x2 + 1) (vs' := [some (.ref (eB E + 47)), some (.int r12), some (.int (x2 + 1))]) dX8_readTests_35 rfl (by rfl) (by decide) rfl ?_
        refine J.goto 4 dX8_readTests_38 (by decide) ?_
        exact hW
      · have hW := hW.1 hc10
        refine J.iconst (v := 0) dX8_readTests_26 (by decide) ?_
        exact J.reti dX8_readTests_27 rfl (bz_nar (Or.inl rfl)) hW
set_option maxRecDepth 100000 in
set_option maxHeartbeats 4000000 in
theorem w_X8_actAtHand {E : Envt} {d : Nat} {Q : Pst} {h : mS} {I : mI} {L : mL} (hs : SL h)  
    (hW : ((((I 47 5) = 0) → (CT E mX8_isWord (d + 4) 0 0 [.ref (eB E + 47), .ref (eK E 16)] h I L (qi h L fun r3 I2 => (((r3 = 0) → (CT E mX8_isWord (d + 4) 0 0 [.ref (eB E + 47), .ref (eK E 17)] h I2 L (qi h L fun r6 I5 => (((r6 = 0) → (CT E mX8_isWord (d + 4) 0 0 [.ref (eB E + 47), .ref (eK E 18)] h I5 L (qi h L fun r9 I8 => (((r9 = 0) → Q (some (.int (-1))) h I8 L) ∧ (¬ (r9 = 0) → Q (some (.int 2)) h I8 L))))) ∧ (¬ (r6 = 0) → Q (some (.int 1)) h I5 L))))) ∧ (¬ (r3 = 0) → Q (some (.int 0)) h I2 L))))) ∧ (¬ ((I 47 5) = 0) → (CT E mX8_isWord (d + 4) 0 0 [.ref (eB E + 47), .ref (eK E 14)] h I L (qi h L fun r12 I11 => (((r12 = 0) → (CT E mX8_isWord (d + 4) 0 0 [.ref (eB E + 47), .ref (eK E 15)] h I11 L (qi h L fun r15 I14 => (((r15 = 0) → Q (some (.int (-1))) h I14 L) ∧ (¬ (r15 = 0) → Q (some (.int 4)) h I14 L))))) ∧ (¬ (r12 = 0) → Q (some (.int 3)) h I11 L))))))) :
    CT E mX8_actAtHand (d + 5) 0 0 [.ref (eB E + 47)] h I L Q := by
  refine CT.of (by decide) [some (.ref (eB E + 47))] rfl (Nat.le_of_ble_eq_true rfl) ?_
  refine J.aload_n dX8_actAtHand_0 rfl rfl ?_
  refine J.getI (x := I 47 5) fl_X8_24 rfl dX8_actAtHand_1 (lt47 hs) (kk47 hs) rfl ?_
  refine J.if_eq 31 dX8_actAtHand_4 (by decide) (fun hc1 => ?_) (fun hc1 => ?_)
  · have hW := hW.1 hc1
    refine J.aload_n dX8_actAtHand_31 rfl rfl ?_
    refine J.ldcS 16 (by decide) rfl dX8_actAtHand_32 ?_
    refine J.callV (M' := mX8_isWord) (index := 98) (bc := 0) (bs := 0) (bc' := 0) (bs' := 0) (st := []) [.ref (eK E 16)] ml_X8_98 cv_X8_isWord dX8_actAtHand_34 (lt47 hs) (kk47 hs) (by decide) rfl rfl rfl rfl (Nat.le_of_ble_eq_true rfl) (kqi hW (fun r3 I2 hW => ?_))
    refine J.if_eq 42 dX8_actAtHand_37 (by decide) (fun hc4 => ?_) (fun hc4 => ?_)
    · have hW := hW.1 hc4
      refine J.aload_n dX8_actAtHand_42 rfl rfl ?_
      refine J.ldcS 17 (by decide) rfl dX8_actAtHand_43 ?_
      refine J.callV (M' := mX8_isWord) (index := 98) (bc := 0) (bs := 0) (bc' := 0) (bs' := 0) (st := []) [.ref (eK E 17)] ml_X8_98 cv_X8_isWord dX8_actAtHand_45 (lt47 hs) (kk47 hs) (by decide) rfl rfl rfl rfl (Nat.le_of_ble_eq_true rfl) (kqi hW (fun r6 I5 hW => ?_))
      refine J.if_eq 53 dX8_actAtHand_48 (by decide) (fun hc7 => ?_) (fun hc7 => ?_)
      · have hW := hW.1 hc7
        refine J.aload_n dX8_actAtHand_53 rfl rfl ?_
        refine J.ldcS 18 (by decide) rfl dX8_actAtHand_54 ?_
        refine J.callV (M' := mX8_isWord) (index := 98) (bc := 0) (bs := 0) (bc' := 0) (bs' := 0) (st := []) [.ref (eK E 18)] ml_X8_98 cv_X8_isWord dX8_actAtHand_56 (lt47 hs) (kk47 hs) (by decide) rfl rfl rfl rfl (Nat.le_of_ble_eq_true rfl) (kqi hW (fun r9 I8 hW => ?_))
        refine J.if_eq 64 dX8_actAtHand_59 (by decide) (fun hc10 => ?_) (fun hc10 => ?_)
        · have hW := hW.1 hc10
          refine J.iconst (v := (-1)) dX8_actAtHand_64 (by decide) ?_
          exact J.reti dX8_actAtHand_65 rfl rfl hW
        · have hW := hW.2 hc10
          refine J.iconst (v := 2) dX8_actAtHand_62 (by decide) ?_
          exact J.reti dX8_actAtHand_63 rfl rfl hW
      · have hW := hW.2 hc7
        refine J.iconst (v := 1) dX8_actAtHand_51 (by decide) ?_
        exact J.reti dX8_actAtHand_52 rfl rfl hW
    · have hW := hW.2 hc4
      refine J.iconst (v := 0) dX8_actAtHand_40 (by decide) ?_
      exact J.reti dX8_actAtHand_41 rfl rfl hW
  · have hW := hW.2 hc1
    refine J.aload_n dX8_actAtHand_7 rfl rfl ?_
    refine J.ldcS 14 (by decide) rfl dX8_actAtHand_8 ?_
    refine J.callV (M' := mX8_isWord) (index := 98) (bc := 0) (bs := 0) (bc' := 0) (bs' := 0) (st := []) [.ref (eK E 14)] ml_X8_98 cv_X8_isWord dX8_actAtHand_10 (lt47 hs) (kk47 hs) (by decide) rfl rfl rfl rfl (Nat.le_of_ble_eq_true rfl) (kqi hW (fun r12 I11 hW => ?_))
    refine J.if_eq 18 dX8_actAtHand_13 (by decide) (fun hc13 => ?_) (fun hc13 => ?_)
    · have hW := hW.1 hc13
      refine J.aload_n dX8_actAtHand_18 rfl rfl ?_
      refine J.ldcS 15 (by decide) rfl dX8_actAtHand_19 ?_
      refine J.callV (M' := mX8_isWord) (index := 98) (bc := 0) (bs := 0) (bc' := 0) (bs' := 0) (st := []) [.ref (eK E 15)] ml_X8_98 cv_X8_isWord dX8_actAtHand_21 (lt47 hs) (kk47 hs) (by decide) rfl rfl rfl rfl (Nat.le_of_ble_eq_true rfl) (kqi hW (fun r15 I14 hW => ?_))
      refine J.if_eq 29 dX8_actAtHand_24 (by decide) (fun hc16 => ?_) (fun hc16 => ?_)
      · have hW := hW.1 hc16
        refine J.iconst (v := (-1)) dX8_actAtHand_29 (by decide) ?_
        exact J.reti dX8_actAtHand_30 rfl rfl hW
      · have hW := hW.2 hc16
        refine J.iconst (v := 4) dX8_actAtHand_27 (by decide) ?_
        exact J.reti dX8_actAtHand_28 rfl rfl hW
    · have hW := hW.2 hc13
      refine J.iconst (v := 3) dX8_actAtHand_16 (by decide) ?_
      exact J.reti dX8_actAtHand_17 rfl rfl hW
set_option maxRecDepth 100000 in
set_option maxHeartbeats 4000000 in
theorem w_X8_keepLine {E : Envt} {d : Nat} {Q : Pst} {h : mS} {I : mI} {L : mL} (hs : SL h) (x1 : Int32) (x2 : Int32) 
    (hW : ((((I 47 9) = 0) → (vp_in (I 47 6) 16 ∧ (vp_in ((I 47 6) + 1) 17 ∧ Q none h (uI (uI (uI (uI I 49 ((I 47 6).toNatClampNeg) x1) 50 ((I 47 6).toNatClampNeg) x2) 47 6 ((I 47 6) + 1)) 51 (((I 47 6) + 1).toNatClampNeg) (I 47 7)) L))) ∧ (¬ ((I 47 9) = 0) → Q none h I L))) :
    CT E mX8_keepLine d 0 0 [.ref (eB E + 47), .int x1, .int x2] h I L Q := by
  refine CT.of (by decide) [some (.ref (eB E + 47)), some (.int x1), some (.int x2)] rfl (Nat.le_of_ble_eq_true rfl) ?_
  refine J.aload_n dX8_keepLine_0 rfl rfl ?_
  refine J.getI (x := I 47 9) fl_X8_38 rfl dX8_keepLine_1 (lt47 hs) (kk47 hs) rfl ?_
  refine J.if_ne 59 dX8_keepLine_4 (by decide) (fun hc1 => ?_) (fun hc1 => ?_)
  · have hW := hW.2 hc1
    exact J.retv dX8_keepLine_59 rfl hW
  · have hW := hW.1 hc1
    refine J.aload_n dX8_keepLine_7 rfl rfl ?_
    refine J.getR (r := 48) fl_X8_14 rfl dX8_keepLine_8 (lt47 hs) (kk47 hs) (rr47_11 hs) ?_
    refine J.getR (r := 49) fl_X8_58 rfl dX8_keepLine_11 (lt48 hs) (kk48 hs) (rr48_1 hs) ?_
    refine J.aload_n dX8_keepLine_14 rfl rfl ?_
    refine J.getI (x := I 47 6) fl_X8_32 rfl dX8_keepLine_15 (lt47 hs) (kk47 hs) rfl ?_
    refine J.iload_n dX8_keepLine_18 rfl rfl ?_
    obtain ⟨hb2, hW⟩ := hW
    refine J.iast dX8_keepLine_19 (lt49 hs) (kk49 hs) hb2 ?_
    refine J.aload_n dX8_keepLine_20 rfl rfl ?_
    refine J.getR (r := 48) fl_X8_14 rfl dX8_keepLine_21 (lt47 hs) (kk47 hs) (rr47_11 hs) ?_
    refine J.getR (r := 50) fl_X8_66 rfl dX8_keepLine_24 (lt48 hs) (kk48 hs) (rr48_2 hs) ?_
    refine J.aload_n dX8_keepLine_27 rfl rfl ?_
    refine J.getI (x := I 47 6) fl_X8_32 rfl dX8_keepLine_28 (lt47 hs) (kk47 hs) rfl ?_
    refine J.iload_n dX8_keepLine_31 rfl rfl ?_
    refine J.iast dX8_keepLine_32 (lt50 hs) (kk50 hs) hb2 ?_
    refine J.aload_n dX8_keepLine_33 rfl rfl ?_
    refine J.dup dX8_keepLine_34 rfl ?_
    refine J.getI (x := I 47 6) fl_X8_32 rfl dX8_keepLine_35 (lt47 hs) (kk47 hs) rfl ?_
    refine J.iconst (v := 1) dX8_keepLine_38 (by decide) ?_
    refine J.iadd dX8_keepLine_39 ?_
    refine J.putI fw_X8_32 rfl dX8_keepLine_40 (lt47 hs) (kk47 hs) ?_
    refine J.aload_n dX8_keepLine_43 rfl rfl ?_
    refine J.getR (r := 48) fl_X8_14 rfl dX8_keepLine_44 (lt47 hs) (kk47 hs) (rr47_11 hs) ?_
    refine J.getR (r := 51) fl_X8_69 rfl dX8_keepLine_47 (lt48 hs) (kk48 hs) (rr48_3 hs) ?_
    refine J.aload_n dX8_keepLine_50 rfl rfl ?_
    refine J.getI (x := (I 47 6) + 1) fl_X8_32 rfl dX8_keepLine_51 (lt47 hs) (kk47 hs) (by simp [uI]) ?_
    refine J.aload_n dX8_keepLine_54 rfl rfl ?_
    refine J.getI (x := I 47 7) fl_X8_35 rfl dX8_keepLine_55 (lt47 hs) (kk47 hs) rfl ?_
    obtain ⟨hb3, hW⟩ := hW
    refine J.iast dX8_keepLine_58 (lt51 hs) (kk51 hs) hb3 ?_
    exact J.retv dX8_keepLine_59 rfl hW
