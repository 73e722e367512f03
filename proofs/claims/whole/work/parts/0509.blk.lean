set_option maxRecDepth 100000 in
set_option maxHeartbeats 4000000 in
theorem w_X8_readAct {E : Envt} {d : Nat} {Q : Pst} {h : mS} {I : mI} {L : mL} (hs : SL h)  
    (hW : (CT E mX8_actAtHand (d + 5) 0 0 [.ref (eB E + 47)] h I L (qi h L fun r2 I1 => (((r2 = (-1)) → (CT E mX8_refuse (d + 5) 0 0 [.ref (eB E + 47)] h I1 L (qi h L fun r20 I19 => (bz r20 ∧ Q (some (.int r20)) h I19 L)))) ∧ (¬ (r2 = (-1)) → (CT E mX8_advance (d + 5) 0 0 [.ref (eB E + 47)] h I1 L (qv h L fun I4 => (((r2 = 0) → (CT E mX8_keepLine (d + 5) 0 0 [.ref (eB E + 47), .int r2, .int 0] h I4 L (qv h L fun I6 => Q (some (.int 1)) h I6 L))) ∧ (¬ (r2 = 0) → ((((I4 47 1) = 2) → (((r2 = 2) → ((((I4 47 4) ≤ 100) → (CT E mX8_advance (d + 5) 0 0 [.ref (eB E + 47)] h I4 L (qv h L fun I12 => (CT E mX8_keepLine (d + 5) 0 0 [.ref (eB E + 47), .int r2, .int (I4 47 4)] h I12 L (qv h L fun I13 => Q (some (.int 1)) h I13 L))))) ∧ (¬ ((I4 47 4) ≤ 100) → (CT E mX8_note (d + 5) 0 0 [.ref (eB E + 47), .int 2] h I4 L (qv h L fun I14 => (CT E mX8_advance (d + 5) 0 0 [.ref (eB E + 47)] h I14 L (qv h L fun I15 => (CT E mX8_keepLine (d + 5) 0 0 [.ref (eB E + 47), .int r2, .int (I14 47 4)] h I15 L (qv h L fun I16 => Q (some (.int 1)) h I16 L))))))))) ∧ (¬ (r2 = 2) → (CT E mX8_advance (d + 5) 0 0 [.ref (eB E + 47)] h I4 L (qv h L fun I9 => (CT E mX8_keepLine (d + 5) 0 0 [.ref (eB E + 47), .int r2, .int (I4 47 4)] h I9 L (qv h L fun I10 => Q (some (.int 1)) h I10 L))))))) ∧ (¬ ((I4 47 1) = 2) → (CT E mX8_refuse (d + 5) 0 0 [.ref (eB E + 47)] h I4 L (qi h L fun r18 I17 => (bz r18 ∧ Q (some (.int r18)) h I17 L)))))))))))))) :
    CT E mX8_readAct (d + 6) 0 0 [.ref (eB E + 47)] h I L Q := by
  refine CT.of (by decide) [some (.ref (eB E + 47)), none, none] rfl (Nat.le_of_ble_eq_true rfl) ?_
  refine J.aload_n dX8_readAct_0 rfl rfl ?_
  refine J.callV (M' := mX8_actAtHand) (index := 144) (bc := 0) (bs := 0) (bc' := 0) (bs' := 0) (st := []) [] ml_X8_144 cv_X8_actAtHand dX8_readAct_1 (lt47 hs) (kk47 hs) (by decide) rfl rfl rfl rfl (Nat.le_of_ble_eq_true rfl) (kqi hW (fun r2 I1 hW => ?_))
  refine J.istore_n (vs' := [some (.ref (eB E + 47)), some (.int r2), none]) dX8_readAct_4 rfl (by decide) rfl ?_
  refine J.iload_n dX8_readAct_5 rfl rfl ?_
  refine J.iconst (v := (-1)) dX8_readAct_6 (by decide) ?_
  refine J.ic_ne 15 dX8_readAct_7 (by decide) (fun hc3 => ?_) (fun hc3 => ?_)
  · have hW := hW.2 hc3
    refine J.aload_n dX8_readAct_15 rfl rfl ?_
    refine J.callV (M' := mX8_advance) (index := 44) (bc := 0) (bs := 0) (bc' := 0) (bs' := 0) (st := []) [] ml_X8_44 cv_X8_advance dX8_readAct_16 (lt47 hs) (kk47 hs) (by decide) rfl rfl rfl rfl (Nat.le_of_ble_eq_true rfl) (kqv hW (fun I4 hW => ?_))
    refine J.iconst (v := 0) dX8_readAct_19 (by decide) ?_
    refine J.istore_n (vs' := [some (.ref (eB E + 47)), some (.int r2), some (.int 0)]) dX8_readAct_20 rfl (by decide) rfl ?_
    refine J.iload_n dX8_readAct_21 rfl rfl ?_
    refine J.if_eq 66 dX8_readAct_22 (by decide) (fun hc5 => ?_) (fun hc5 => ?_)
    · have hW := hW.1 hc5
      refine J.aload_n dX8_readAct_66 rfl rfl ?_
      refine J.iload_n dX8_readAct_67 rfl rfl ?_
      refine J.iload_n dX8_readAct_68 rfl rfl ?_
      refine J.callV (M' := mX8_keepLine) (index := 147) (bc := 0) (bs := 0) (bc' := 0) (bs' := 0) (st := []) [.int r2, .int 0] ml_X8_147 cv_X8_keepLine dX8_readAct_69 (lt47 hs) (kk47 hs) (by decide) rfl rfl rfl rfl (Nat.le_of_ble_eq_true rfl) (kqv hW (fun I6 hW => ?_))
      refine J.iconst (v := 1) dX8_readAct_72 (by decide) ?_
      exact J.reti dX8_readAct_73 rfl (bz_nar (Or.inr rfl)) hW
    · have hW := hW.2 hc5
      refine J.aload_n dX8_readAct_25 rfl rfl ?_
      refine J.getI (x := I4 47 1) fl_X8_47 rfl dX8_readAct_26 (lt47 hs) (kk47 hs) rfl ?_
      refine J.iconst (v := 2) dX8_readAct_29 (by decide) ?_
      refine J.ic_eq 38 dX8_readAct_30 (by decide) (fun hc7 => ?_) (fun hc7 => ?_)
      · have hW := hW.1 hc7
        refine J.iload_n dX8_readAct_38 rfl rfl ?_
        refine J.iconst (v := 2) dX8_readAct_39 (by decide) ?_
        refine J.ic_ne 57 dX8_readAct_40 (by decide) (fun hc8 => ?_) (fun hc8 => ?_)
        · have hW := hW.2 hc8
          refine J.aload_n dX8_readAct_57 rfl rfl ?_
          refine J.getI (x := I4 47 4) fl_X8_141 rfl dX8_readAct_58 (lt47 hs) (kk47 hs) rfl ?_
          refine J.istore_n (vs' := [some (.ref (eB E + 47)), some (.int r2), some (.int (I4 47 4))]) dX8_readAct_61 rfl (by decide) rfl ?_
          refine J.aload_n dX8_readAct_62 rfl rfl ?_
          refine J.callV (M' := mX8_advance) (index := 44) (bc := 0) (bs := 0) (bc' := 0) (bs' := 0) (st := []) [] ml_X8_44 cv_X8_advance dX8_readAct_63 (lt47 hs) (kk47 hs) (by decide) rfl rfl rfl rfl (Nat.le_of_ble_eq_true rfl) (kqv hW (fun I9 hW => ?_))
          refine J.aload_n dX8_readAct_66 rfl rfl ?_
          refine J.iload_n dX8_readAct_67 rfl rfl ?_
          refine J.iload_n dX8_readAct_68 rfl rfl ?_
          refine J.callV (M' := mX8_keepLine) (index := 147) (bc := 0) (bs := 0) (bc' := 0) (bs' := 0) (st := []) [.int r2, .int (I4 47 4)] ml_X8_147 cv_X8_keepLine dX8_readAct_69 (lt47 hs) (kk47 hs) (by decide) rfl rfl rfl rfl (Nat.le_of_ble_eq_true rfl) (kqv hW (fun I10 hW => ?_))
          refine J.iconst (v := 1) dX8_readAct_72 (by decide) ?_
          exact J.reti dX8_readAct_73 rfl (bz_nar (Or.inr rfl)) hW
        · have hW := hW.1 hc8
          refine J.aload_n dX8_readAct_43 rfl rfl ?_
          refine J.getI (x := I4 47 4) fl_X8_141 rfl dX8_readAct_44 (lt47 hs) (kk47 hs) rfl ?_
          refine J.bipush (v := 100) dX8_readAct_47 (by decide) ?_
          refine J.ic_le 57 dX8_readAct_49 (by decide) (fun hc11 => ?_) (fun hc11 => ?_)
          · have hW := hW.1 hc11
            refine J.aload_n dX8_readAct_57 rfl rfl ?_
            refine J.getI (x := I4 47 4) fl_X8_141 rfl dX8_readAct_58 (lt47 hs) (kk47 hs) rfl ?_
            refine J.istore_n (vs' := [some (.ref (eB E + 47)), some (.int r2), some (.int (I4 47 4))]) dX8_readAct_61 rfl (by decide) rfl ?_
            refine J.aload_n dX8_readAct_62 rfl rfl ?_
            refine J.callV (M' := mX8_advance) (index := 44) (bc := 0) (bs := 0) (bc' := 0) (bs' := 0) (st := []) [] ml_X8_44 cv_X8_advance dX8_readAct_63 (lt47 hs) (kk47 hs) (by decide) rfl rfl rfl rfl (Nat.le_of_ble_eq_true rfl) (kqv hW (fun I12 hW => ?_))
            refine J.aload_n dX8_readAct_66 rfl rfl ?_
            refine J.iload_n dX8_readAct_67 rfl rfl ?_
            refine J.iload_n dX8_readAct_68 rfl rfl ?_
            refine J.callV (M' := mX8_keepLine) (index := 147) (bc := 0) (bs := 0) (bc' := 0) (bs' := 0) (st := []) [.int r2, .int (I4 47 4)] ml_X8_147 cv_X8_keepLine dX8_readAct_69 (lt47 hs) (kk47 hs) (by decide) rfl rfl rfl rfl (Nat.le_of_ble_eq_true rfl) (kqv hW (fun I13 hW => ?_))
            refine J.iconst (v := 1) dX8_readAct_72 (by decide) ?_
            exact J.reti dX8_readAct_73 rfl (bz_nar (Or.inr rfl)) hW
          · have hW := hW.2 hc11
            refine J.aload_n dX8_readAct_52 rfl rfl ?_
            refine J.iconst (v := 2) dX8_readAct_53 (by decide) ?_
            refine J.callV (M' := mX8_note) (index := 92) (bc := 0) (bs := 0) (bc' := 0) (bs' := 0) (st := []) [.int 2] ml_X8_92 cv_X8_note dX8_readAct_54 (lt47 hs) (kk47 hs) (by decide) rfl rfl rfl rfl (Nat.le_of_ble_eq_true rfl) (kqv hW (fun I14 hW => ?_))
            refine J.aload_n dX8_readAct_57 rfl rfl ?_
            refine J.getI (x := I14 47 4) fl_X8_141 rfl dX8_readAct_58 (lt47 hs) (kk47 hs) rfl ?_
            refine J.istore_n (vs' := [some (.ref (eB E + 47)), some (.int r2), some (.int (I14 47 4))]) dX8_readAct_61 rfl (by decide) rfl ?_
            refine J.aload_n dX8_readAct_62 rfl rfl ?_
            refine J.callV (M' := mX8_advance) (index := 44) (bc := 0) (bs := 0) (bc' := 0) (bs' := 0) (st := []) [] ml_X8_44 cv_X8_advance dX8_readAct_63 (lt47 hs) (kk47 hs) (by decide) rfl rfl rfl rfl (Nat.le_of_ble_eq_true rfl) (kqv hW (fun I15 hW => ?_))
            refine J.aload_n dX8_readAct_66 rfl rfl ?_
            refine J.iload_n dX8_readAct_67 rfl rfl ?_
            refine J.iload_n dX8_readAct_68 rfl rfl ?_
            refine J.callV (M' := mX8_keepLine) (index := 147) (bc := 0) (bs := 0) (bc' := 0) (bs' := 0) (st := []) [.int r2, .int (I14 47 4)] ml_X8_147 cv_X8_keepLine dX8_readAct_69 (lt47 hs) (kk47 hs) (by decide) rfl rfl rfl rfl (Nat.le_of_ble_eq_true rfl) (kqv hW (fun I16 hW => ?_))
            refine J.iconst (v := 1) dX8_readAct_72 (by decide) ?_
            exact J.reti dX8_readAct_73 rfl (bz_nar (Or.inr rfl)) hW
      · have hW := hW.2 hc7
        refine J.aload_n dX8_readAct_33 rfl rfl ?_
        refine J.callV (M' := mX8_refuse) (index := 122) (bc := 0) (bs := 0) (bc' := 0) (bs' := 0) (st := []) [] ml_X8_122 cv_X8_refuse dX8_readAct_34 (lt47 hs) (kk47 hs) (by decide) rfl rfl rfl rfl (Nat.le_of_ble_eq_true rfl) (kqi hW (fun r18 I17 hW => ?_))
        obtain ⟨hz, hW⟩ := hW
        exact J.reti dX8_readAct_37 rfl (bz_nar hz) hW
  · have hW := hW.1 hc3
    refine J.aload_n dX8_readAct_10 rfl rfl ?_
    refine J.callV (M' := mX8_refuse) (index := 122) (bc := 0) (bs := 0) (bc' := 0) (bs' := 0) (st := []) [] ml_X8_122 cv_X8_refuse dX8_readAct_11 (lt47 hs) (kk47 hs) (by decide) rfl rfl rfl rfl (Nat.le_of_ble_eq_true rfl) (kqi hW (fun r20 I19 hW => ?_))
    obtain ⟨hz, hW⟩ := hW
    exact J.reti dX8_readAct_14 rfl (bz_nar hz) hW
set_option maxRecDepth 100000 in
set_option maxHeartbeats 4000000 in
theorem w_X8_readLine {E : Envt} {d : Nat} {Q : Pst} {h : mS} {I : mI} {L : mL} (hs : SL h)  
    (hW : ((((I 47 6) < 16) → J E mX8_readLine (d + 8) Q 0 0 19 [some (.ref (eB E + 47))] [] h (uI I 47 8 0) L) ∧ (¬ ((I 47 6) < 16) → (CT E mX8_note (d + 7) 0 0 [.ref (eB E + 47), .int 3] h (uI I 47 8 0) L (qv h L fun I2 => J E mX8_readLine (d + 8) Q 0 0 19 [some (.ref (eB E + 47))] [] h I2 L))))) :
    CT E mX8_readLine (d + 8) 0 0 [.ref (eB E + 47)] h I L Q := by
  refine CT.of (by decide) [some (.ref (eB E + 47))] rfl (Nat.le_of_ble_eq_true rfl) ?_
  refine J.aload_n dX8_readLine_0 rfl rfl ?_
  refine J.iconst (v := 0) dX8_readLine_1 (by decide) ?_
  refine J.putI fw_X8_89 rfl dX8_readLine_2 (lt47 hs) (kk47 hs) ?_
  refine J.aload_n dX8_readLine_5 rfl rfl ?_
  refine J.getI (x := I 47 6) fl_X8_32 rfl dX8_readLine_6 (lt47 hs) (kk47 hs) rfl ?_
  refine J.bipush (v := 16) dX8_readLine_9 (by decide) ?_
  refine J.ic_lt 19 dX8_readLine_11 (by decide) (fun hc1 => ?_) (fun hc1 => ?_)
  · have hW := hW.1 hc1
    exact hW
  · have hW := hW.2 hc1
    refine J.aload_n dX8_readLine_14 rfl rfl ?_
    refine J.iconst (v := 3) dX8_readLine_15 (by decide) ?_
    refine J.callV (M' := mX8_note) (index := 92) (bc := 0) (bs := 0) (bc' := 0) (bs' := 0) (st := []) [.int 3] ml_X8_92 cv_X8_note dX8_readLine_16 (lt47 hs) (kk47 hs) (by decide) rfl rfl rfl rfl (Nat.le_of_ble_eq_true rfl) (kqv hW (fun I2 hW => ?_))
    exact hW
set_option maxRecDepth 100000 in
set_option maxHeartbeats 4000000 in
theorem w_X8_readLine_19 {E : Envt} {d : Nat} {Q : Pst} {h : mS} {I : mI} {L : mL} (hs : SL h)    
    (hW : (CT E mX8_isWord (d + 7) 0 0 [.ref (eB E + 47), .ref (eK E 0)] h I L (qi h L fun r2 I1 => (((r2 = 0) → (CT E mX8_readAct (d + 7) 0 0 [.ref (eB E + 47)] h I1 L (qi h L fun r5 I4 => (((r5 = 0) → Q (some (.int 0)) h I4 L) ∧ (¬ (r5 = 0) → (CT E mX8_takeSign (d + 7) 0 0 [.ref (eB E + 47), .int 59] h I4 L (qi h L fun r8 I7 => Q (some (.int (bI (¬ (r8 = 0))))) h I7 L))))))) ∧ (¬ (r2 = 0) → (CT E mX8_readTests (d + 7) 0 0 [.ref (eB E + 47)] h I1 L (qi h L fun r11 I10 => (((r11 = 0) → Q (some (.int 0)) h I10 L) ∧ (¬ (r11 = 0) → (CT E mX8_readAct (d + 7) 0 0 [.ref (eB E + 47)] h I10 L (qi h L fun r14 I13 => (((r14 = 0) → Q (some (.int 0)) h I13 L) ∧ (¬ (r14 = 0) → (CT E mX8_takeSign (d + 7) 0 0 [.ref (eB E + 47), .int 59] h I13 L (qi h L fun r17 I16 => Q (some (.int (bI (¬ (r17 = 0))))) h I16 L))))))))))))))) :
    J E mX8_readLine (d + 8) Q 0 0 19 [some (.ref (eB E + 47))] [] h I L := by
  refine J.aload_n dX8_readLine_19 rfl rfl ?_
  refine J.ldcS 0 (by decide) rfl dX8_readLine_20 ?_
  refine J.callV (M' := mX8_isWord) (index := 98) (bc := 0) (bs := 0) (bc' := 0) (bs' := 0) (st := []) [.ref (eK E 0)] ml_X8_98 cv_X8_isWord dX8_readLine_22 (lt47 hs) (kk47 hs) (by decide) rfl rfl rfl rfl (Nat.le_of_ble_eq_true rfl) (kqi hW (fun r2 I1 hW => ?_))
  refine J.if_eq 37 dX8_readLine_25 (by decide) (fun hc3 => ?_) (fun hc3 => ?_)
  · have hW := hW.1 hc3
    refine J.aload_n dX8_readLine_37 rfl rfl ?_
    refine J.callV (M' := mX8_readAct) (index := 105) (bc := 0) (bs := 0) (bc' := 0) (bs' := 0) (st := []) [] ml_X8_105 cv_X8_readAct dX8_readLine_38 (lt47 hs) (kk47 hs) (by decide) rfl rfl rfl rfl (Nat.le_of_ble_eq_true rfl) (kqi hW (fun r5 I4 hW => ?_))
    refine J.if_eq 57 dX8_readLine_41 (by decide) (fun hc6 => ?_) (fun hc6 => ?_)
    · have hW := hW.1 hc6
      refine J.iconst (v := 0) dX8_readLine_57 (by decide) ?_
      exact J.reti dX8_readLine_58 rfl (bz_nar (Or.inl rfl)) hW
    · have hW := hW.2 hc6
      refine J.aload_n dX8_readLine_44 rfl rfl ?_
      refine J.bipush (v := 59) dX8_readLine_45 (by decide) ?_
      refine J.callV (M' := mX8_takeSign) (index := 108) (bc := 0) (bs := 0) (bc' := 0) (bs' := 0) (st := []) [.int 59] ml_X8_108 cv_X8_takeSign dX8_readLine_47 (lt47 hs) (kk47 hs) (by decide) rfl rfl rfl rfl (Nat.le_of_ble_eq_true rfl) (kqi hW (fun r8 I7 hW => ?_))
      have hj : J E mX8_readLine (d + 8) Q 0 0 58 [some (.ref (eB E + 47))] [.int (bI (¬ (r8 = 0)))] h I7 L := by
        exact J.reti dX8_readLine_58 rfl (bz_nar (bI_bz _)) hW
      refine J.if_eq 57 dX8_readLine_50 (by decide) (fun hc9 => ?_) (fun hc9 => ?_)
      · refine J.iconst (v := 0) dX8_readLine_57 (by decide) ?_
        rw [show bI (¬ (r8 = 0)) = 0 from bI_f (by simp only [eq_true hc9, and_true, true_and, and_false, false_and, or_true, true_or, or_false, false_or, not_true_eq_false, not_false_eq_true])] at hj
        exact hj
      · refine J.iconst (v := 1) dX8_readLine_53 (by decide) ?_
        refine J.goto 58 dX8_readLine_54 (by decide) ?_
        rw [show bI (¬ (r8 = 0)) = 1 from bI_t (by simp only [eq_false hc9, and_true, true_and, and_false, false_and, or_true, true_or, or_false, false_or, not_true_eq_false, not_false_eq_true])] at hj
        exact hj
  · have hW := hW.2 hc3
    refine J.aload_n dX8_readLine_28 rfl rfl ?_
    refine J.callV (M' := mX8_readTests) (index := 102) (bc := 0) (bs := 0) (bc' := 0) (bs' := 0) (st := []) [] ml_X8_102 cv_X8_readTests dX8_readLine_29 (lt47 hs) (kk47 hs) (by decide) rfl rfl rfl rfl (Nat.le_of_ble_eq_true rfl) (kqi hW (fun r11 I10 hW => ?_))
    refine J.if_ne 37 dX8_readLine_32 (by decide) (fun hc12 => ?_) (fun hc12 => ?_)
    · have hW := hW.2 hc12
      refine J.aload_n dX8_readLine_37 rfl rfl ?_
      refine J.callV (M' := mX8_readAct) (index := 105) (bc := 0) (bs := 0) (bc' := 0) (bs' := 0) (st := []) [] ml_X8_105 cv_X8_readAct dX8_readLine_38 (lt47 hs) (kk47 hs) (by decide) rfl rfl rfl rfl (Nat.le_of_ble_eq_true rfl) (kqi hW (fun r14 I13 hW => ?_))
      refine J.if_eq 57 dX8_readLine_41 (by decide) (fun hc15 => ?_) (fun hc15 => ?_)
      · have hW := hW.1 hc15
        refine J.iconst (v := 0) dX8_readLine_57 (by decide) ?_
        exact J.reti dX8_readLine_58 rfl (bz_nar (Or.inl rfl)) hW
      · have hW := hW.2 hc15
        refine J.aload_n dX8_readLine_44 rfl rfl ?_
        refine J.bipush (v := 59) dX8_readLine_45 (by decide) ?_
        refine J.callV (M' := mX8_takeSign) (index := 108) (bc := 0) (bs := 0) (bc' := 0) (bs' := 0) (st := []) [.int 59] ml_X8_108 cv_X8_takeSign dX8_readLine_47 (lt47 hs) (kk47 hs) (by decide) rfl rfl rfl rfl (Nat.le_of_ble_eq_true rfl) (kqi hW (fun r17 I16 hW => ?_))
        have hj : J E mX8_readLine (d + 8) Q 0 0 58 [some (.ref (eB E + 47))] [.int (bI (¬ (r17 = 0)))] h I16 L := by
          exact J.reti dX8_readLine_58 rfl (bz_nar (bI_bz _)) hW
        refine J.if_eq 57 dX8_readLine_50 (by decide) (fun hc18 => ?_) (fun hc18 => ?_)
        · refine J.iconst (v := 0) dX8_readLine_57 (by decide) ?_
          rw [show bI (¬ (r17 = 0)) = 0 from bI_f (by simp only [eq_true hc18, and_true, true_and, and_false, false_and, or_true, true_or, or_false, false_or, not_true_eq_false, not_false_eq_true])] at hj
          exact hj
        · refine J.iconst (v := 1) dX8_readLine_53 (by decide) ?_
          refine J.goto 58 dX8_readLine_54 (by decide) ?_
          rw [show bI (¬ (r17 = 0)) = 1 from bI_t (by simp only [eq_false hc18, and_true, true_and, and_false, false_and, or_true, true_or, or_false, false_or, not_true_eq_false, not_false_eq_true])] at hj
          exact hj
    · have hW := hW.1 hc12
      refine J.iconst (v := 0) dX8_readLine_35 (by decide) ?_
      exact J.reti dX8_readLine_36 rfl (bz_nar (Or.inl rfl)) hW
set_option maxRecDepth 100000 in
set_option maxHeartbeats 4000000 in
theorem w_X8_take {E : Envt} {d : Nat} {Q : Pst} {h : mS} {I : mI} {L : mL} (hs : SL h) (x1 : Int32) 
    (hW : (bz x1 ∧ (CT E mX8_advance (d + 8) 0 0 [.ref (eB E + 47)] h (uI (uI (uI (uI (uI (uI I 47 5 x1) 47 3 0) 47 6 0) 47 7 0) 47 9 0) 47 10 (-1)) L (qv h L fun I1 => J E mX8_take (d + 9) Q 0 0 38 [some (.ref (eB E + 47)), some (.int x1), some (.int 1), some (.int 0)] [] h I1 L)))) :
    CT E mX8_take (d + 9) 0 0 [.ref (eB E + 47), .int x1] h I L Q := by
  refine CT.of (by decide) [some (.ref (eB E + 47)), some (.int x1), none, none] rfl (Nat.le_of_ble_eq_true rfl) ?_
  refine J.aload_n dX8_take_0 rfl rfl ?_
  refine J.iload_n dX8_take_1 rfl rfl ?_
  obtain ⟨hz, hW⟩ := hW
  refine J.putZ fw_X8_24 rfl hz dX8_take_2 (lt47 hs) (kk47 hs) ?_
  refine J.aload_n dX8_take_5 rfl rfl ?_
  refine J.iconst (v := 0) dX8_take_6 (by decide) ?_
  refine J.putI fw_X8_28 rfl dX8_take_7 (lt47 hs) (kk47 hs) ?_
  refine J.aload_n dX8_take_10 rfl rfl ?_
  refine J.iconst (v := 0) dX8_take_11 (by decide) ?_
  refine J.putI fw_X8_32 rfl dX8_take_12 (lt47 hs) (kk47 hs) ?_
  refine J.aload_n dX8_take_15 rfl rfl ?_
  refine J.iconst (v := 0) dX8_take_16 (by decide) ?_
  refine J.putI fw_X8_35 rfl dX8_take_17 (lt47 hs) (kk47 hs) ?_
  refine J.aload_n dX8_take_20 rfl rfl ?_
  refine J.iconst (v := 0) dX8_take_21 (by decide) ?_
  refine J.putI fw_X8_38 rfl dX8_take_22 (lt47 hs) (kk47 hs) ?_
  refine J.aload_n dX8_take_25 rfl rfl ?_
  refine J.iconst (v := (-1)) dX8_take_26 (by decide) ?_
  refine J.putI fw_X8_41 rfl dX8_take_27 (lt47 hs) (kk47 hs) ?_
  refine J.aload_n dX8_take_30 rfl rfl ?_
  refine J.callV (M' := mX8_advance) (index := 44) (bc := 0) (bs := 0) (bc' := 0) (bs' := 0) (st := []) [] ml_X8_44 cv_X8_advance dX8_take_31 (lt47 hs) (kk47 hs) (by decide) rfl rfl rfl rfl (Nat.le_of_ble_eq_true rfl) (kqv hW (fun I1 hW => ?_))
  refine J.iconst (v := 1) dX8_take_34 (by decide) ?_
  refine J.istore_n (vs' := [some (.ref (eB E + 47)), some (.int x1), some (.int 1), none]) dX8_take_35 rfl (by decide) rfl ?_
  refine J.iconst (v := 0) dX8_take_36 (by decide) ?_
  refine J.istore_n (vs' := [some (.ref (eB E + 47)), some (.int x1), some (.int 1), some (.int 0)]) dX8_take_37 rfl (by decide) rfl ?_
  exact hW
set_option maxRecDepth 100000 in
set_option maxHeartbeats 4000000 in
theorem w_X8_take_38 {E : Envt} {d : Nat} {Q : Pst} {h : mS} {I : mI} {L : mL} (hs : SL h)    (x1 : Int32) (x2 : Int32) (x3 : Int32)
    (hW : (((500 < x3) → ((((I 47 9) = 0) → (CT E mX8_fairCopy (d + 8) 0 0 [.ref (eB E + 47)] h I L (gt E fun t7 h3 I4 L5 => SL h3 ∧ Q (some (.ref (eB E + t7))) h3 I4 L5))) ∧ (¬ ((I 47 9) = 0) → Q (some .null) h I L))) ∧ (¬ (500 < x3) → (((x2 = 0) → ((((I 47 9) = 0) → (CT E mX8_fairCopy (d + 8) 0 0 [.ref (eB E + 47)] h I L (gt E fun t14 h10 I11 L12 => SL h10 ∧ Q (some (.ref (eB E + t14))) h10 I11 L12))) ∧ (¬ ((I 47 9) = 0) → Q (some .null) h I L))) ∧ (¬ (x2 = 0) → ((((I 47 1) = 0) → ((((I 47 9) = 0) → (CT E mX8_fairCopy (d + 8) 0 0 [.ref (eB E + 47)] h I L (gt E fun t21 h17 I18 L19 => SL h17 ∧ Q (some (.ref (eB E + t21))) h17 I18 L19))) ∧ (¬ ((I 47 9) = 0) → Q (some .null) h I L))) ∧ (¬ ((I 47 1) = 0) → (CT E mX8_readLine (d + 8) 0 0 [.ref (eB E + 47)] h I L (qi h L fun r23 I22 => J E mX8_take (d + 9) Q 0 0 38 [some (.ref (eB E + 47)), some (.int x1), some (.int r23), some (.int (x3 + 1))] [] h I22 L))))))))) :
    J E mX8_take (d + 9) Q 0 0 38 [some (.ref (eB E + 47)), some (.int x1), some (.int x2), some (.int x3)] [] h I L := by
  refine J.iload_n dX8_take_38 rfl rfl ?_
  refine J.sipush (v := 500) dX8_take_39 (by decide) ?_
  refine J.ic_gt 67 dX8_take_42 (by decide) (fun hc1 => ?_) (fun hc1 => ?_)
  · have hW := hW.1 hc1
    refine J.aload_n dX8_take_67 rfl rfl ?_
    refine J.getI (x := I 47 9) fl_X8_38 rfl dX8_take_68 (lt47 hs) (kk47 hs) rfl ?_
    refine J.if_ne 81 dX8_take_71 (by decide) (fun hc2 => ?_) (fun hc2 => ?_)
    · have hW := hW.2 hc2
      refine J.null dX8_take_81 ?_
      exact J.ret (some .null) ⟨dX8_take_82, _, rfl⟩ hW
    · have hW := hW.1 hc2
      refine J.aload_n dX8_take_74 rfl rfl ?_
      refine J.callV (M' := mX8_fairCopy) (index := 54) (bc := 0) (bs := 0) (bc' := 0) (bs' := 0) (st := []) [] ml_X8_54 cv_X8_fairCopy dX8_take_75 (lt47 hs) (kk47 hs) (by decide) rfl rfl rfl rfl (Nat.le_of_ble_eq_true rfl) (kgt hW (fun t7 h3 I4 L5 hW => ?_))
      obtain ⟨hs6, hW⟩ := hW
      refine J.goto 82 dX8_take_78 (by decide) ?_
      exact J.ret (some (.ref (eB E + t7))) ⟨dX8_take_82, _, rfl⟩ hW
  · have hW := hW.2 hc1
    refine J.iload_n dX8_take_45 rfl rfl ?_
    refine J.if_eq 67 dX8_take_46 (by decide) (fun hc8 => ?_) (fun hc8 => ?_)
    · have hW := hW.1 hc8
      refine J.aload_n dX8_take_67 rfl rfl ?_
      refine J.getI (x := I 47 9) fl_X8_38 rfl dX8_take_68 (lt47 hs) (kk47 hs) rfl ?_
      refine J.if_ne 81 dX8_take_71 (by decide) (fun hc9 => ?_) (fun hc9 => ?_)
      · have hW := hW.2 hc9
        refine J.null dX8_take_81 ?_
        exact J.ret (some .null) ⟨dX8_take_82, _, rfl⟩ hW
      · have hW := hW.1 hc9
        refine J.aload_n dX8_take_74 rfl rfl ?_
        refine J.callV (M' := mX8_fairCopy) (index := 54) (bc := 0) (bs := 0) (bc' := 0) (bs' := 0) (st := []) [] ml_X8_54 cv_X8_fairCopy dX8_take_75 (lt47 hs) (kk47 hs) (by decide) rfl rfl rfl rfl (Nat.le_of_ble_eq_true rfl) (kgt hW (fun t14 h10 I11 L12 hW => ?_))
        obtain ⟨hs13, hW⟩ := hW
        refine J.goto 82 dX8_take_78 (by decide) ?_
        exact J.ret (some (.ref (eB E + t14))) ⟨dX8_take_82, _, rfl⟩ hW
    · have hW := hW.2 hc8
      refine J.aload_n dX8_take_49 rfl rfl ?_
      refine J.getI (x := I 47 1) fl_X8_47 rfl dX8_take_50 (lt47 hs) (kk47 hs) rfl ?_
      refine J.if_eq 67 dX8_take_53 (by decide) (fun hc15 => ?_) (fun hc15 => ?_)
      · have hW := hW.1 hc15
        refine J.aload_n dX8_take_67 rfl rfl ?_
        refine J.getI (x := I 47 9) fl_X8_38 rfl dX8_take_68 (lt47 hs) (kk47 hs) rfl ?_
        refine J.if_ne 81 dX8_take_71 (by decide) (fun hc16 => ?_) (fun hc16 => ?_)
        · have hW := hW.2 hc16
          refine J.null dX8_take_81 ?_
          exact J.ret (some .null) ⟨dX8_take_82, _, rfl⟩ hW
        · have hW := hW.1 hc16
          refine J.aload_n dX8_take_74 rfl rfl ?_
          refine J.callV (M' := mX8_fairCopy) (index := 54) (bc := 0) (bs := 0) (bc' := 0) (bs' := 0) (st := []) [] ml_X8_54 cv_X8_fairCopy dX8_take_75 (lt47 hs) (kk47 hs) (by decide) rfl rfl rfl rfl (Nat.le_of_ble_eq_true rfl) (kgt hW (fun t21 h17 I18 L19 hW => ?_))
          obtain ⟨hs20, hW⟩ := hW
          refine J.goto 82 dX8_take_78 (by decide) ?_
          exact J.ret (some (.ref (eB E + t21))) ⟨dX8_take_82, _, rfl⟩ hW
      · have hW := hW.2 hc15
        refine J.aload_n dX8_take_56 rfl rfl ?_
        refine J.callV (M' := mX8_readLine) (index := 50) (bc := 0) (bs := 0) (bc' := 0) (bs' := 0) (st := []) [] ml_X8_50 cv_X8_readLine dX8_take_57 (lt47 hs) (kk47 hs) (by decide) rfl rfl rfl rfl (Nat.le_of_ble_eq_true rfl) (kqi hW (fun r23 I22 hW => ?_))
        refine J.istore_n (vs' := [some (.ref (eB E + 47)), some (.int x1), some (.int r23), some (.int x3)]) dX8_take_60 rfl (by decide) rfl ?_
        refine J.iinc (v := x3 + 1) (vs' := [some (.ref (eB E + 47)), some (.int x1), some (.int r23), some (.int (x3 + 1))]) dX8_take_61 rfl (by rfl) (by decide) rfl ?_
        refine J.goto 38 dX8_take_64 (by decide) ?_
        exact hW
set_option maxRecDepth 100000 in
set_option maxHeartbeats 4000000 in
theorem w_X9_offer {E : Envt} {d : Nat} {Q : Pst} {h : mS} {I : mI} {L : mL} (hs : SL h) (x1 : Int32) (x2 : Int32) (x3 : Int32) 
    (hW : (vp_in x1 20 ∧ (vp_in x2 20 ∧ (∀ y3 : Int32, y3 = ((I 8 x1.toNatClampNeg) * 8) + (I 8 x2.toNatClampNeg) → (vp_in y3 64 ∧ ((((I 78 y3.toNatClampNeg) = (-1)) → J E mX9_offer d Q 0 0 52 [some (.ref (eB E + 77)), some (.int x1), some (.int x2), some (.int x3), some (.int y3)] [] h I L) ∧ (¬ ((I 78 y3.toNatClampNeg) = (-1)) → (((x3 ≤ (I 80 y3.toNatClampNeg)) → Q none h I L) ∧ (¬ (x3 ≤ (I 80 y3.toNatClampNeg)) → J E mX9_offer d Q 0 0 52 [some (.ref (eB E + 77)), some (.int x1), some (.int x2), some (.int x3), some (.int y3)] [] h I L))))))))) :
    CT E mX9_offer d 0 0 [.ref (eB E + 77), .int x1, .int x2, .int x3] h I L Q := by
  refine CT.of (by decide) [some (.ref (eB E + 77)), some (.int x1), some (.int x2), some (.int x3), none] rfl (Nat.le_of_ble_eq_true rfl) ?_
  refine J.aload_n dX9_offer_0 rfl rfl ?_
  refine J.getR (r := 1) fl_X9_27 rfl dX9_offer_1 (lt77 hs) (kk77 hs) (rr77_0 hs) ?_
  refine J.getR (r := 7) fl_X9_87 rfl dX9_offer_4 (lt1 hs) (kk1 hs) (rr1_2 hs) ?_
  refine J.getR (r := 8) fl_X9_91 rfl dX9_offer_7 (lt7 hs) (kk7 hs) (rr7_1 hs) ?_
  refine J.iload_n dX9_offer_10 rfl rfl ?_
  obtain ⟨hb1, hW⟩ := hW
  refine J.iald (x := I 8 x1.toNatClampNeg) dX9_offer_11 (lt8 hs) (kk8 hs) hb1 rfl ?_
  refine J.bipush (v := 8) dX9_offer_12 (by decide) ?_
  refine J.imul dX9_offer_14 ?_
  refine J.aload_n dX9_offer_15 rfl rfl ?_
  refine J.getR (r := 1) fl_X9_27 rfl dX9_offer_16 (lt77 hs) (kk77 hs) (rr77_0 hs) ?_
  refine J.getR (r := 7) fl_X9_87 rfl dX9_offer_19 (lt1 hs) (kk1 hs) (rr1_2 hs) ?_
  refine J.getR (r := 8) fl_X9_91 rfl dX9_offer_22 (lt7 hs) (kk7 hs) (rr7_1 hs) ?_
  refine J.iload_n dX9_offer_25 rfl rfl ?_
  obtain ⟨hb2, hW⟩ := hW
  refine J.iald (x := I 8 x2.toNatClampNeg) dX9_offer_26 (lt8 hs) (kk8 hs) hb2 rfl ?_
  refine J.iadd dX9_offer_27 ?_
  refine J.topi (fun y3 hyy3 => ?_)
  have hW := hW y3 hyy3
  refine J.istore (vs' := [some (.ref (eB E + 77)), some (.int x1), some (.int x2), some (.int x3), some (.int y3)]) dX9_offer_28 (by decide) rfl ?_
  refine J.aload_n dX9_offer_30 rfl rfl ?_
  refine J.getR (r := 78) fl_X9_9 rfl dX9_offer_31 (lt77 hs) (kk77 hs) (rr77_2 hs) ?_
  refine J.iload dX9_offer_34 rfl ?_
  obtain ⟨hb4, hW⟩ := hW
  refine J.iald (x := I 78 y3.toNatClampNeg) dX9_offer_36 (lt78 hs) (kk78 hs) hb4 rfl ?_
  refine J.iconst (v := (-1)) dX9_offer_37 (by decide) ?_
  refine J.ic_eq 52 dX9_offer_38 (by decide) (fun hc5 => ?_) (fun hc5 => ?_)
  · have hW := hW.1 hc5
    exact hW
  · have hW := hW.2 hc5
    refine J.iload_n dX9_offer_41 rfl rfl ?_
    refine J.aload_n dX9_offer_42 rfl rfl ?_
    refine J.getR (r := 80) fl_X9_18 rfl dX9_offer_43 (lt77 hs) (kk77 hs) (rr77_4 hs) ?_
    refine J.iload dX9_offer_46 rfl ?_
    refine J.iald (x := I 80 y3.toNatClampNeg) dX9_offer_48 (lt80 hs) (kk80 hs) hb4 rfl ?_
    refine J.ic_le 76 dX9_offer_49 (by decide) (fun hc6 => ?_) (fun hc6 => ?_)
    · have hW := hW.1 hc6
      exact J.retv dX9_offer_76 rfl hW
    · have hW := hW.2 hc6
      exact hW
set_option maxRecDepth 100000 in
set_option maxHeartbeats 4000000 in
theorem w_X9_offer_52 {E : Envt} {d : Nat} {Q : Pst} {h : mS} {I : mI} {L : mL} (hs : SL h)    (x1 : Int32) (x2 : Int32) (x3 : Int32) (x4 : Int32)
    (hW : (vp_in x4 64 ∧ Q none h (uI (uI (uI I 78 x4.toNatClampNeg x1) 79 x4.toNatClampNeg x2) 80 x4.toNatClampNeg x3) L)) :
    J E mX9_offer d Q 0 0 52 [some (.ref (eB E + 77)), some (.int x1), some (.int x2), some (.int x3), some (.int x4)] [] h I L := by
  refine J.aload_n dX9_offer_52 rfl rfl ?_
  refine J.getR (r := 78) fl_X9_9 rfl dX9_offer_53 (lt77 hs) (kk77 hs) (rr77_2 hs) ?_
  refine J.iload dX9_offer_56 rfl ?_
  refine J.iload_n dX9_offer_58 rfl rfl ?_
  obtain ⟨hb1, hW⟩ := hW
  refine J.iast dX9_offer_59 (lt78 hs) (kk78 hs) hb1 ?_
  refine J.aload_n dX9_offer_60 rfl rfl ?_
  refine J.getR (r := 79) fl_X9_15 rfl dX9_offer_61 (lt77 hs) (kk77 hs) (rr77_3 hs) ?_
  refine J.iload dX9_offer_64 rfl ?_
  refine J.iload_n dX9_offer_66 rfl rfl ?_
  refine J.iast dX9_offer_67 (lt79 hs) (kk79 hs) hb1 ?_
  refine J.aload_n dX9_offer_68 rfl rfl ?_
  refine J.getR (r := 80) fl_X9_18 rfl dX9_offer_69 (lt77 hs) (kk77 hs) (rr77_4 hs) ?_
  refine J.iload dX9_offer_72 rfl ?_
  refine J.iload_n dX9_offer_74 rfl rfl ?_
  refine J.iast dX9_offer_75 (lt80 hs) (kk80 hs) hb1 ?_
  exact J.retv dX9_offer_76 rfl hW
set_option maxRecDepth 100000 in
set_option maxHeartbeats 4000000 in
theorem w_X9_consider {E : Envt} {d : Nat} {Q : Pst} {h : mS} {I : mI} {L : mL} (hs : SL h) (x1 : Int32) (x2 : Int32) 
    (hW : ((((I 77 7) = 0) → (CT E mX11_copy (d + 1) 0 0 [.ref (eB E + 81), .ref (eB E + 82)] h (uI (uI I 77 7 x1) 77 8 x2) L (qv h L fun I2 => Q none h I2 L))) ∧ (¬ ((I 77 7) = 0) → ((((I 77 8) < x2) → (CT E mX11_copy (d + 1) 0 0 [.ref (eB E + 81), .ref (eB E + 82)] h (uI (uI I 77 7 x1) 77 8 x2) L (qv h L fun I4 => Q none h I4 L))) ∧ (¬ ((I 77 8) < x2) → (((x2 = (I 77 8)) → ((((I 77 7) ≤ x1) → Q none h I L) ∧ (¬ ((I 77 7) ≤ x1) → (CT E mX11_copy (d + 1) 0 0 [.ref (eB E + 81), .ref (eB E + 82)] h (uI (uI I 77 7 x1) 77 8 x2) L (qv h L fun I7 => Q none h I7 L))))) ∧ (¬ (x2 = (I 77 8)) → Q none h I L))))))) :
    CT E mX9_consider (d + 2) 0 0 [.ref (eB E + 77), .int x1, .int x2] h I L Q := by
  refine CT.of (by decide) [some (.ref (eB E + 77)), some (.int x1), some (.int x2)] rfl (Nat.le_of_ble_eq_true rfl) ?_
  refine J.aload_n dX9_consider_0 rfl rfl ?_
  refine J.getI (x := I 77 7) fl_X9_67 rfl dX9_consider_1 (lt77 hs) (kk77 hs) rfl ?_
  refine J.if_eq 31 dX9_consider_4 (by decide) (fun hc1 => ?_) (fun hc1 => ?_)
  · have hW := hW.1 hc1
    refine J.aload_n dX9_consider_31 rfl rfl ?_
    refine J.iload_n dX9_consider_32 rfl rfl ?_
    refine J.putI fw_X9_67 rfl dX9_consider_33 (lt77 hs) (kk77 hs) ?_
    refine J.aload_n dX9_consider_36 rfl rfl ?_
    refine J.iload_n dX9_consider_37 rfl rfl ?_
    refine J.putI fw_X9_70 rfl dX9_consider_38 (lt77 hs) (kk77 hs) ?_
    refine J.aload_n dX9_consider_41 rfl rfl ?_
    refine J.getR (r := 81) fl_X9_21 rfl dX9_consider_42 (lt77 hs) (kk77 hs) (rr77_5 hs) ?_
    refine J.aload_n dX9_consider_45 rfl rfl ?_
    refine J.getR (r := 82) fl_X9_24 rfl dX9_consider_46 (lt77 hs) (kk77 hs) (rr77_6 hs) ?_
    refine J.callSN (M' := mX11_copy) (index := 103) (bc := 0) (bs := 0) (bc' := 0) (bs' := 0) (st := []) [.ref (eB E + 81), .ref (eB E + 82)] nk_X9_103 cv_X11_copy dX9_consider_49 rfl rfl (Nat.le_of_ble_eq_true rfl) (kqv hW (fun I2 hW => ?_))
    exact J.retv dX9_consider_52 rfl hW
  · have hW := hW.2 hc1
    refine J.iload_n dX9_consider_7 rfl rfl ?_
    refine J.aload_n dX9_consider_8 rfl rfl ?_
    refine J.getI (x := I 77 8) fl_X9_70 rfl dX9_consider_9 (lt77 hs) (kk77 hs) rfl ?_
    refine J.ic_gt 31 dX9_consider_12 (by decide) (fun hc3 => ?_) (fun hc3 => ?_)
    · have hW := hW.1 hc3
      refine J.aload_n dX9_consider_31 rfl rfl ?_
      refine J.iload_n dX9_consider_32 rfl rfl ?_
      refine J.putI fw_X9_67 rfl dX9_consider_33 (lt77 hs) (kk77 hs) ?_
      refine J.aload_n dX9_consider_36 rfl rfl ?_
      refine J.iload_n dX9_consider_37 rfl rfl ?_
      refine J.putI fw_X9_70 rfl dX9_consider_38 (lt77 hs) (kk77 hs) ?_
      refine J.aload_n dX9_consider_41 rfl rfl ?_
      refine J.getR (r := 81) fl_X9_21 rfl dX9_consider_42 (lt77 hs) (kk77 hs) (rr77_5 hs) ?_
      refine J.aload_n dX9_consider_45 rfl rfl ?_
      refine J.getR (r := 82) fl_X9_24 rfl dX9_consider_46 (lt77 hs) (kk77 hs) (rr77_6 hs) ?_
      refine J.callSN (M' := mX11_copy) (index := 103) (bc := 0) (bs := 0) (bc' := 0) (bs' := 0) (st := []) [.ref (eB E + 81), .ref (eB E + 82)] nk_X9_103 cv_X11_copy dX9_consider_49 rfl rfl (Nat.le_of_ble_eq_true rfl) (kqv hW (fun I4 hW => ?_))
      exact J.retv dX9_consider_52 rfl hW
    · have hW := hW.2 hc3
      refine J.iload_n dX9_consider_15 rfl rfl ?_
      refine J.aload_n dX9_consider_16 rfl rfl ?_
      refine J.getI (x := I 77 8) fl_X9_70 rfl dX9_consider_17 (lt77 hs) (kk77 hs) rfl ?_
      refine J.ic_ne 52 dX9_consider_20 (by decide) (fun hc5 => ?_) (fun hc5 => ?_)
      · have hW := hW.2 hc5
        exact J.retv dX9_consider_52 rfl hW
      · have hW := hW.1 hc5
        refine J.iload_n dX9_consider_23 rfl rfl ?_
        refine J.aload_n dX9_consider_24 rfl rfl ?_
        refine J.getI (x := I 77 7) fl_X9_67 rfl dX9_consider_25 (lt77 hs) (kk77 hs) rfl ?_
        refine J.ic_ge 52 dX9_consider_28 (by decide) (fun hc6 => ?_) (fun hc6 => ?_)
        · have hW := hW.1 hc6
          exact J.retv dX9_consider_52 rfl hW
        · have hW := hW.2 hc6
          refine J.aload_n dX9_consider_31 rfl rfl ?_
          refine J.iload_n dX9_consider_32 rfl rfl ?_
          refine J.putI fw_X9_67 rfl dX9_consider_33 (lt77 hs) (kk77 hs) ?_
          refine J.aload_n dX9_consider_36 rfl rfl ?_
          refine J.iload_n dX9_consider_37 rfl rfl ?_
          refine J.putI fw_X9_70 rfl dX9_consider_38 (lt77 hs) (kk77 hs) ?_
          refine J.aload_n dX9_consider_41 rfl rfl ?_
          refine J.getR (r := 81) fl_X9_21 rfl dX9_consider_42 (lt77 hs) (kk77 hs) (rr77_5 hs) ?_
          refine J.aload_n dX9_consider_45 rfl rfl ?_
          refine J.getR (r := 82) fl_X9_24 rfl dX9_consider_46 (lt77 hs) (kk77 hs) (rr77_6 hs) ?_
          refine J.callSN (M' := mX11_copy) (index := 103) (bc := 0) (bs := 0) (bc' := 0) (bs' := 0) (st := []) [.ref (eB E + 81), .ref (eB E + 82)] nk_X9_103 cv_X11_copy dX9_consider_49 rfl rfl (Nat.le_of_ble_eq_true rfl) (kqv hW (fun I7 hW => ?_))
          exact J.retv dX9_consider_52 rfl hW
set_option maxRecDepth 100000 in
set_option maxHeartbeats 4000000 in
theorem w_X9_isOnTrial {E : Envt} {d : Nat} {Q : Pst} {h : mS} {I : mI} {L : mL} (hs : SL h) (x1 : Int32) (x2 : Int32) 
    (hW : J E mX9_isOnTrial d Q 0 0 2 [some (.ref (eB E + 77)), some (.int x1), some (.int x2), some (.int 0)] [] h I L) :
    CT E mX9_isOnTrial d 0 0 [.ref (eB E + 77), .int x1, .int x2] h I L Q := by
  refine CT.of (by decide) [some (.ref (eB E + 77)), some (.int x1), some (.int x2), none] rfl (Nat.le_of_ble_eq_true rfl) ?_
  refine J.iconst (v := 0) dX9_isOnTrial_0 (by decide) ?_
  refine J.istore_n (vs' := [some (.ref (eB E + 77)), some (.int x1), some (.int x2), some (.int 0)]) dX9_isOnTrial_1 rfl (by decide) rfl ?_
  exact hW
set_option maxRecDepth 100000 in
set_option maxHeartbeats 4000000 in
theorem w_X9_isOnTrial_2 {E : Envt} {d : Nat} {Q : Pst} {h : mS} {I : mI} {L : mL} (hs : SL h)    (x1 : Int32) (x2 : Int32) (x3 : Int32)
    (hW : (((x2 ≤ x3) → Q (some (.int 0)) h I L) ∧ (¬ (x2 ≤ x3) → (vp_in x3 4 ∧ ((((I 81 x3.toNatClampNeg) = x1) → Q (some (.int 1)) h I L) ∧ (¬ ((I 81 x3.toNatClampNeg) = x1) → J E mX9_isOnTrial d Q 0 0 2 [some (.ref (eB E + 77)), some (.int x1), some (.int x2), some (.int (x3 + 1))] [] h I L)))))) :
    J E mX9_isOnTrial d Q 0 0 2 [some (.ref (eB E + 77)), some (.int x1), some (.int x2), some (.int x3)] [] h I L := by
  refine J.iload_n dX9_isOnTrial_2 rfl rfl ?_
  refine J.iload_n dX9_isOnTrial_3 rfl rfl ?_
  refine J.ic_ge 25 dX9_isOnTrial_4 (by decide) (fun hc1 => ?_) (fun hc1 => ?_)
  · have hW := hW.1 hc1
    refine J.iconst (v := 0) dX9_isOnTrial_25 (by decide) ?_
    exact J.reti dX9_isOnTrial_26 rfl (bz_nar (Or.inl rfl)) hW
  · have hW := hW.2 hc1
    refine J.aload_n dX9_isOnTrial_7 rfl rfl ?_
    refine J.getR (r := 81) fl_X9_21 rfl dX9_isOnTrial_8 (lt77 hs) (kk77 hs) (rr77_5 hs) ?_
    refine J.iload_n dX9_isOnTrial_11 rfl rfl ?_
    obtain ⟨hb2, hW⟩ := hW
    refine J.iald (x := I 81 x3.toNatClampNeg) dX9_isOnTrial_12 (lt81 hs) (kk81 hs) hb2 rfl ?_
    refine J.iload_n dX9_isOnTrial_13 rfl rfl ?_
    refine J.ic_ne 19 dX9_isOnTrial_14 (by decide) (fun hc3 => ?_) (fun hc3 => ?_)
    · have hW := hW.2 hc3
      refine J.iinc (v := x3 + 1) (vs' := [some (.ref (eB E + 77)), some (.int x1), some (.int x2), some (.int (x3 + 1))]) dX9_isOnTrial_19 rfl (by rfl) (by decide) rfl ?_
      refine J.goto 2 dX9_isOnTrial_22 (by decide) ?_
      exact hW
    · have hW := hW.1 hc3
      refine J.iconst (v := 1) dX9_isOnTrial_17 (by decide) ?_
      exact J.reti dX9_isOnTrial_18 rfl (bz_nar (Or.inr rfl)) hW
set_option maxRecDepth 100000 in
set_option maxHeartbeats 4000000 in
theorem w_X9_extend {E : Envt} {d : Nat} {Q : Pst} {h : mS} {I : mI} {L : mL} (hs : SL h) (x1 : Int32) (x2 : Int32) 
    (hW : (vp_in (x1 - 1) 4 ∧ (∀ y2 : Int32, y2 = I 81 ((x1 - 1).toNatClampNeg) → (∀ y3 : Int32, y3 = (y2 * 8) + (I 81 0) → (((x1 ≤ 1) → (((x1 < 4) → J E mX9_extend (d + 3) Q 0 0 68 [some (.ref (eB E + 77)), some (.int x1), some (.int x2), some (.int y2), some (.int y3), some (.int ((I 81 0) + 1)), none] [] h I L) ∧ (¬ (x1 < 4) → Q none h I L))) ∧ (¬ (x1 ≤ 1) → (vp_in y3 64 ∧ ((((I 78 y3.toNatClampNeg) = (-1)) → (((x1 < 4) → J E mX9_extend (d + 3) Q 0 0 68 [some (.ref (eB E + 77)), some (.int x1), some (.int x2), some (.int y2), some (.int y3), some (.int ((I 81 0) + 1)), none] [] h I L) ∧ (¬ (x1 < 4) → Q none h I L))) ∧ (¬ ((I 78 y3.toNatClampNeg) = (-1)) → (CT E mX9_consider (d + 2) 0 0 [.ref (eB E + 77), .int x1, .int (x2 + (I 80 y3.toNatClampNeg))] h I L (qv h L fun I9 => (((x1 < 4) → J E mX9_extend (d + 3) Q 0 0 68 [some (.ref (eB E + 77)), some (.int x1), some (.int x2), some (.int y2), some (.int y3), some (.int ((I9 81 0) + 1)), none] [] h I9 L) ∧ (¬ (x1 < 4) → Q none h I9 L))))))))))))) :
    CT E mX9_extend (d + 3) 0 0 [.ref (eB E + 77), .int x1, .int x2] h I L Q := by
  refine CT.of (by decide) [some (.ref (eB E + 77)), some (.int x1), some (.int x2), none, none, none, none] rfl (Nat.le_of_ble_eq_true rfl) ?_
  refine J.aload_n dX9_extend_0 rfl rfl ?_
  refine J.getR (r := 81) fl_X9_21 rfl dX9_extend_1 (lt77 hs) (kk77 hs) (rr77_5 hs) ?_
  refine J.iload_n dX9_extend_4 rfl rfl ?_
  refine J.iconst (v := 1) dX9_extend_5 (by decide) ?_
  refine J.isub dX9_extend_6 ?_
  obtain ⟨hb1, hW⟩ := hW
  refine J.iald (x := I 81 ((x1 - 1).toNatClampNeg)) dX9_extend_7 (lt81 hs) (kk81 hs) hb1 rfl ?_
  refine J.topi (fun y2 hyy2 => ?_)
  have hW := hW y2 hyy2
  refine J.istore_n (vs' := [some (.ref (eB E + 77)), some (.int x1), some (.int x2), some (.int y2), none, none, none]) dX9_extend_8 rfl (by decide) rfl ?_
  refine J.iload_n dX9_extend_9 rfl rfl ?_
  refine J.bipush (v := 8) dX9_extend_10 (by decide) ?_
  refine J.imul dX9_extend_12 ?_
  refine J.aload_n dX9_extend_13 rfl rfl ?_
  refine J.getR (r := 81) fl_X9_21 rfl dX9_extend_14 (lt77 hs) (kk77 hs) (rr77_5 hs) ?_
  refine J.iconst (v := 0) dX9_extend_17 (by decide) ?_
  refine J.iald (x := I 81 0) dX9_extend_18 (lt81 hs) (kk81 hs) (by unfold vp_in; decide) rfl ?_
  refine J.iadd dX9_extend_19 ?_
  refine J.topi (fun y3 hyy3 => ?_)
  have hW := hW y3 hyy3
  refine J.istore (vs' := [some (.ref (eB E + 77)), some (.int x1), some (.int x2), some (.int y2), some (.int y3), none, none]) dX9_extend_20 (by decide) rfl ?_
  refine J.iload_n dX9_extend_22 rfl rfl ?_
  refine J.iconst (v := 1) dX9_extend_23 (by decide) ?_
  refine J.ic_le 52 dX9_extend_24 (by decide) (fun hc4 => ?_) (fun hc4 => ?_)
  · have hW := hW.1 hc4
    refine J.iload_n dX9_extend_52 rfl rfl ?_
    refine J.iconst (v := 4) dX9_extend_53 (by decide) ?_
    refine J.ic_lt 58 dX9_extend_54 (by decide) (fun hc5 => ?_) (fun hc5 => ?_)
    · have hW := hW.1 hc5
      refine J.aload_n dX9_extend_58 rfl rfl ?_
      refine J.getR (r := 81) fl_X9_21 rfl dX9_extend_59 (lt77 hs) (kk77 hs) (rr77_5 hs) ?_
      refine J.iconst (v := 0) dX9_extend_62 (by decide) ?_
      refine J.iald (x := I 81 0) dX9_extend_63 (lt81 hs) (kk81 hs) (by unfold vp_in; decide) rfl ?_
      refine J.iconst (v := 1) dX9_extend_64 (by decide) ?_
      refine J.iadd dX9_extend_65 ?_
      refine J.istore (vs' := [some (.ref (eB E + 77)), some (.int x1), some (.int x2), some (.int y2), some (.int y3), some (.int ((I 81 0) + 1)), none]) dX9_extend_66 (by decide) rfl ?_
      exact hW
    · have hW := hW.2 hc5
      exact J.retv dX9_extend_57 rfl hW
  · have hW := hW.2 hc4
    refine J.aload_n dX9_extend_27 rfl rfl ?_
    refine J.getR (r := 78) fl_X9_9 rfl dX9_extend_28 (lt77 hs) (kk77 hs) (rr77_2 hs) ?_
    refine J.iload dX9_extend_31 rfl ?_
    obtain ⟨hb6, hW⟩ := hW
    refine J.iald (x := I 78 y3.toNatClampNeg) dX9_extend_33 (lt78 hs) (kk78 hs) hb6 rfl ?_
    refine J.iconst (v := (-1)) dX9_extend_34 (by decide) ?_
    refine J.ic_eq 52 dX9_extend_35 (by decide) (fun hc7 => ?_) (fun hc7 => ?_)
    · have hW := hW.1 hc7
      refine J.iload_n dX9_extend_52 rfl rfl ?_
      refine J.iconst (v := 4) dX9_extend_53 (by decide) ?_
      refine J.ic_lt 58 dX9_extend_54 (by decide) (fun hc8 => ?_) (fun hc8 => ?_)
      · have hW := hW.1 hc8
        refine J.aload_n dX9_extend_58 rfl rfl ?_
        refine J.getR (r := 81) fl_X9_21 rfl dX9_extend_59 (lt77 hs) (kk77 hs) (rr77_5 hs) ?_
        refine J.iconst (v := 0) dX9_extend_62 (by decide) ?_
        refine J.iald (x := I 81 0) dX9_extend_63 (lt81 hs) (kk81 hs) (by unfold vp_in; decide) rfl ?_
        refine J.iconst (v := 1) dX9_extend_64 (by decide) ?_
        refine J.iadd dX9_extend_65 ?_
        refine J.istore (vs' := [some (.ref (eB E + 77)), some (.int x1), some (.int x2), some (.int y2), some (.int y3), some (.int ((I 81 0) + 1)), none]) dX9_extend_66 (by decide) rfl ?_
        exact hW
      · have hW := hW.2 hc8
        exact J.retv dX9_extend_57 rfl hW
    · have hW := hW.2 hc7
      refine J.aload_n dX9_extend_38 rfl rfl ?_
      refine J.iload_n dX9_extend_39 rfl rfl ?_
      refine J.iload_n dX9_extend_40 rfl rfl ?_
      refine J.aload_n dX9_extend_41 rfl rfl ?_
      refine J.getR (r := 80) fl_X9_18 rfl dX9_extend_42 (lt77 hs) (kk77 hs) (rr77_4 hs) ?_
      refine J.iload dX9_extend_45 rfl ?_
      refine J.iald (x := I 80 y3.toNatClampNeg) dX9_extend_47 (lt80 hs) (kk80 hs) hb6 rfl ?_
      refine J.iadd dX9_extend_48 ?_
      refine J.callV (M' := mX9_consider) (index := 96) (bc := 0) (bs := 0) (bc' := 0) (bs' := 0) (st := []) [.int x1, .int (x2 + (I 80 y3.toNatClampNeg))] ml_X9_96 cv_X9_consider dX9_extend_49 (lt77 hs) (kk77 hs) (by decide) rfl rfl rfl rfl (Nat.le_of_ble_eq_true rfl) (kqv hW (fun I9 hW => ?_))
      refine J.iload_n dX9_extend_52 rfl rfl ?_
      refine J.iconst (v := 4) dX9_extend_53 (by decide) ?_
      refine J.ic_lt 58 dX9_extend_54 (by decide) (fun hc10 => ?_) (fun hc10 => ?_)
      · have hW := hW.1 hc10
        refine J.aload_n dX9_extend_58 rfl rfl ?_
        refine J.getR (r := 81) fl_X9_21 rfl dX9_extend_59 (lt77 hs) (kk77 hs) (rr77_5 hs) ?_
        refine J.iconst (v := 0) dX9_extend_62 (by decide) ?_
        refine J.iald (x := I9 81 0) dX9_extend_63 (lt81 hs) (kk81 hs) (by unfold vp_in; decide) rfl ?_
        refine J.iconst (v := 1) dX9_extend_64 (by decide) ?_
        refine J.iadd dX9_extend_65 ?_
        refine J.istore (vs' := [some (.ref (eB E + 77)), some (.int x1), some (.int x2), some (.int y2), some (.int y3), some (.int ((I9 81 0) + 1)), none]) dX9_extend_66 (by decide) rfl ?_
        exact hW
      · have hW := hW.2 hc10
        exact J.retv dX9_extend_57 rfl hW
set_option maxRecDepth 100000 in
set_option maxHeartbeats 4000000 in
theorem w_X9_extend_68 {E : Envt} {d : Nat} {Q : Pst} {h : mS} {I : mI} {L : mL} (hs : SL h)    (x1 : Int32) (x2 : Int32) (x3 : Int32) (x4 : Int32) (x5 : Int32)
    (hW : ((((I 2 0) ≤ x5) → Q none h I L) ∧ (¬ ((I 2 0) ≤ x5) → (vp_in ((x3 * 8) + x5) 64 ∧ ((((I 78 (((x3 * 8) + x5).toNatClampNeg)) = (-1)) → J E mX9_extend (d + 3) Q 0 0 68 [some (.ref (eB E + 77)), some (.int x1), some (.int x2), some (.int x3), some (.int x4), some (.int (x5 + 1)), none] [] h I L) ∧ (¬ ((I 78 (((x3 * 8) + x5).toNatClampNeg)) = (-1)) → (CT E mX9_isOnTrial (d + 2) 0 0 [.ref (eB E + 77), .int x5, .int x1] h I L (qi h L fun r5 I4 => (((r5 = 0) → (vp_in x1 4 ∧ (CT E mX9_extend (d + 2) 0 0 [.ref (eB E + 77), .int (x1 + 1), .int (x2 + (I4 80 (((x3 * 8) + x5).toNatClampNeg)))] h (uI I4 81 x1.toNatClampNeg x5) L (qv h L fun I8 => J E mX9_extend (d + 3) Q 0 0 68 [some (.ref (eB E + 77)), some (.int x1), some (.int x2), some (.int x3), some (.int x4), some (.int (x5 + 1)), none] [] h I8 L)))) ∧ (¬ (r5 = 0) → J E mX9_extend (d + 3) Q 0 0 68 [some (.ref (eB E + 77)), some (.int x1), some (.int x2), some (.int x3), some (.int x4), some (.int (x5 + 1)), none] [] h I4 L)))))))))) :
    J E mX9_extend (d + 3) Q 0 0 68 [some (.ref (eB E + 77)), some (.int x1), some (.int x2), some (.int x3), some (.int x4), some (.int x5), none] [] h I L := by
  refine J.iload dX9_extend_68 rfl ?_
  refine J.aload_n dX9_extend_70 rfl rfl ?_
  refine J.getR (r := 1) fl_X9_27 rfl dX9_extend_71 (lt77 hs) (kk77 hs) (rr77_0 hs) ?_
  refine J.getR (r := 2) fl_X9_72 rfl dX9_extend_74 (lt1 hs) (kk1 hs) (rr1_1 hs) ?_
  refine J.getI (x := I 2 0) fl_X9_78 rfl dX9_extend_77 (lt2 hs) (kk2 hs) rfl ?_
  refine J.ic_ge 143 dX9_extend_80 (by decide) (fun hc1 => ?_) (fun hc1 => ?_)
  · have hW := hW.1 hc1
    exact J.retv dX9_extend_143 rfl hW
  · have hW := hW.2 hc1
    refine J.iload_n dX9_extend_83 rfl rfl ?_
    refine J.bipush (v := 8) dX9_extend_84 (by decide) ?_
    refine J.imul dX9_extend_86 ?_
    refine J.iload dX9_extend_87 rfl ?_
    refine J.iadd dX9_extend_89 ?_
    refine J.istore (vs' := [some (.ref (eB E + 77)), some (.int x1), some (.int x2), some (.int x3), some (.int x4), some (.int x5), some (.int ((x3 * 8) + x5))]) dX9_extend_90 (by decide) rfl ?_
    refine J.aload_n dX9_extend_92 rfl rfl ?_
    refine J.getR (r := 78) fl_X9_9 rfl dX9_extend_93 (lt77 hs) (kk77 hs) (rr77_2 hs) ?_
    refine J.iload dX9_extend_96 rfl ?_
    obtain ⟨hb2, hW⟩ := hW
    refine J.iald (x := I 78 (((x3 * 8) + x5).toNatClampNeg)) dX9_extend_98 (lt78 hs) (kk78 hs) hb2 rfl ?_
    refine J.iconst (v := (-1)) dX9_extend_99 (by decide) ?_
    refine J.ic_eq 137 dX9_extend_100 (by decide) (fun hc3 => ?_) (fun hc3 => ?_)
    · have hW := hW.1 hc3
      refine J.iinc (v := x5 + 1) (vs' := [some (.ref (eB E + 77)), some (.int x1), some (.int x2), some (.int x3), some (.int x4), some (.int (x5 + 1)), some (.int ((x3 * 8) + x5))]) dX9_extend_137 rfl (by rfl) (by decide) rfl ?_
      refine J.goto 68 dX9_extend_140 (by decide) ?_
      exact J.mask [true, true, true, true, true, true, false] rfl hW
    · have hW := hW.2 hc3
      refine J.aload_n dX9_extend_103 rfl rfl ?_
      refine J.iload dX9_extend_104 rfl ?_
      refine J.iload_n dX9_extend_106 rfl rfl ?_
      refine J.callV (M' := mX9_isOnTrial) (index := 99) (bc := 0) (bs := 0) (bc' := 0) (bs' := 0) (st := []) [.int x5, .int x1] ml_X9_99 cv_X9_isOnTrial dX9_extend_107 (lt77 hs) (kk77 hs) (by decide) rfl rfl rfl rfl (Nat.le_of_ble_eq_true rfl) (kqi hW (fun r5 I4 hW => ?_))
      refine J.if_ne 137 dX9_extend_110 (by decide) (fun hc6 => ?_) (fun hc6 => ?_)
      · have hW := hW.2 hc6
        refine J.iinc (v := x5 + 1) (vs' := [some (.ref (eB E + 77)), some (.int x1), some (.int x2), some (.int x3), some (.int x4), some (.int (x5 + 1)), some (.int ((x3 * 8) + x5))]) dX9_extend_137 rfl (by rfl) (by decide) rfl ?_
        refine J.goto 68 dX9_extend_140 (by decide) ?_
        exact J.mask [true, true, true, true, true, true, false] rfl hW
      · have hW := hW.1 hc6
        refine J.aload_n dX9_extend_113 rfl rfl ?_
        refine J.getR (r := 81) fl_X9_21 rfl dX9_extend_114 (lt77 hs) (kk77 hs) (rr77_5 hs) ?_
        refine J.iload_n dX9_extend_117 rfl rfl ?_
        refine J.iload dX9_extend_118 rfl ?_
        obtain ⟨hb7, hW⟩ := hW
        refine J.iast dX9_extend_120 (lt81 hs) (kk81 hs) hb7 ?_
        refine J.aload_n dX9_extend_121 rfl rfl ?_
        refine J.iload_n dX9_extend_122 rfl rfl ?_
        refine J.iconst (v := 1) dX9_extend_123 (by decide) ?_
        refine J.iadd dX9_extend_124 ?_
        refine J.iload_n dX9_extend_125 rfl rfl ?_
        refine J.aload_n dX9_extend_126 rfl rfl ?_
        refine J.getR (r := 80) fl_X9_18 rfl dX9_extend_127 (lt77 hs) (kk77 hs) (rr77_4 hs) ?_
        refine J.iload dX9_extend_130 rfl ?_
        refine J.iald (x := I4 80 (((x3 * 8) + x5).toNatClampNeg)) dX9_extend_132 (lt80 hs) (kk80 hs) hb2 rfl ?_
        refine J.iadd dX9_extend_133 ?_
        refine J.callV (M' := mX9_extend) (index := 83) (bc := 0) (bs := 0) (bc' := 0) (bs' := 0) (st := []) [.int (x1 + 1), .int (x2 + (I4 80 (((x3 * 8) + x5).toNatClampNeg)))] ml_X9_83 cv_X9_extend dX9_extend_134 (lt77 hs) (kk77 hs) (by decide) rfl rfl rfl rfl (Nat.le_of_ble_eq_true rfl) (kqv hW (fun I8 hW => ?_))
        refine J.iinc (v := x5 + 1) (vs' := [some (.ref (eB E + 77)), some (.int x1), some (.int x2), some (.int x3), some (.int x4), some (.int (x5 + 1)), some (.int ((x3 * 8) + x5))]) dX9_extend_137 rfl (by rfl) (by decide) rfl ?_
        refine J.goto 68 dX9_extend_140 (by decide) ?_
        exact J.mask [true, true, true, true, true, true, false] rfl hW
set_option maxRecDepth 100000 in
set_option maxHeartbeats 4000000 in
theorem w_X9_search {E : Envt} {d : Nat} {Q : Pst} {h : mS} {I : mI} {L : mL} (hs : SL h)  
    (hW : (CT E mJ7_fill_53178 (d + 3) 0 0 [.ref (eB E + 78), .int (-1)] h I L (qv h L fun I1 => J E mX9_search (d + 4) Q 0 0 10 [some (.ref (eB E + 77)), some (.int 0), none] [] h I1 L))) :
    CT E mX9_search (d + 4) 0 0 [.ref (eB E + 77)] h I L Q := by
  refine CT.of (by decide) [some (.ref (eB E + 77)), none, none] rfl (Nat.le_of_ble_eq_true rfl) ?_
  refine J.aload_n dX9_search_0 rfl rfl ?_
  refine J.getR (r := 78) fl_X9_9 rfl dX9_search_1 (lt77 hs) (kk77 hs) (rr77_2 hs) ?_
  refine J.iconst (v := (-1)) dX9_search_4 (by decide) ?_
  refine J.callS (M' := mJ7_fill_53178) (index := 35) (bc := 0) (bs := 0) (bc' := 0) (bs' := 0) (st := []) [.ref (eB E + 78), .int (-1)] ml_X9_35 cv_J7_fill_53178 dX9_search_5 rfl rfl (Nat.le_of_ble_eq_true rfl) (kqv hW (fun I1 hW => ?_))
  refine J.iconst (v := 0) dX9_search_8 (by decide) ?_
  refine J.istore_n (vs' := [some (.ref (eB E + 77)), some (.int 0), none]) dX9_search_9 rfl (by decide) rfl ?_
  exact hW
set_option maxRecDepth 100000 in
set_option maxHeartbeats 4000000 in
theorem w_X9_search_10 {E : Envt} {d : Nat} {Q : Pst} {h : mS} {I : mI} {L : mL} (hs : SL h)    (x1 : Int32)
    (hW : ((((I 65 4) ≤ x1) → J E mX9_search (d + 4) Q 0 0 111 [some (.ref (eB E + 77)), some (.int 0), none] [] h (uI (uI I 77 7 0) 77 8 0) L) ∧ (¬ ((I 65 4) ≤ x1) → J E mX9_search (d + 4) Q 0 0 23 [some (.ref (eB E + 77)), some (.int x1), some (.int 0)] [] h I L))) :
    J E mX9_search (d + 4) Q 0 0 10 [some (.ref (eB E + 77)), some (.int x1), none] [] h I L := by
  refine J.iload_n dX9_search_10 rfl rfl ?_
  refine J.aload_n dX9_search_11 rfl rfl ?_
  refine J.getR (r := 65) fl_X9_31 rfl dX9_search_12 (lt77 hs) (kk77 hs) (rr77_1 hs) ?_
  refine J.getI (x := I 65 4) fl_X9_41 rfl dX9_search_15 (lt65 hs) (kk65 hs) rfl ?_
  refine J.ic_ge 99 dX9_search_18 (by decide) (fun hc1 => ?_) (fun hc1 => ?_)
  · have hW := hW.1 hc1
    refine J.aload_n dX9_search_99 rfl rfl ?_
    refine J.iconst (v := 0) dX9_search_100 (by decide) ?_
    refine J.putI fw_X9_67 rfl dX9_search_101 (lt77 hs) (kk77 hs) ?_
    refine J.aload_n dX9_search_104 rfl rfl ?_
    refine J.iconst (v := 0) dX9_search_105 (by decide) ?_
    refine J.putI fw_X9_70 rfl dX9_search_106 (lt77 hs) (kk77 hs) ?_
    refine J.iconst (v := 0) dX9_search_109 (by decide) ?_
    refine J.istore_n (vs' := [some (.ref (eB E + 77)), some (.int 0), none]) dX9_search_110 rfl (by decide) rfl ?_
    exact hW
  · have hW := hW.2 hc1
    refine J.iconst (v := 0) dX9_search_21 (by decide) ?_
    refine J.istore_n (vs' := [some (.ref (eB E + 77)), some (.int x1), some (.int 0)]) dX9_search_22 rfl (by decide) rfl ?_
    exact hW
set_option maxRecDepth 100000 in
set_option maxHeartbeats 4000000 in
theorem w_X9_search_23 {E : Envt} {d : Nat} {Q : Pst} {h : mS} {I : mI} {L : mL} (hs : SL h)    (x1 : Int32) (x2 : Int32)
    (hW : ((((I 65 5) ≤ x2) → J E mX9_search (d + 4) Q 0 0 10 [some (.ref (eB E + 77)), some (.int (x1 + 1)), none] [] h I L) ∧ (¬ ((I 65 5) ≤ x2) → (vp_in ((x1 * 8) + x2) 64 ∧ ((((I 68 (((x1 * 8) + x2).toNatClampNeg)) = 0) → J E mX9_search (d + 4) Q 0 0 23 [some (.ref (eB E + 77)), some (.int x1), some (.int (x2 + 1))] [] h I L) ∧ (¬ ((I 68 (((x1 * 8) + x2).toNatClampNeg)) = 0) → (vp_in x1 8 ∧ (vp_in x2 8 ∧ (CT E mX9_offer (d + 3) 0 0 [.ref (eB E + 77), .int (I 66 x1.toNatClampNeg), .int (I 67 x2.toNatClampNeg), .int (I 69 (((x1 * 8) + x2).toNatClampNeg))] h I L (qv h L fun I6 => J E mX9_search (d + 4) Q 0 0 23 [some (.ref (eB E + 77)), some (.int x1), some (.int (x2 + 1))] [] h I6 L)))))))))) :
    J E mX9_search (d + 4) Q 0 0 23 [some (.ref (eB E + 77)), some (.int x1), some (.int x2)] [] h I L := by
  refine J.iload_n dX9_search_23 rfl rfl ?_
  refine J.aload_n dX9_search_24 rfl rfl ?_
  refine J.getR (r := 65) fl_X9_31 rfl dX9_search_25 (lt77 hs) (kk77 hs) (rr77_1 hs) ?_
  refine J.getI (x := I 65 5) fl_X9_47 rfl dX9_search_28 (lt65 hs) (kk65 hs) rfl ?_
  refine J.ic_ge 93 dX9_search_31 (by decide) (fun hc1 => ?_) (fun hc1 => ?_)
  · have hW := hW.1 hc1
    refine J.iinc (v := x1 + 1) (vs' := [some (.ref (eB E + 77)), some (.int (x1 + 1)), some (.int x2)]) dX9_search_93 rfl (by rfl) (by decide) rfl ?_
    refine J.goto 10 dX9_search_96 (by decide) ?_
    exact J.mask [true, true, false] rfl hW
  · have hW := hW.2 hc1
    refine J.aload_n dX9_search_34 rfl rfl ?_
    refine J.getR (r := 65) fl_X9_31 rfl dX9_search_35 (lt77 hs) (kk77 hs) (rr77_1 hs) ?_
    refine J.getR (r := 68) fl_X9_50 rfl dX9_search_38 (lt65 hs) (kk65 hs) (rr65_6 hs) ?_
    refine J.iload_n dX9_search_41 rfl rfl ?_
    refine J.bipush (v := 8) dX9_search_42 (by decide) ?_
    refine J.imul dX9_search_44 ?_
    refine J.iload_n dX9_search_45 rfl rfl ?_
    refine J.iadd dX9_search_46 ?_
    obtain ⟨hb2, hW⟩ := hW
    refine J.zald (x := I 68 (((x1 * 8) + x2).toNatClampNeg)) dX9_search_47 (lt68 hs) (kk68 hs) hb2 rfl ?_
    refine J.if_eq 87 dX9_search_48 (by decide) (fun hc3 => ?_) (fun hc3 => ?_)
    · have hW := hW.1 hc3
      refine J.iinc (v := x2 + 1) (vs' := [some (.ref (eB E + 77)), some (.int x1), some (.int (x2 + 1))]) dX9_search_87 rfl (by rfl) (by decide) rfl ?_
      refine J.goto 23 dX9_search_90 (by decide) ?_
      exact hW
    · have hW := hW.2 hc3
      refine J.aload_n dX9_search_51 rfl rfl ?_
      refine J.aload_n dX9_search_52 rfl rfl ?_
      refine J.getR (r := 65) fl_X9_31 rfl dX9_search_53 (lt77 hs) (kk77 hs) (rr77_1 hs) ?_
      refine J.getR (r := 66) fl_X9_54 rfl dX9_search_56 (lt65 hs) (kk65 hs) (rr65_2 hs) ?_
      refine J.iload_n dX9_search_59 rfl rfl ?_
      obtain ⟨hb4, hW⟩ := hW
      refine J.iald (x := I 66 x1.toNatClampNeg) dX9_search_60 (lt66 hs) (kk66 hs) hb4 rfl ?_
      refine J.aload_n dX9_search_61 rfl rfl ?_
      refine J.getR (r := 65) fl_X9_31 rfl dX9_search_62 (lt77 hs) (kk77 hs) (rr77_1 hs) ?_
      refine J.getR (r := 67) fl_X9_57 rfl dX9_search_65 (lt65 hs) (kk65 hs) (rr65_3 hs) ?_
      refine J.iload_n dX9_search_68 rfl rfl ?_
      obtain ⟨hb5, hW⟩ := hW
      refine J.iald (x := I 67 x2.toNatClampNeg) dX9_search_69 (lt67 hs) (kk67 hs) hb5 rfl ?_
      refine J.aload_n dX9_search_70 rfl rfl ?_
      refine J.getR (r := 65) fl_X9_31 rfl dX9_search_71 (lt77 hs) (kk77 hs) (rr77_1 hs) ?_
      refine J.getR (r := 69) fl_X9_60 rfl dX9_search_74 (lt65 hs) (kk65 hs) (rr65_7 hs) ?_
      refine J.iload_n dX9_search_77 rfl rfl ?_
      refine J.bipush (v := 8) dX9_search_78 (by decide) ?_
      refine J.imul dX9_search_80 ?_
      refine J.iload_n dX9_search_81 rfl rfl ?_
      refine J.iadd dX9_search_82 ?_
      refine J.iald (x := I 69 (((x1 * 8) + x2).toNatClampNeg)) dX9_search_83 (lt69 hs) (kk69 hs) hb2 rfl ?_
      refine J.callV (M' := mX9_offer) (index := 63) (bc := 0) (bs := 0) (bc' := 0) (bs' := 0) (st := []) [.int (I 66 x1.toNatClampNeg), .int (I 67 x2.toNatClampNeg), .int (I 69 (((x1 * 8) + x2).toNatClampNeg))] ml_X9_63 cv_X9_offer dX9_search_84 (lt77 hs) (kk77 hs) (by decide) rfl rfl rfl rfl (Nat.le_of_ble_eq_true rfl) (kqv hW (fun I6 hW => ?_))
      refine J.iinc (v := x2 + 1) (vs' := [some (.ref (eB E + 77)), some (.int x1), some (.int (x2 + 1))]) dX9_search_87 rfl (by rfl) (by decide) rfl ?_
      refine J.goto 23 dX9_search_90 (by decide) ?_
      exact hW
set_option maxRecDepth 100000 in
set_option maxHeartbeats 4000000 in
theorem w_X9_search_111 {E : Envt} {d : Nat} {Q : Pst} {h : mS} {I : mI} {L : mL} (hs : SL h)    (x1 : Int32)
    (hW : ((((I 2 0) ≤ x1) → Q none h I L) ∧ (¬ ((I 2 0) ≤ x1) → (CT E mX9_extend (d + 3) 0 0 [.ref (eB E + 77), .int 1, .int 0] h (uI I 81 0 x1) L (qv h L fun I2 => J E mX9_search (d + 4) Q 0 0 111 [some (.ref (eB E + 77)), some (.int (x1 + 1)), none] [] h I2 L))))) :
    J E mX9_search (d + 4) Q 0 0 111 [some (.ref (eB E + 77)), some (.int x1), none] [] h I L := by
  refine J.iload_n dX9_search_111 rfl rfl ?_
  refine J.aload_n dX9_search_112 rfl rfl ?_
  refine J.getR (r := 1) fl_X9_27 rfl dX9_search_113 (lt77 hs) (kk77 hs) (rr77_0 hs) ?_
  refine J.getR (r := 2) fl_X9_72 rfl dX9_search_116 (lt1 hs) (kk1 hs) (rr1_1 hs) ?_
  refine J.getI (x := I 2 0) fl_X9_78 rfl dX9_search_119 (lt2 hs) (kk2 hs) rfl ?_
  refine J.ic_ge 144 dX9_search_122 (by decide) (fun hc1 => ?_) (fun hc1 => ?_)
  · have hW := hW.1 hc1
    exact J.retv dX9_search_144 rfl hW
  · have hW := hW.2 hc1
    refine J.aload_n dX9_search_125 rfl rfl ?_
    refine J.getR (r := 81) fl_X9_21 rfl dX9_search_126 (lt77 hs) (kk77 hs) (rr77_5 hs) ?_
    refine J.iconst (v := 0) dX9_search_129 (by decide) ?_
    refine J.iload_n dX9_search_130 rfl rfl ?_
    refine J.iast dX9_search_131 (lt81 hs) (kk81 hs) (by unfold vp_in; decide) ?_
    refine J.aload_n dX9_search_132 rfl rfl ?_
    refine J.iconst (v := 1) dX9_search_133 (by decide) ?_
    refine J.iconst (v := 0) dX9_search_134 (by decide) ?_
    refine J.callV (M' := mX9_extend) (index := 83) (bc := 0) (bs := 0) (bc' := 0) (bs' := 0) (st := []) [.int 1, .int 0] ml_X9_83 cv_X9_extend dX9_search_135 (lt77 hs) (kk77 hs) (by decide) rfl rfl rfl rfl (Nat.le_of_ble_eq_true rfl) (kqv hW (fun I2 hW => ?_))
    refine J.iinc (v := x1 + 1) (vs' := [some (.ref (eB E + 77)), some (.int (x1 + 1)), none]) dX9_search_138 rfl (by rfl) (by decide) rfl ?_
    refine J.goto 111 dX9_search_141 (by decide) ?_
    exact hW
