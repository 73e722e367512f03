set_option maxRecDepth 100000 in
set_option maxHeartbeats 4000000 in
theorem w_X12_isWord {E : Envt} {d : Nat} {Q : Pst} {h : mS} {I : mI} {L : mL} (hs : SL h) (x1 : Int64) 
    (hW : Q (some (.int (bI (((I 83 48) = 2) ∧ ((lg_cmp (L 83 50) x1) = 0))))) h I L) :
    CT E mX12_isWord d 0 0 [.ref (eB E + 83), .long x1] h I L Q := by
  refine CT.of (by decide) [some (.ref (eB E + 83)), some (.long x1), none] rfl (Nat.le_of_ble_eq_true rfl) ?_
  refine J.aload_n dX12_isWord_0 rfl rfl ?_
  refine J.getI (x := I 83 48) fl_X12_304 rfl dX12_isWord_1 (lt83 hs) (kk83 hs) rfl ?_
  refine J.iconst (v := 2) dX12_isWord_4 (by decide) ?_
  have hj : J E mX12_isWord d Q 0 0 22 [some (.ref (eB E + 83)), some (.long x1), none] [.int (bI (((I 83 48) = 2) ∧ ((lg_cmp (L 83 50) x1) = 0)))] h I L := by
    exact J.reti dX12_isWord_22 rfl (bz_nar (bI_bz _)) hW
  refine J.ic_ne 21 dX12_isWord_5 (by decide) (fun hc1 => ?_) (fun hc1 => ?_)
  · refine J.iconst (v := 0) dX12_isWord_21 (by decide) ?_
    rw [show bI (((I 83 48) = 2) ∧ ((lg_cmp (L 83 50) x1) = 0)) = 0 from bI_f (by simp only [eq_false hc1, and_true, true_and, and_false, false_and, or_true, true_or, or_false, false_or, not_true_eq_false, not_false_eq_true])] at hj
    exact hj
  · refine J.aload_n dX12_isWord_8 rfl rfl ?_
    refine J.getL (x := L 83 50) fl_X12_300 rfl dX12_isWord_9 (lt83 hs) (kk83 hs) rfl ?_
    refine J.lload_n dX12_isWord_12 rfl rfl ?_
    refine J.lcmp dX12_isWord_13 ?_
    refine J.if_ne 21 dX12_isWord_14 (by decide) (fun hc2 => ?_) (fun hc2 => ?_)
    · refine J.iconst (v := 0) dX12_isWord_21 (by decide) ?_
      rw [show bI (((I 83 48) = 2) ∧ ((lg_cmp (L 83 50) x1) = 0)) = 0 from bI_f (by simp only [eq_true hc1, eq_false hc2, and_true, true_and, and_false, false_and, or_true, true_or, or_false, false_or, not_true_eq_false, not_false_eq_true])] at hj
      exact hj
    · refine J.iconst (v := 1) dX12_isWord_17 (by decide) ?_
      refine J.goto 22 dX12_isWord_18 (by decide) ?_
      rw [show bI (((I 83 48) = 2) ∧ ((lg_cmp (L 83 50) x1) = 0)) = 1 from bI_t (by simp only [eq_true hc1, eq_true hc2, and_true, true_and, and_false, false_and, or_true, true_or, or_false, false_or, not_true_eq_false, not_false_eq_true])] at hj
      exact hj
set_option maxRecDepth 100000 in
set_option maxHeartbeats 4000000 in
theorem w_X12_wrong {E : Envt} {d : Nat} {Q : Pst} {h : mS} {I : mI} {L : mL} (hs : SL h)  
    (hW : Q (some (.int 0)) h (uI I 83 51 (I 83 47)) L) :
    CT E mX12_wrong d 0 0 [.ref (eB E + 83)] h I L Q := by
  refine CT.of (by decide) [some (.ref (eB E + 83))] rfl (Nat.le_of_ble_eq_true rfl) ?_
  refine J.aload_n dX12_wrong_0 rfl rfl ?_
  refine J.aload_n dX12_wrong_1 rfl rfl ?_
  refine J.getI (x := I 83 47) fl_X12_294 rfl dX12_wrong_2 (lt83 hs) (kk83 hs) rfl ?_
  refine J.putI fw_X12_307 rfl dX12_wrong_5 (lt83 hs) (kk83 hs) ?_
  refine J.iconst (v := 0) dX12_wrong_8 (by decide) ?_
  exact J.reti dX12_wrong_9 rfl (bz_nar (Or.inl rfl)) hW
set_option maxRecDepth 100000 in
set_option maxHeartbeats 4000000 in
theorem w_X12_later {E : Envt} {d : Nat} {Q : Pst} {h : mS} {I : mI} {L : mL} (hs : SL h) (x1 : Int32) (x2 : Int32) 
    (hW : ((((I 83 52) = 0) → Q none h (uI (uI I 83 52 x1) 83 53 x2) L) ∧ (¬ ((I 83 52) = 0) → Q none h I L))) :
    CT E mX12_later d 0 0 [.ref (eB E + 83), .int x1, .int x2] h I L Q := by
  refine CT.of (by decide) [some (.ref (eB E + 83)), some (.int x1), some (.int x2)] rfl (Nat.le_of_ble_eq_true rfl) ?_
  refine J.aload_n dX12_later_0 rfl rfl ?_
  refine J.getI (x := I 83 52) fl_X12_310 rfl dX12_later_1 (lt83 hs) (kk83 hs) rfl ?_
  refine J.if_ne 17 dX12_later_4 (by decide) (fun hc1 => ?_) (fun hc1 => ?_)
  · have hW := hW.2 hc1
    exact J.retv dX12_later_17 rfl hW
  · have hW := hW.1 hc1
    refine J.aload_n dX12_later_7 rfl rfl ?_
    refine J.iload_n dX12_later_8 rfl rfl ?_
    refine J.putI fw_X12_310 rfl dX12_later_9 (lt83 hs) (kk83 hs) ?_
    refine J.aload_n dX12_later_12 rfl rfl ?_
    refine J.iload_n dX12_later_13 rfl rfl ?_
    refine J.putI fw_X12_313 rfl dX12_later_14 (lt83 hs) (kk83 hs) ?_
    exact J.retv dX12_later_17 rfl hW
set_option maxRecDepth 100000 in
set_option maxHeartbeats 4000000 in
theorem w_X12_need {E : Envt} {d : Nat} {Q : Pst} {h : mS} {I : mI} {L : mL} (hs : SL h) (x1 : Int32) 
    (hW : ((((I 83 48) = 4) → ((((I 83 49) = x1) → (CT E mX12_token (d + 1) 0 0 [.ref (eB E + 83)] h I L (qvL h fun I5 L6 => Q (some (.int 1)) h I5 L6))) ∧ (¬ ((I 83 49) = x1) → (CT E mX12_wrong (d + 1) 0 0 [.ref (eB E + 83)] h I L (qi h L fun r8 I7 => (bz r8 ∧ Q (some (.int r8)) h I7 L)))))) ∧ (¬ ((I 83 48) = 4) → (CT E mX12_wrong (d + 1) 0 0 [.ref (eB E + 83)] h I L (qi h L fun r3 I2 => (bz r3 ∧ Q (some (.int r3)) h I2 L)))))) :
    CT E mX12_need (d + 2) 0 0 [.ref (eB E + 83), .int x1] h I L Q := by
  refine CT.of (by decide) [some (.ref (eB E + 83)), some (.int x1)] rfl (Nat.le_of_ble_eq_true rfl) ?_
  refine J.aload_n dX12_need_0 rfl rfl ?_
  refine J.getI (x := I 83 48) fl_X12_304 rfl dX12_need_1 (lt83 hs) (kk83 hs) rfl ?_
  refine J.iconst (v := 4) dX12_need_4 (by decide) ?_
  refine J.ic_ne 16 dX12_need_5 (by decide) (fun hc1 => ?_) (fun hc1 => ?_)
  · have hW := hW.2 hc1
    refine J.aload_n dX12_need_16 rfl rfl ?_
    refine J.callV (M' := mX12_wrong) (index := 316) (bc := 0) (bs := 0) (bc' := 0) (bs' := 0) (st := []) [] ml_X12_316 cv_X12_wrong dX12_need_17 (lt83 hs) (kk83 hs) (by decide) rfl rfl rfl rfl (Nat.le_of_ble_eq_true rfl) (kqi hW (fun r3 I2 hW => ?_))
    obtain ⟨hz, hW⟩ := hW
    exact J.reti dX12_need_20 rfl (bz_nar hz) hW
  · have hW := hW.1 hc1
    refine J.aload_n dX12_need_8 rfl rfl ?_
    refine J.getI (x := I 83 49) fl_X12_297 rfl dX12_need_9 (lt83 hs) (kk83 hs) rfl ?_
    refine J.iload_n dX12_need_12 rfl rfl ?_
    refine J.ic_eq 21 dX12_need_13 (by decide) (fun hc4 => ?_) (fun hc4 => ?_)
    · have hW := hW.1 hc4
      refine J.aload_n dX12_need_21 rfl rfl ?_
      refine J.callV (M' := mX12_token) (index := 320) (bc := 0) (bs := 0) (bc' := 0) (bs' := 0) (st := []) [] ml_X12_320 cv_X12_token dX12_need_22 (lt83 hs) (kk83 hs) (by decide) rfl rfl rfl rfl (Nat.le_of_ble_eq_true rfl) (kqvL hW (fun I5 L6 hW => ?_))
      refine J.iconst (v := 1) dX12_need_25 (by decide) ?_
      exact J.reti dX12_need_26 rfl (bz_nar (Or.inr rfl)) hW
    · have hW := hW.2 hc4
      refine J.aload_n dX12_need_16 rfl rfl ?_
      refine J.callV (M' := mX12_wrong) (index := 316) (bc := 0) (bs := 0) (bc' := 0) (bs' := 0) (st := []) [] ml_X12_316 cv_X12_wrong dX12_need_17 (lt83 hs) (kk83 hs) (by decide) rfl rfl rfl rfl (Nat.le_of_ble_eq_true rfl) (kqi hW (fun r8 I7 hW => ?_))
      obtain ⟨hz, hW⟩ := hW
      exact J.reti dX12_need_20 rfl (bz_nar hz) hW
set_option maxRecDepth 100000 in
set_option maxHeartbeats 4000000 in
theorem w_X12_testWord {E : Envt} {d : Nat} {Q : Pst} {h : mS} {I : mI} {L : mL} (hs : SL h)  
    (hW : (∀ y16 : Int32, y16 = (if ((I 83 48) = 2) ∧ ((lg_cmp (L 83 50) 1668047214) = 0) then 0 else if ((I 83 48) = 2) ∧ ((lg_cmp (L 83 50) 1752132965) = 0) then 1 else if ((I 83 48) = 2) ∧ ((lg_cmp (L 83 50) 1717925220) = 0) then 2 else if ((I 83 48) = 2) ∧ ((lg_cmp (L 83 50) 512869298039) = 0) then 3 else if ((I 83 48) = 2) ∧ ((lg_cmp (L 83 50) 435610215794) = 0) then 4 else (-1)) → (∀ y36 : Int32, y36 = (if y16 = (-1) then if ((I 83 48) = 2) ∧ ((lg_cmp (L 83 50) 1937006962) = 0) then 5 else if ((I 83 48) = 2) ∧ ((lg_cmp (L 83 50) 7039342) = 0) then 6 else if ((I 83 48) = 2) ∧ ((lg_cmp (L 83 50) 6383461) = 0) then 7 else if ((I 83 48) = 2) ∧ ((lg_cmp (L 83 50) 422826304613) = 0) then 8 else if ((I 83 48) = 2) ∧ ((lg_cmp (L 83 50) 6775152) = 0) then 9 else if ((I 83 48) = 2) ∧ ((lg_cmp (L 83 50) 1919509352) = 0) then 10 else (-1) else y16) → Q (some (.int y36)) h I L))) :
    CT E mX12_testWord (d + 1) 0 0 [.ref (eB E + 83)] h I L Q := by
  refine CT.of (by decide) [some (.ref (eB E + 83)), none] rfl (Nat.le_of_ble_eq_true rfl) ?_
  refine J.aload_n dX12_testWord_0 rfl rfl ?_
  refine J.ldc2 (v := 1668047214) dX12_testWord_1 ck_X12_323 ?_
  refine J.callV (M' := mX12_isWord) (index := 325) (bc := 0) (bs := 0) (bc' := 0) (bs' := 0) (st := []) [.long 1668047214] ml_X12_325 cv_X12_isWord dX12_testWord_4 (lt83 hs) (kk83 hs) (by decide) rfl rfl rfl rfl (Nat.le_of_ble_eq_true rfl) (kqi (w_X12_isWord (d := d) (Q := qi h L (fun v I' => I' = I ∧ v = bI (((I 83 48) = 2) ∧ ((lg_cmp (L 83 50) 1668047214) = 0)))) hs 1668047214 ⟨rfl, rfl, _, rfl, rfl, rfl⟩) (fun v1 I2 hv => ?_))
  rw [hv.1, hv.2]
  obtain ⟨y16, hyy16⟩ : ∃ y16 : Int32, y16 = (if ((I 83 48) = 2) ∧ ((lg_cmp (L 83 50) 1668047214) = 0) then 0 else if ((I 83 48) = 2) ∧ ((lg_cmp (L 83 50) 1752132965) = 0) then 1 else if ((I 83 48) = 2) ∧ ((lg_cmp (L 83 50) 1717925220) = 0) then 2 else if ((I 83 48) = 2) ∧ ((lg_cmp (L 83 50) 512869298039) = 0) then 3 else if ((I 83 48) = 2) ∧ ((lg_cmp (L 83 50) 435610215794) = 0) then 4 else (-1)) := ⟨_, rfl⟩
  have hW := hW y16 hyy16
  have hj : J E mX12_testWord (d + 1) Q 0 0 71 [some (.ref (eB E + 83)), none] [.int y16] h I L := by
    refine J.istore_n (vs' := [some (.ref (eB E + 83)), some (.int y16)]) dX12_testWord_71 rfl (by decide) rfl ?_
    refine J.iload_n dX12_testWord_72 rfl rfl ?_
    refine J.iconst (v := (-1)) dX12_testWord_73 (by decide) ?_
    obtain ⟨y36, hyy36⟩ : ∃ y36 : Int32, y36 = (if y16 = (-1) then if ((I 83 48) = 2) ∧ ((lg_cmp (L 83 50) 1937006962) = 0) then 5 else if ((I 83 48) = 2) ∧ ((lg_cmp (L 83 50) 7039342) = 0) then 6 else if ((I 83 48) = 2) ∧ ((lg_cmp (L 83 50) 6383461) = 0) then 7 else if ((I 83 48) = 2) ∧ ((lg_cmp (L 83 50) 422826304613) = 0) then 8 else if ((I 83 48) = 2) ∧ ((lg_cmp (L 83 50) 6775152) = 0) then 9 else if ((I 83 48) = 2) ∧ ((lg_cmp (L 83 50) 1919509352) = 0) then 10 else (-1) else y16) := ⟨_, rfl⟩
    have hW := hW y36 hyy36
    have hj : J E mX12_testWord (d + 1) Q 0 0 171 [some (.ref (eB E + 83)), some (.int y16)] [.int y36] h I L := by
      exact J.reti dX12_testWord_171 rfl rfl hW
    refine J.ic_eq 81 dX12_testWord_74 (by decide) (fun hc17 => ?_) (fun hc17 => ?_)
    · refine J.aload_n dX12_testWord_81 rfl rfl ?_
      refine J.ldc2 (v := 1937006962) dX12_testWord_82 ck_X12_337 ?_
      refine J.callV (M' := mX12_isWord) (index := 325) (bc := 0) (bs := 0) (bc' := 0) (bs' := 0) (st := []) [.long 1937006962] ml_X12_325 cv_X12_isWord dX12_testWord_85 (lt83 hs) (kk83 hs) (by decide) rfl rfl rfl rfl (Nat.le_of_ble_eq_true rfl) (kqi (w_X12_isWord (d := d) (Q := qi h L (fun v I' => I' = I ∧ v = bI (((I 83 48) = 2) ∧ ((lg_cmp (L 83 50) 1937006962) = 0)))) hs 1937006962 ⟨rfl, rfl, _, rfl, rfl, rfl⟩) (fun v18 I19 hv => ?_))
      rw [hv.1, hv.2]
      refine J.if_eq 95 dX12_testWord_88 (by decide) (fun hc20 => ?_) (fun hc20 => ?_)
      · have hc20 := bI_0.mp hc20
        refine J.aload_n dX12_testWord_95 rfl rfl ?_
        refine J.ldc2 (v := 7039342) dX12_testWord_96 ck_X12_339 ?_
        refine J.callV (M' := mX12_isWord) (index := 325) (bc := 0) (bs := 0) (bc' := 0) (bs' := 0) (st := []) [.long 7039342] ml_X12_325 cv_X12_isWord dX12_testWord_99 (lt83 hs) (kk83 hs) (by decide) rfl rfl rfl rfl (Nat.le_of_ble_eq_true rfl) (kqi (w_X12_isWord (d := d) (Q := qi h L (fun v I' => I' = I ∧ v = bI (((I 83 48) = 2) ∧ ((lg_cmp (L 83 50) 7039342) = 0)))) hs 7039342 ⟨rfl, rfl, _, rfl, rfl, rfl⟩) (fun v21 I22 hv => ?_))
        rw [hv.1, hv.2]
        refine J.if_eq 110 dX12_testWord_102 (by decide) (fun hc23 => ?_) (fun hc23 => ?_)
        · have hc23 := bI_0.mp hc23
          refine J.aload_n dX12_testWord_110 rfl rfl ?_
          refine J.ldc2 (v := 6383461) dX12_testWord_111 ck_X12_341 ?_
          refine J.callV (M' := mX12_isWord) (index := 325) (bc := 0) (bs := 0) (bc' := 0) (bs' := 0) (st := []) [.long 6383461] ml_X12_325 cv_X12_isWord dX12_testWord_114 (lt83 hs) (kk83 hs) (by decide) rfl rfl rfl rfl (Nat.le_of_ble_eq_true rfl) (kqi (w_X12_isWord (d := d) (Q := qi h L (fun v I' => I' = I ∧ v = bI (((I 83 48) = 2) ∧ ((lg_cmp (L 83 50) 6383461) = 0)))) hs 6383461 ⟨rfl, rfl, _, rfl, rfl, rfl⟩) (fun v24 I25 hv => ?_))
          rw [hv.1, hv.2]
          refine J.if_eq 125 dX12_testWord_117 (by decide) (fun hc26 => ?_) (fun hc26 => ?_)
          · have hc26 := bI_0.mp hc26
            refine J.aload_n dX12_testWord_125 rfl rfl ?_
            refine J.ldc2 (v := 422826304613) dX12_testWord_126 ck_X12_343 ?_
            refine J.callV (M' := mX12_isWord) (index := 325) (bc := 0) (bs := 0) (bc' := 0) (bs' := 0) (st := []) [.long 422826304613] ml_X12_325 cv_X12_isWord dX12_testWord_129 (lt83 hs) (kk83 hs) (by decide) rfl rfl rfl rfl (Nat.le_of_ble_eq_true rfl) (kqi (w_X12_isWord (d := d) (Q := qi h L (fun v I' => I' = I ∧ v = bI (((I 83 48) = 2) ∧ ((lg_cmp (L 83 50) 422826304613) = 0)))) hs 422826304613 ⟨rfl, rfl, _, rfl, rfl, rfl⟩) (fun v27 I28 hv => ?_))
            rw [hv.1, hv.2]
            refine J.if_eq 140 dX12_testWord_132 (by decide) (fun hc29 => ?_) (fun hc29 => ?_)
            · have hc29 := bI_0.mp hc29
              refine J.aload_n dX12_testWord_140 rfl rfl ?_
              refine J.ldc2 (v := 6775152) dX12_testWord_141 ck_X12_345 ?_
              refine J.callV (M' := mX12_isWord) (index := 325) (bc := 0) (bs := 0) (bc' := 0) (bs' := 0) (st := []) [.long 6775152] ml_X12_325 cv_X12_isWord dX12_testWord_144 (lt83 hs) (kk83 hs) (by decide) rfl rfl rfl rfl (Nat.le_of_ble_eq_true rfl) (kqi (w_X12_isWord (d := d) (Q := qi h L (fun v I' => I' = I ∧ v = bI (((I 83 48) = 2) ∧ ((lg_cmp (L 83 50) 6775152) = 0)))) hs 6775152 ⟨rfl, rfl, _, rfl, rfl, rfl⟩) (fun v30 I31 hv => ?_))
              rw [hv.1, hv.2]
              refine J.if_eq 155 dX12_testWord_147 (by decide) (fun hc32 => ?_) (fun hc32 => ?_)
              · have hc32 := bI_0.mp hc32
                refine J.aload_n dX12_testWord_155 rfl rfl ?_
                refine J.ldc2 (v := 1919509352) dX12_testWord_156 ck_X12_347 ?_
                refine J.callV (M' := mX12_isWord) (index := 325) (bc := 0) (bs := 0) (bc' := 0) (bs' := 0) (st := []) [.long 1919509352] ml_X12_325 cv_X12_isWord dX12_testWord_159 (lt83 hs) (kk83 hs) (by decide) rfl rfl rfl rfl (Nat.le_of_ble_eq_true rfl) (kqi (w_X12_isWord (d := d) (Q := qi h L (fun v I' => I' = I ∧ v = bI (((I 83 48) = 2) ∧ ((lg_cmp (L 83 50) 1919509352) = 0)))) hs 1919509352 ⟨rfl, rfl, _, rfl, rfl, rfl⟩) (fun v33 I34 hv => ?_))
                rw [hv.1, hv.2]
                refine J.if_eq 170 dX12_testWord_162 (by decide) (fun hc35 => ?_) (fun hc35 => ?_)
                · have hc35 := bI_0.mp hc35
                  refine J.iconst (v := (-1)) dX12_testWord_170 (by decide) ?_
                  rw [show y36 = (-1) from by simp only [hyy36, eq_true hc17, eq_false hc20, eq_false hc23, eq_false hc26, eq_false hc29, eq_false hc32, eq_false hc35, if_true, if_false, bI_true, bI_false, and_true, true_and, and_false, false_and, or_true, true_or, or_false, false_or, not_true_eq_false, not_false_eq_true]] at hj
                  exact hj
                · have hc35 := bI_n0.mp hc35
                  refine J.bipush (v := 10) dX12_testWord_165 (by decide) ?_
                  refine J.goto 171 dX12_testWord_167 (by decide) ?_
                  rw [show y36 = 10 from by simp only [hyy36, eq_true hc17, eq_false hc20, eq_false hc23, eq_false hc26, eq_false hc29, eq_false hc32, eq_true hc35, if_true, if_false, bI_true, bI_false, and_true, true_and, and_false, false_and, or_true, true_or, or_false, false_or, not_true_eq_false, not_false_eq_true]] at hj
                  exact hj
              · have hc32 := bI_n0.mp hc32
                refine J.bipush (v := 9) dX12_testWord_150 (by decide) ?_
                refine J.goto 171 dX12_testWord_152 (by decide) ?_
                rw [show y36 = 9 from by simp only [hyy36, eq_true hc17, eq_false hc20, eq_false hc23, eq_false hc26, eq_false hc29, eq_true hc32, if_true, if_false, bI_true, bI_false, and_true, true_and, and_false, false_and, or_true, true_or, or_false, false_or, not_true_eq_false, not_false_eq_true]] at hj
                exact hj
            · have hc29 := bI_n0.mp hc29
              refine J.bipush (v := 8) dX12_testWord_135 (by decide) ?_
              refine J.goto 171 dX12_testWord_137 (by decide) ?_
              rw [show y36 = 8 from by simp only [hyy36, eq_true hc17, eq_false hc20, eq_false hc23, eq_false hc26, eq_true hc29, if_true, if_false, bI_true, bI_false, and_true, true_and, and_false, false_and, or_true, true_or, or_false, false_or, not_true_eq_false, not_false_eq_true]] at hj
              exact hj
          · have hc26 := bI_n0.mp hc26
            refine J.bipush (v := 7) dX12_testWord_120 (by decide) ?_
            refine J.goto 171 dX12_testWord_122 (by decide) ?_
            rw [show y36 = 7 from by simp only [hyy36, eq_true hc17, eq_false hc20, eq_false hc23, eq_true hc26, if_true, if_false, bI_true, bI_false, and_true, true_and, and_false, false_and, or_true, true_or, or_false, false_or, not_true_eq_false, not_false_eq_true]] at hj
            exact hj
        · have hc23 := bI_n0.mp hc23
          refine J.bipush (v := 6) dX12_testWord_105 (by decide) ?_
          refine J.goto 171 dX12_testWord_107 (by decide) ?_
          rw [show y36 = 6 from by simp only [hyy36, eq_true hc17, eq_false hc20, eq_true hc23, if_true, if_false, bI_true, bI_false, and_true, true_and, and_false, false_and, or_true, true_or, or_false, false_or, not_true_eq_false, not_false_eq_true]] at hj
          exact hj
      · have hc20 := bI_n0.mp hc20
        refine J.iconst (v := 5) dX12_testWord_91 (by decide) ?_
        refine J.goto 171 dX12_testWord_92 (by decide) ?_
        rw [show y36 = 5 from by simp only [hyy36, eq_true hc17, eq_true hc20, if_true, if_false, bI_true, bI_false, and_true, true_and, and_false, false_and, or_true, true_or, or_false, false_or, not_true_eq_false, not_false_eq_true]] at hj
        exact hj
    · refine J.iload_n dX12_testWord_77 rfl rfl ?_
      refine J.goto 171 dX12_testWord_78 (by decide) ?_
      rw [show y36 = y16 from by simp only [hyy36, eq_false hc17, if_true, if_false, bI_true, bI_false, and_true, true_and, and_false, false_and, or_true, true_or, or_false, false_or, not_true_eq_false, not_false_eq_true]] at hj
      exact hj
  refine J.if_eq 14 dX12_testWord_7 (by decide) (fun hc3 => ?_) (fun hc3 => ?_)
  · have hc3 := bI_0.mp hc3
    refine J.aload_n dX12_testWord_14 rfl rfl ?_
    refine J.ldc2 (v := 1752132965) dX12_testWord_15 ck_X12_329 ?_
    refine J.callV (M' := mX12_isWord) (index := 325) (bc := 0) (bs := 0) (bc' := 0) (bs' := 0) (st := []) [.long 1752132965] ml_X12_325 cv_X12_isWord dX12_testWord_18 (lt83 hs) (kk83 hs) (by decide) rfl rfl rfl rfl (Nat.le_of_ble_eq_true rfl) (kqi (w_X12_isWord (d := d) (Q := qi h L (fun v I' => I' = I ∧ v = bI (((I 83 48) = 2) ∧ ((lg_cmp (L 83 50) 1752132965) = 0)))) hs 1752132965 ⟨rfl, rfl, _, rfl, rfl, rfl⟩) (fun v4 I5 hv => ?_))
    rw [hv.1, hv.2]
    refine J.if_eq 28 dX12_testWord_21 (by decide) (fun hc6 => ?_) (fun hc6 => ?_)
    · have hc6 := bI_0.mp hc6
      refine J.aload_n dX12_testWord_28 rfl rfl ?_
      refine J.ldc2 (v := 1717925220) dX12_testWord_29 ck_X12_331 ?_
      refine J.callV (M' := mX12_isWord) (index := 325) (bc := 0) (bs := 0) (bc' := 0) (bs' := 0) (st := []) [.long 1717925220] ml_X12_325 cv_X12_isWord dX12_testWord_32 (lt83 hs) (kk83 hs) (by decide) rfl rfl rfl rfl (Nat.le_of_ble_eq_true rfl) (kqi (w_X12_isWord (d := d) (Q := qi h L (fun v I' => I' = I ∧ v = bI (((I 83 48) = 2) ∧ ((lg_cmp (L 83 50) 1717925220) = 0)))) hs 1717925220 ⟨rfl, rfl, _, rfl, rfl, rfl⟩) (fun v7 I8 hv => ?_))
      rw [hv.1, hv.2]
      refine J.if_eq 42 dX12_testWord_35 (by decide) (fun hc9 => ?_) (fun hc9 => ?_)
      · have hc9 := bI_0.mp hc9
        refine J.aload_n dX12_testWord_42 rfl rfl ?_
        refine J.ldc2 (v := 512869298039) dX12_testWord_43 ck_X12_333 ?_
        refine J.callV (M' := mX12_isWord) (index := 325) (bc := 0) (bs := 0) (bc' := 0) (bs' := 0) (st := []) [.long 512869298039] ml_X12_325 cv_X12_isWord dX12_testWord_46 (lt83 hs) (kk83 hs) (by decide) rfl rfl rfl rfl (Nat.le_of_ble_eq_true rfl) (kqi (w_X12_isWord (d := d) (Q := qi h L (fun v I' => I' = I ∧ v = bI (((I 83 48) = 2) ∧ ((lg_cmp (L 83 50) 512869298039) = 0)))) hs 512869298039 ⟨rfl, rfl, _, rfl, rfl, rfl⟩) (fun v10 I11 hv => ?_))
        rw [hv.1, hv.2]
        refine J.if_eq 56 dX12_testWord_49 (by decide) (fun hc12 => ?_) (fun hc12 => ?_)
        · have hc12 := bI_0.mp hc12
          refine J.aload_n dX12_testWord_56 rfl rfl ?_
          refine J.ldc2 (v := 435610215794) dX12_testWord_57 ck_X12_335 ?_
          refine J.callV (M' := mX12_isWord) (index := 325) (bc := 0) (bs := 0) (bc' := 0) (bs' := 0) (st := []) [.long 435610215794] ml_X12_325 cv_X12_isWord dX12_testWord_60 (lt83 hs) (kk83 hs) (by decide) rfl rfl rfl rfl (Nat.le_of_ble_eq_true rfl) (kqi (w_X12_isWord (d := d) (Q := qi h L (fun v I' => I' = I ∧ v = bI (((I 83 48) = 2) ∧ ((lg_cmp (L 83 50) 435610215794) = 0)))) hs 435610215794 ⟨rfl, rfl, _, rfl, rfl, rfl⟩) (fun v13 I14 hv => ?_))
          rw [hv.1, hv.2]
          refine J.if_eq 70 dX12_testWord_63 (by decide) (fun hc15 => ?_) (fun hc15 => ?_)
          · have hc15 := bI_0.mp hc15
            refine J.iconst (v := (-1)) dX12_testWord_70 (by decide) ?_
            rw [show y16 = (-1) from by simp only [hyy16, eq_false hc3, eq_false hc6, eq_false hc9, eq_false hc12, eq_false hc15, if_true, if_false, bI_true, bI_false, and_true, true_and, and_false, false_and, or_true, true_or, or_false, false_or, not_true_eq_false, not_false_eq_true]] at hj
            exact hj
          · have hc15 := bI_n0.mp hc15
            refine J.iconst (v := 4) dX12_testWord_66 (by decide) ?_
            refine J.goto 71 dX12_testWord_67 (by decide) ?_
            rw [show y16 = 4 from by simp only [hyy16, eq_false hc3, eq_false hc6, eq_false hc9, eq_false hc12, eq_true hc15, if_true, if_false, bI_true, bI_false, and_true, true_and, and_false, false_and, or_true, true_or, or_false, false_or, not_true_eq_false, not_false_eq_true]] at hj
            exact hj
        · have hc12 := bI_n0.mp hc12
          refine J.iconst (v := 3) dX12_testWord_52 (by decide) ?_
          refine J.goto 71 dX12_testWord_53 (by decide) ?_
          rw [show y16 = 3 from by simp only [hyy16, eq_false hc3, eq_false hc6, eq_false hc9, eq_true hc12, if_true, if_false, bI_true, bI_false, and_true, true_and, and_false, false_and, or_true, true_or, or_false, false_or, not_true_eq_false, not_false_eq_true]] at hj
          exact hj
      · have hc9 := bI_n0.mp hc9
        refine J.iconst (v := 2) dX12_testWord_38 (by decide) ?_
        refine J.goto 71 dX12_testWord_39 (by decide) ?_
        rw [show y16 = 2 from by simp only [hyy16, eq_false hc3, eq_false hc6, eq_true hc9, if_true, if_false, bI_true, bI_false, and_true, true_and, and_false, false_and, or_true, true_or, or_false, false_or, not_true_eq_false, not_false_eq_true]] at hj
        exact hj
    · have hc6 := bI_n0.mp hc6
      refine J.iconst (v := 1) dX12_testWord_24 (by decide) ?_
      refine J.goto 71 dX12_testWord_25 (by decide) ?_
      rw [show y16 = 1 from by simp only [hyy16, eq_false hc3, eq_true hc6, if_true, if_false, bI_true, bI_false, and_true, true_and, and_false, false_and, or_true, true_or, or_false, false_or, not_true_eq_false, not_false_eq_true]] at hj
      exact hj
  · have hc3 := bI_n0.mp hc3
    refine J.iconst (v := 0) dX12_testWord_10 (by decide) ?_
    refine J.goto 71 dX12_testWord_11 (by decide) ?_
    rw [show y16 = 0 from by simp only [hyy16, eq_true hc3, if_true, if_false, bI_true, bI_false, and_true, true_and, and_false, false_and, or_true, true_or, or_false, false_or, not_true_eq_false, not_false_eq_true]] at hj
    exact hj
set_option maxRecDepth 100000 in
set_option maxHeartbeats 4000000 in
theorem w_X12_test {E : Envt} {d : Nat} {Q : Pst} {h : mS} {I : mI} {L : mL} (hs : SL h) (x1 : Int32) (x2 : Int32) 
    (hW : (((x2 = 4) → (CT E mX12_later (d + 1) 0 0 [.ref (eB E + 83), .int 3, .int (I 83 47)] h I L (qv h L fun I2 => J E mX12_test (d + 2) Q 0 0 14 [some (.ref (eB E + 83)), some (.int x1), some (.int x2), none, none, none, none, none] [] h I2 L))) ∧ (¬ (x2 = 4) → J E mX12_test (d + 2) Q 0 0 14 [some (.ref (eB E + 83)), some (.int x1), some (.int x2), none, none, none, none, none] [] h I L))) :
    CT E mX12_test (d + 2) 0 0 [.ref (eB E + 83), .int x1, .int x2] h I L Q := by
  refine CT.of (by decide) [some (.ref (eB E + 83)), some (.int x1), some (.int x2), none, none, none, none, none] rfl (Nat.le_of_ble_eq_true rfl) ?_
  refine J.iload_n dX12_test_0 rfl rfl ?_
  refine J.iconst (v := 4) dX12_test_1 (by decide) ?_
  refine J.ic_ne 14 dX12_test_2 (by decide) (fun hc1 => ?_) (fun hc1 => ?_)
  · have hW := hW.2 hc1
    exact hW
  · have hW := hW.1 hc1
    refine J.aload_n dX12_test_5 rfl rfl ?_
    refine J.iconst (v := 3) dX12_test_6 (by decide) ?_
    refine J.aload_n dX12_test_7 rfl rfl ?_
    refine J.getI (x := I 83 47) fl_X12_294 rfl dX12_test_8 (lt83 hs) (kk83 hs) rfl ?_
    refine J.callV (M' := mX12_later) (index := 349) (bc := 0) (bs := 0) (bc' := 0) (bs' := 0) (st := []) [.int 3, .int (I 83 47)] ml_X12_349 cv_X12_later dX12_test_11 (lt83 hs) (kk83 hs) (by decide) rfl rfl rfl rfl (Nat.le_of_ble_eq_true rfl) (kqv hW (fun I2 hW => ?_))
    exact hW
set_option maxRecDepth 100000 in
set_option maxHeartbeats 4000000 in
theorem w_X12_test_14 {E : Envt} {d : Nat} {Q : Pst} {h : mS} {I : mI} {L : mL} (hs : SL h)    (x1 : Int32) (x2 : Int32)
    (hW : (((((I 83 48) = 2) ∧ ((lg_cmp (L 83 50) 7237492) = 0)) → (CT E mX12_token (d + 1) 0 0 [.ref (eB E + 83)] h I L (qvL h fun I4 L5 => J E mX12_test (d + 2) Q 0 0 30 [some (.ref (eB E + 83)), some (.int x1), some (.int x2), some (.int (bI (((I 83 48) = 2) ∧ ((lg_cmp (L 83 50) 7237492) = 0)))), none, none, none, none] [] h I4 L5))) ∧ (¬ (((I 83 48) = 2) ∧ ((lg_cmp (L 83 50) 7237492) = 0)) → J E mX12_test (d + 2) Q 0 0 30 [some (.ref (eB E + 83)), some (.int x1), some (.int x2), some (.int (bI (((I 83 48) = 2) ∧ ((lg_cmp (L 83 50) 7237492) = 0)))), none, none, none, none] [] h I L))) :
    J E mX12_test (d + 2) Q 0 0 14 [some (.ref (eB E + 83)), some (.int x1), some (.int x2), none, none, none, none, none] [] h I L := by
  refine J.aload_n dX12_test_14 rfl rfl ?_
  refine J.ldc2 (v := 7237492) dX12_test_15 ck_X12_352 ?_
  refine J.callV (M' := mX12_isWord) (index := 325) (bc := 0) (bs := 0) (bc' := 0) (bs' := 0) (st := []) [.long 7237492] ml_X12_325 cv_X12_isWord dX12_test_18 (lt83 hs) (kk83 hs) (by decide) rfl rfl rfl rfl (Nat.le_of_ble_eq_true rfl) (kqi (w_X12_isWord (d := d + 1) (Q := qi h L (fun v I' => I' = I ∧ v = bI (((I 83 48) = 2) ∧ ((lg_cmp (L 83 50) 7237492) = 0)))) hs 7237492 ⟨rfl, rfl, _, rfl, rfl, rfl⟩) (fun v1 I2 hv => ?_))
  rw [hv.1, hv.2]
  refine J.istore_n (vs' := [some (.ref (eB E + 83)), some (.int x1), some (.int x2), some (.int (bI (((I 83 48) = 2) ∧ ((lg_cmp (L 83 50) 7237492) = 0)))), none, none, none, none]) dX12_test_21 rfl (by decide) rfl ?_
  refine J.iload_n dX12_test_22 rfl rfl ?_
  refine J.if_eq 30 dX12_test_23 (by decide) (fun hc3 => ?_) (fun hc3 => ?_)
  · have hc3 := bI_0.mp hc3
    have hW := hW.2 hc3
    exact hW
  · have hc3 := bI_n0.mp hc3
    have hW := hW.1 hc3
    refine J.aload_n dX12_test_26 rfl rfl ?_
    refine J.callV (M' := mX12_token) (index := 320) (bc := 0) (bs := 0) (bc' := 0) (bs' := 0) (st := []) [] ml_X12_320 cv_X12_token dX12_test_27 (lt83 hs) (kk83 hs) (by decide) rfl rfl rfl rfl (Nat.le_of_ble_eq_true rfl) (kqvL hW (fun I4 L5 hW => ?_))
    exact hW
set_option maxRecDepth 100000 in
set_option maxHeartbeats 4000000 in
theorem w_X12_test_30 {E : Envt} {d : Nat} {Q : Pst} {h : mS} {I : mI} {L : mL} (hs : SL h)    (x1 : Int32) (x2 : Int32) (x3 : Int32)
    (hW : (CT E mX12_testWord (d + 1) 0 0 [.ref (eB E + 83)] h I L (qi h L fun r2 I1 => (((r2 = (-1)) → (CT E mX12_wrong (d + 1) 0 0 [.ref (eB E + 83)] h I1 L (qi h L fun r21 I20 => (bz r21 ∧ Q (some (.int r21)) h I20 L)))) ∧ (¬ (r2 = (-1)) → (CT E mX12_token (d + 1) 0 0 [.ref (eB E + 83)] h I1 L (qvL h fun I4 L5 => (((r2 ≤ 4) → (((4 ≤ x2) → Q (some (.int 1)) h I4 L5) ∧ (¬ (4 ≤ x2) → (((16 ≤ x1) → Q (some (.int 1)) h I4 L5) ∧ (¬ (16 ≤ x1) → (vp_in ((4 * x1) + x2) 64 ∧ (vp_in x1 17 ∧ Q (some (.int 1)) h (uI (uI (uI (uI I4 130 (((4 * x1) + x2).toNatClampNeg) (if x3 = 0 then r2 else r2 + 16 : Int32)) 131 (((4 * x1) + x2).toNatClampNeg) 61) 132 (((4 * x1) + x2).toNatClampNeg) 1) 127 x1.toNatClampNeg (x2 + 1)) L5))))))) ∧ (¬ (r2 ≤ 4) → ((((I4 83 48) = 4) → ((((I4 83 49) = 60) → J E mX12_test (d + 2) Q 0 0 104 [some (.ref (eB E + 83)), some (.int x1), some (.int x2), some (.int x3), some (.int r2), some (.int (I4 83 49)), some (.int 1), none] [] h I4 L5) ∧ (¬ ((I4 83 49) = 60) → ((((I4 83 49) = 62) → J E mX12_test (d + 2) Q 0 0 104 [some (.ref (eB E + 83)), some (.int x1), some (.int x2), some (.int x3), some (.int r2), some (.int (I4 83 49)), some (.int 1), none] [] h I4 L5) ∧ (¬ ((I4 83 49) = 62) → ((((I4 83 49) = 61) → J E mX12_test (d + 2) Q 0 0 104 [some (.ref (eB E + 83)), some (.int x1), some (.int x2), some (.int x3), some (.int r2), some (.int (I4 83 49)), some (.int 1), none] [] h I4 L5) ∧ (¬ ((I4 83 49) = 61) → (CT E mX12_wrong (d + 1) 0 0 [.ref (eB E + 83)] h I4 L5 (qi h L5 fun r19 I18 => (bz r19 ∧ Q (some (.int r19)) h I18 L5)))))))))) ∧ (¬ ((I4 83 48) = 4) → (CT E mX12_wrong (d + 1) 0 0 [.ref (eB E + 83)] h I4 L5 (qi h L5 fun r14 I13 => (bz r14 ∧ Q (some (.int r14)) h I13 L5)))))))))))))) :
    J E mX12_test (d + 2) Q 0 0 30 [some (.ref (eB E + 83)), some (.int x1), some (.int x2), some (.int x3), none, none, none, none] [] h I L := by
  refine J.aload_n dX12_test_30 rfl rfl ?_
  refine J.callV (M' := mX12_testWord) (index := 354) (bc := 0) (bs := 0) (bc' := 0) (bs' := 0) (st := []) [] ml_X12_354 cv_X12_testWord dX12_test_31 (lt83 hs) (kk83 hs) (by decide) rfl rfl rfl rfl (Nat.le_of_ble_eq_true rfl) (kqi hW (fun r2 I1 hW => ?_))
  refine J.istore (vs' := [some (.ref (eB E + 83)), some (.int x1), some (.int x2), some (.int x3), some (.int r2), none, none, none]) dX12_test_34 (by decide) rfl ?_
  refine J.iload dX12_test_36 rfl ?_
  refine J.iconst (v := (-1)) dX12_test_38 (by decide) ?_
  refine J.ic_ne 47 dX12_test_39 (by decide) (fun hc3 => ?_) (fun hc3 => ?_)
  · have hW := hW.2 hc3
    refine J.aload_n dX12_test_47 rfl rfl ?_
    refine J.callV (M' := mX12_token) (index := 320) (bc := 0) (bs := 0) (bc' := 0) (bs' := 0) (st := []) [] ml_X12_320 cv_X12_token dX12_test_48 (lt83 hs) (kk83 hs) (by decide) rfl rfl rfl rfl (Nat.le_of_ble_eq_true rfl) (kqvL hW (fun I4 L5 hW => ?_))
    refine J.bipush (v := 61) dX12_test_51 (by decide) ?_
    refine J.istore (vs' := [some (.ref (eB E + 83)), some (.int x1), some (.int x2), some (.int x3), some (.int r2), some (.int 61), none, none]) dX12_test_53 (by decide) rfl ?_
    refine J.iconst (v := 1) dX12_test_55 (by decide) ?_
    refine J.istore (vs' := [some (.ref (eB E + 83)), some (.int x1), some (.int x2), some (.int x3), some (.int r2), some (.int 61), some (.int 1), none]) dX12_test_56 (by decide) rfl ?_
    refine J.iload dX12_test_58 rfl ?_
    refine J.iconst (v := 4) dX12_test_60 (by decide) ?_
    refine J.ic_le 131 dX12_test_61 (by decide) (fun hc6 => ?_) (fun hc6 => ?_)
    · have hW := hW.1 hc6
      refine J.iload_n dX12_test_131 rfl rfl ?_
      refine J.iconst (v := 4) dX12_test_132 (by decide) ?_
      refine J.ic_ge 197 dX12_test_133 (by decide) (fun hc7 => ?_) (fun hc7 => ?_)
      · have hW := hW.1 hc7
        refine J.iconst (v := 1) dX12_test_197 (by decide) ?_
        exact J.reti dX12_test_198 rfl (bz_nar (Or.inr rfl)) hW
      · have hW := hW.2 hc7
        refine J.iload_n dX12_test_136 rfl rfl ?_
        refine J.bipush (v := 16) dX12_test_137 (by decide) ?_
        refine J.ic_ge 197 dX12_test_139 (by decide) (fun hc8 => ?_) (fun hc8 => ?_)
        · have hW := hW.1 hc8
          refine J.iconst (v := 1) dX12_test_197 (by decide) ?_
          exact J.reti dX12_test_198 rfl (bz_nar (Or.inr rfl)) hW
        · have hW := hW.2 hc8
          refine J.iconst (v := 4) dX12_test_142 (by decide) ?_
          refine J.iload_n dX12_test_143 rfl rfl ?_
          refine J.imul dX12_test_144 ?_
          refine J.iload_n dX12_test_145 rfl rfl ?_
          refine J.iadd dX12_test_146 ?_
          refine J.istore (vs' := [some (.ref (eB E + 83)), some (.int x1), some (.int x2), some (.int x3), some (.int r2), some (.int 61), some (.int 1), some (.int ((4 * x1) + x2))]) dX12_test_147 (by decide) rfl ?_
          refine J.aload_n dX12_test_149 rfl rfl ?_
          refine J.getR (r := 130) fl_X12_150 rfl dX12_test_150 (lt83 hs) (kk83 hs) (rr83_58 hs) ?_
          refine J.iload dX12_test_153 rfl ?_
          refine J.iload_n dX12_test_155 rfl rfl ?_
          have hj : J E mX12_test (d + 2) Q 0 0 169 [some (.ref (eB E + 83)), some (.int x1), some (.int x2), some (.int x3), some (.int r2), some (.int 61), some (.int 1), some (.int ((4 * x1) + x2))] [.int (if x3 = 0 then r2 else r2 + 16 : Int32), .int ((4 * x1) + x2), .ref (eB E + 130)] h I4 L5 := by
            obtain ⟨hb10, hW⟩ := hW
            refine J.iast dX12_test_169 (lt130 hs) (kk130 hs) hb10 ?_
            refine J.aload_n dX12_test_170 rfl rfl ?_
            refine J.getR (r := 131) fl_X12_153 rfl dX12_test_171 (lt83 hs) (kk83 hs) (rr83_59 hs) ?_
            refine J.iload dX12_test_174 rfl ?_
            refine J.iload dX12_test_176 rfl ?_
            refine J.iast dX12_test_178 (lt131 hs) (kk131 hs) hb10 ?_
            refine J.aload_n dX12_test_179 rfl rfl ?_
            refine J.getR (r := 132) fl_X12_156 rfl dX12_test_180 (lt83 hs) (kk83 hs) (rr83_60 hs) ?_
            refine J.iload dX12_test_183 rfl ?_
            refine J.iload dX12_test_185 rfl ?_
            refine J.iast dX12_test_187 (lt132 hs) (kk132 hs) hb10 ?_
            refine J.aload_n dX12_test_188 rfl rfl ?_
            refine J.getR (r := 127) fl_X12_141 rfl dX12_test_189 (lt83 hs) (kk83 hs) (rr83_55 hs) ?_
            refine J.iload_n dX12_test_192 rfl rfl ?_
            refine J.iload_n dX12_test_193 rfl rfl ?_
            refine J.iconst (v := 1) dX12_test_194 (by decide) ?_
            refine J.iadd dX12_test_195 ?_
            obtain ⟨hb11, hW⟩ := hW
            refine J.iast dX12_test_196 (lt127 hs) (kk127 hs) hb11 ?_
            refine J.iconst (v := 1) dX12_test_197 (by decide) ?_
            exact J.reti dX12_test_198 rfl (bz_nar (Or.inr rfl)) hW
          refine J.if_eq 167 dX12_test_156 (by decide) (fun hc9 => ?_) (fun hc9 => ?_)
          · refine J.iload dX12_test_167 rfl ?_
            rw [show ((if x3 = 0 then r2 else r2 + 16 : Int32) = r2) from by simp only [eq_true hc9, if_true, if_false, bI_true, bI_false, and_true, true_and, and_false, false_and, or_true, true_or, or_false, false_or, not_true_eq_false, not_false_eq_true]] at hj
            exact hj
          · refine J.iload dX12_test_159 rfl ?_
            refine J.bipush (v := 16) dX12_test_161 (by decide) ?_
            refine J.iadd dX12_test_163 ?_
            refine J.goto 169 dX12_test_164 (by decide) ?_
            rw [show ((if x3 = 0 then r2 else r2 + 16 : Int32) = r2 + 16) from by simp only [eq_false hc9, if_true, if_false, bI_true, bI_false, and_true, true_and, and_false, false_and, or_true, true_or, or_false, false_or, not_true_eq_false, not_false_eq_true]] at hj
            exact hj
    · have hW := hW.2 hc6
      refine J.aload_n dX12_test_64 rfl rfl ?_
      refine J.getI (x := I4 83 49) fl_X12_297 rfl dX12_test_65 (lt83 hs) (kk83 hs) rfl ?_
      refine J.istore (vs' := [some (.ref (eB E + 83)), some (.int x1), some (.int x2), some (.int x3), some (.int r2), some (.int (I4 83 49)), some (.int 1), none]) dX12_test_68 (by decide) rfl ?_
      refine J.aload_n dX12_test_70 rfl rfl ?_
      refine J.getI (x := I4 83 48) fl_X12_304 rfl dX12_test_71 (lt83 hs) (kk83 hs) rfl ?_
      refine J.iconst (v := 4) dX12_test_74 (by decide) ?_
      refine J.ic_ne 99 dX12_test_75 (by decide) (fun hc12 => ?_) (fun hc12 => ?_)
      · have hW := hW.2 hc12
        refine J.aload_n dX12_test_99 rfl rfl ?_
        refine J.callV (M' := mX12_wrong) (index := 316) (bc := 0) (bs := 0) (bc' := 0) (bs' := 0) (st := []) [] ml_X12_316 cv_X12_wrong dX12_test_100 (lt83 hs) (kk83 hs) (by decide) rfl rfl rfl rfl (Nat.le_of_ble_eq_true rfl) (kqi hW (fun r14 I13 hW => ?_))
        obtain ⟨hz, hW⟩ := hW
        exact J.reti dX12_test_103 rfl (bz_nar hz) hW
      · have hW := hW.1 hc12
        refine J.iload dX12_test_78 rfl ?_
        refine J.bipush (v := 60) dX12_test_80 (by decide) ?_
        refine J.ic_eq 104 dX12_test_82 (by decide) (fun hc15 => ?_) (fun hc15 => ?_)
        · have hW := hW.1 hc15
          exact hW
        · have hW := hW.2 hc15
          refine J.iload dX12_test_85 rfl ?_
          refine J.bipush (v := 62) dX12_test_87 (by decide) ?_
          refine J.ic_eq 104 dX12_test_89 (by decide) (fun hc16 => ?_) (fun hc16 => ?_)
          · have hW := hW.1 hc16
            exact hW
          · have hW := hW.2 hc16
            refine J.iload dX12_test_92 rfl ?_
            refine J.bipush (v := 61) dX12_test_94 (by decide) ?_
            refine J.ic_eq 104 dX12_test_96 (by decide) (fun hc17 => ?_) (fun hc17 => ?_)
            · have hW := hW.1 hc17
              exact hW
            · have hW := hW.2 hc17
              refine J.aload_n dX12_test_99 rfl rfl ?_
              refine J.callV (M' := mX12_wrong) (index := 316) (bc := 0) (bs := 0) (bc' := 0) (bs' := 0) (st := []) [] ml_X12_316 cv_X12_wrong dX12_test_100 (lt83 hs) (kk83 hs) (by decide) rfl rfl rfl rfl (Nat.le_of_ble_eq_true rfl) (kqi hW (fun r19 I18 hW => ?_))
              obtain ⟨hz, hW⟩ := hW
              exact J.reti dX12_test_103 rfl (bz_nar hz) hW
  · have hW := hW.1 hc3
    refine J.aload_n dX12_test_42 rfl rfl ?_
    refine J.callV (M' := mX12_wrong) (index := 316) (bc := 0) (bs := 0) (bc' := 0) (bs' := 0) (st := []) [] ml_X12_316 cv_X12_wrong dX12_test_43 (lt83 hs) (kk83 hs) (by decide) rfl rfl rfl rfl (Nat.le_of_ble_eq_true rfl) (kqi hW (fun r21 I20 hW => ?_))
    obtain ⟨hz, hW⟩ := hW
    exact J.reti dX12_test_46 rfl (bz_nar hz) hW
set_option maxRecDepth 100000 in
set_option maxHeartbeats 4000000 in
theorem w_X12_test_104 {E : Envt} {d : Nat} {Q : Pst} {h : mS} {I : mI} {L : mL} (hs : SL h)    (x1 : Int32) (x2 : Int32) (x3 : Int32) (x4 : Int32) (x5 : Int32) (x6 : Int32)
    (hW : (CT E mX12_token (d + 1) 0 0 [.ref (eB E + 83)] h I L (qvL h fun I1 L2 => ((((I1 83 48) = 3) → (CT E mX12_token (d + 1) 0 0 [.ref (eB E + 83)] h I1 L2 (qvL h fun I4 L5 => (((4 ≤ x2) → Q (some (.int 1)) h I4 L5) ∧ (¬ (4 ≤ x2) → (((16 ≤ x1) → Q (some (.int 1)) h I4 L5) ∧ (¬ (16 ≤ x1) → (vp_in ((4 * x1) + x2) 64 ∧ (vp_in x1 17 ∧ Q (some (.int 1)) h (uI (uI (uI (uI I4 130 (((4 * x1) + x2).toNatClampNeg) (if x3 = 0 then x4 else x4 + 16 : Int32)) 131 (((4 * x1) + x2).toNatClampNeg) x5) 132 (((4 * x1) + x2).toNatClampNeg) (I1 83 49)) 127 x1.toNatClampNeg (x2 + 1)) L5))))))))) ∧ (¬ ((I1 83 48) = 3) → (CT E mX12_wrong (d + 1) 0 0 [.ref (eB E + 83)] h I1 L2 (qi h L2 fun r12 I11 => (bz r12 ∧ Q (some (.int r12)) h I11 L2)))))))) :
    J E mX12_test (d + 2) Q 0 0 104 [some (.ref (eB E + 83)), some (.int x1), some (.int x2), some (.int x3), some (.int x4), some (.int x5), some (.int x6), none] [] h I L := by
  refine J.aload_n dX12_test_104 rfl rfl ?_
  refine J.callV (M' := mX12_token) (index := 320) (bc := 0) (bs := 0) (bc' := 0) (bs' := 0) (st := []) [] ml_X12_320 cv_X12_token dX12_test_105 (lt83 hs) (kk83 hs) (by decide) rfl rfl rfl rfl (Nat.le_of_ble_eq_true rfl) (kqvL hW (fun I1 L2 hW => ?_))
  refine J.aload_n dX12_test_108 rfl rfl ?_
  refine J.getI (x := I1 83 48) fl_X12_304 rfl dX12_test_109 (lt83 hs) (kk83 hs) rfl ?_
  refine J.iconst (v := 3) dX12_test_112 (by decide) ?_
  refine J.ic_eq 121 dX12_test_113 (by decide) (fun hc3 => ?_) (fun hc3 => ?_)
  · have hW := hW.1 hc3
    refine J.aload_n dX12_test_121 rfl rfl ?_
    refine J.getI (x := I1 83 49) fl_X12_297 rfl dX12_test_122 (lt83 hs) (kk83 hs) rfl ?_
    refine J.istore (vs' := [some (.ref (eB E + 83)), some (.int x1), some (.int x2), some (.int x3), some (.int x4), some (.int x5), some (.int (I1 83 49)), none]) dX12_test_125 (by decide) rfl ?_
    refine J.aload_n dX12_test_127 rfl rfl ?_
    refine J.callV (M' := mX12_token) (index := 320) (bc := 0) (bs := 0) (bc' := 0) (bs' := 0) (st := []) [] ml_X12_320 cv_X12_token dX12_test_128 (lt83 hs) (kk83 hs) (by decide) rfl rfl rfl rfl (Nat.le_of_ble_eq_true rfl) (kqvL hW (fun I4 L5 hW => ?_))
    refine J.iload_n dX12_test_131 rfl rfl ?_
    refine J.iconst (v := 4) dX12_test_132 (by decide) ?_
    refine J.ic_ge 197 dX12_test_133 (by decide) (fun hc6 => ?_) (fun hc6 => ?_)
    · have hW := hW.1 hc6
      refine J.iconst (v := 1) dX12_test_197 (by decide) ?_
      exact J.reti dX12_test_198 rfl (bz_nar (Or.inr rfl)) hW
    · have hW := hW.2 hc6
      refine J.iload_n dX12_test_136 rfl rfl ?_
      refine J.bipush (v := 16) dX12_test_137 (by decide) ?_
      refine J.ic_ge 197 dX12_test_139 (by decide) (fun hc7 => ?_) (fun hc7 => ?_)
      · have hW := hW.1 hc7
        refine J.iconst (v := 1) dX12_test_197 (by decide) ?_
        exact J.reti dX12_test_198 rfl (bz_nar (Or.inr rfl)) hW
      · have hW := hW.2 hc7
        refine J.iconst (v := 4) dX12_test_142 (by decide) ?_
        refine J.iload_n dX12_test_143 rfl rfl ?_
        refine J.imul dX12_test_144 ?_
        refine J.iload_n dX12_test_145 rfl rfl ?_
        refine J.iadd dX12_test_146 ?_
        refine J.istore (vs' := [some (.ref (eB E + 83)), some (.int x1), some (.int x2), some (.int x3), some (.int x4), some (.int x5), some (.int (I1 83 49)), some (.int ((4 * x1) + x2))]) dX12_test_147 (by decide) rfl ?_
        refine J.aload_n dX12_test_149 rfl rfl ?_
        refine J.getR (r := 130) fl_X12_150 rfl dX12_test_150 (lt83 hs) (kk83 hs) (rr83_58 hs) ?_
        refine J.iload dX12_test_153 rfl ?_
        refine J.iload_n dX12_test_155 rfl rfl ?_
        have hj : J E mX12_test (d + 2) Q 0 0 169 [some (.ref (eB E + 83)), some (.int x1), some (.int x2), some (.int x3), some (.int x4), some (.int x5), some (.int (I1 83 49)), some (.int ((4 * x1) + x2))] [.int (if x3 = 0 then x4 else x4 + 16 : Int32), .int ((4 * x1) + x2), .ref (eB E + 130)] h I4 L5 := by
          obtain ⟨hb9, hW⟩ := hW
          refine J.iast dX12_test_169 (lt130 hs) (kk130 hs) hb9 ?_
          refine J.aload_n dX12_test_170 rfl rfl ?_
          refine J.getR (r := 131) fl_X12_153 rfl dX12_test_171 (lt83 hs) (kk83 hs) (rr83_59 hs) ?_
          refine J.iload dX12_test_174 rfl ?_
          refine J.iload dX12_test_176 rfl ?_
          refine J.iast dX12_test_178 (lt131 hs) (kk131 hs) hb9 ?_
          refine J.aload_n dX12_test_179 rfl rfl ?_
          refine J.getR (r := 132) fl_X12_156 rfl dX12_test_180 (lt83 hs) (kk83 hs) (rr83_60 hs) ?_
          refine J.iload dX12_test_183 rfl ?_
          refine J.iload dX12_test_185 rfl ?_
          refine J.iast dX12_test_187 (lt132 hs) (kk132 hs) hb9 ?_
          refine J.aload_n dX12_test_188 rfl rfl ?_
          refine J.getR (r := 127) fl_X12_141 rfl dX12_test_189 (lt83 hs) (kk83 hs) (rr83_55 hs) ?_
          refine J.iload_n dX12_test_192 rfl rfl ?_
          refine J.iload_n dX12_test_193 rfl rfl ?_
          refine J.iconst (v := 1) dX12_test_194 (by decide) ?_
          refine J.iadd dX12_test_195 ?_
          obtain ⟨hb10, hW⟩ := hW
          refine J.iast dX12_test_196 (lt127 hs) (kk127 hs) hb10 ?_
          refine J.iconst (v := 1) dX12_test_197 (by decide) ?_
          exact J.reti dX12_test_198 rfl (bz_nar (Or.inr rfl)) hW
        refine J.if_eq 167 dX12_test_156 (by decide) (fun hc8 => ?_) (fun hc8 => ?_)
        · refine J.iload dX12_test_167 rfl ?_
          rw [show ((if x3 = 0 then x4 else x4 + 16 : Int32) = x4) from by simp only [eq_true hc8, if_true, if_false, bI_true, bI_false, and_true, true_and, and_false, false_and, or_true, true_or, or_false, false_or, not_true_eq_false, not_false_eq_true]] at hj
          exact hj
        · refine J.iload dX12_test_159 rfl ?_
          refine J.bipush (v := 16) dX12_test_161 (by decide) ?_
          refine J.iadd dX12_test_163 ?_
          refine J.goto 169 dX12_test_164 (by decide) ?_
          rw [show ((if x3 = 0 then x4 else x4 + 16 : Int32) = x4 + 16) from by simp only [eq_false hc8, if_true, if_false, bI_true, bI_false, and_true, true_and, and_false, false_and, or_true, true_or, or_false, false_or, not_true_eq_false, not_false_eq_true]] at hj
          exact hj
  · have hW := hW.2 hc3
    refine J.aload_n dX12_test_116 rfl rfl ?_
    refine J.callV (M' := mX12_wrong) (index := 316) (bc := 0) (bs := 0) (bc' := 0) (bs' := 0) (st := []) [] ml_X12_316 cv_X12_wrong dX12_test_117 (lt83 hs) (kk83 hs) (by decide) rfl rfl rfl rfl (Nat.le_of_ble_eq_true rfl) (kqi hW (fun r12 I11 hW => ?_))
    obtain ⟨hz, hW⟩ := hW
    exact J.reti dX12_test_120 rfl (bz_nar hz) hW
set_option maxRecDepth 100000 in
set_option maxHeartbeats 4000000 in
theorem w_X12_actWord {E : Envt} {d : Nat} {Q : Pst} {h : mS} {I : mI} {L : mL} (hs : SL h) (x1 : Int32) 
    (hW : (((x1 = 0) → (∀ y11 : Int32, y11 = (if ((I 83 48) = 2) ∧ ((lg_cmp (L 83 50) 6447474) = 0) then 0 else if ((I 83 48) = 2) ∧ ((lg_cmp (L 83 50) 1734960756) = 0) then 1 else if ((I 83 48) = 2) ∧ ((lg_cmp (L 83 50) 1650549611) = 0) then 2 else (-1)) → Q (some (.int y11)) h I L)) ∧ (¬ (x1 = 0) → (∀ y18 : Int32, y18 = (if ((I 83 48) = 2) ∧ ((lg_cmp (L 83 50) 1836020325) = 0) then 3 else if ((I 83 48) = 2) ∧ ((lg_cmp (L 83 50) 1818588019) = 0) then 4 else (-1)) → Q (some (.int y18)) h I L)))) :
    CT E mX12_actWord (d + 1) 0 0 [.ref (eB E + 83), .int x1] h I L Q := by
  refine CT.of (by decide) [some (.ref (eB E + 83)), some (.int x1)] rfl (Nat.le_of_ble_eq_true rfl) ?_
  refine J.iload_n dX12_actWord_0 rfl rfl ?_
  refine J.if_eq 34 dX12_actWord_1 (by decide) (fun hc1 => ?_) (fun hc1 => ?_)
  · have hW := hW.1 hc1
    refine J.aload_n dX12_actWord_34 rfl rfl ?_
    refine J.ldc2 (v := 6447474) dX12_actWord_35 ck_X12_361 ?_
    refine J.callV (M' := mX12_isWord) (index := 325) (bc := 0) (bs := 0) (bc' := 0) (bs' := 0) (st := []) [.long 6447474] ml_X12_325 cv_X12_isWord dX12_actWord_38 (lt83 hs) (kk83 hs) (by decide) rfl rfl rfl rfl (Nat.le_of_ble_eq_true rfl) (kqi (w_X12_isWord (d := d) (Q := qi h L (fun v I' => I' = I ∧ v = bI (((I 83 48) = 2) ∧ ((lg_cmp (L 83 50) 6447474) = 0)))) hs 6447474 ⟨rfl, rfl, _, rfl, rfl, rfl⟩) (fun v2 I3 hv => ?_))
    rw [hv.1, hv.2]
    obtain ⟨y11, hyy11⟩ : ∃ y11 : Int32, y11 = (if ((I 83 48) = 2) ∧ ((lg_cmp (L 83 50) 6447474) = 0) then 0 else if ((I 83 48) = 2) ∧ ((lg_cmp (L 83 50) 1734960756) = 0) then 1 else if ((I 83 48) = 2) ∧ ((lg_cmp (L 83 50) 1650549611) = 0) then 2 else (-1)) := ⟨_, rfl⟩
    have hW := hW y11 hyy11
    have hj : J E mX12_actWord (d + 1) Q 0 0 77 [some (.ref (eB E + 83)), some (.int x1)] [.int y11] h I L := by
      exact J.reti dX12_actWord_77 rfl rfl hW
    refine J.if_eq 48 dX12_actWord_41 (by decide) (fun hc4 => ?_) (fun hc4 => ?_)
    · have hc4 := bI_0.mp hc4
      refine J.aload_n dX12_actWord_48 rfl rfl ?_
      refine J.ldc2 (v := 1734960756) dX12_actWord_49 ck_X12_363 ?_
      refine J.callV (M' := mX12_isWord) (index := 325) (bc := 0) (bs := 0) (bc' := 0) (bs' := 0) (st := []) [.long 1734960756] ml_X12_325 cv_X12_isWord dX12_actWord_52 (lt83 hs) (kk83 hs) (by decide) rfl rfl rfl rfl (Nat.le_of_ble_eq_true rfl) (kqi (w_X12_isWord (d := d) (Q := qi h L (fun v I' => I' = I ∧ v = bI (((I 83 48) = 2) ∧ ((lg_cmp (L 83 50) 1734960756) = 0)))) hs 1734960756 ⟨rfl, rfl, _, rfl, rfl, rfl⟩) (fun v5 I6 hv => ?_))
      rw [hv.1, hv.2]
      refine J.if_eq 62 dX12_actWord_55 (by decide) (fun hc7 => ?_) (fun hc7 => ?_)
      · have hc7 := bI_0.mp hc7
        refine J.aload_n dX12_actWord_62 rfl rfl ?_
        refine J.ldc2 (v := 1650549611) dX12_actWord_63 ck_X12_365 ?_
        refine J.callV (M' := mX12_isWord) (index := 325) (bc := 0) (bs := 0) (bc' := 0) (bs' := 0) (st := []) [.long 1650549611] ml_X12_325 cv_X12_isWord dX12_actWord_66 (lt83 hs) (kk83 hs) (by decide) rfl rfl rfl rfl (Nat.le_of_ble_eq_true rfl) (kqi (w_X12_isWord (d := d) (Q := qi h L (fun v I' => I' = I ∧ v = bI (((I 83 48) = 2) ∧ ((lg_cmp (L 83 50) 1650549611) = 0)))) hs 1650549611 ⟨rfl, rfl, _, rfl, rfl, rfl⟩) (fun v8 I9 hv => ?_))
        rw [hv.1, hv.2]
        refine J.if_eq 76 dX12_actWord_69 (by decide) (fun hc10 => ?_) (fun hc10 => ?_)
        · have hc10 := bI_0.mp hc10
          refine J.iconst (v := (-1)) dX12_actWord_76 (by decide) ?_
          rw [show y11 = (-1) from by simp only [hyy11, eq_false hc4, eq_false hc7, eq_false hc10, if_true, if_false, bI_true, bI_false, and_true, true_and, and_false, false_and, or_true, true_or, or_false, false_or, not_true_eq_false, not_false_eq_true]] at hj
          exact hj
        · have hc10 := bI_n0.mp hc10
          refine J.iconst (v := 2) dX12_actWord_72 (by decide) ?_
          refine J.goto 77 dX12_actWord_73 (by decide) ?_
          rw [show y11 = 2 from by simp only [hyy11, eq_false hc4, eq_false hc7, eq_true hc10, if_true, if_false, bI_true, bI_false, and_true, true_and, and_false, false_and, or_true, true_or, or_false, false_or, not_true_eq_false, not_false_eq_true]] at hj
          exact hj
      · have hc7 := bI_n0.mp hc7
        refine J.iconst (v := 1) dX12_actWord_58 (by decide) ?_
        refine J.goto 77 dX12_actWord_59 (by decide) ?_
        rw [show y11 = 1 from by simp only [hyy11, eq_false hc4, eq_true hc7, if_true, if_false, bI_true, bI_false, and_true, true_and, and_false, false_and, or_true, true_or, or_false, false_or, not_true_eq_false, not_false_eq_true]] at hj
        exact hj
    · have hc4 := bI_n0.mp hc4
      refine J.iconst (v := 0) dX12_actWord_44 (by decide) ?_
      refine J.goto 77 dX12_actWord_45 (by decide) ?_
      rw [show y11 = 0 from by simp only [hyy11, eq_true hc4, if_true, if_false, bI_true, bI_false, and_true, true_and, and_false, false_and, or_true, true_or, or_false, false_or, not_true_eq_false, not_false_eq_true]] at hj
      exact hj
  · have hW := hW.2 hc1
    refine J.aload_n dX12_actWord_4 rfl rfl ?_
    refine J.ldc2 (v := 1836020325) dX12_actWord_5 ck_X12_357 ?_
    refine J.callV (M' := mX12_isWord) (index := 325) (bc := 0) (bs := 0) (bc' := 0) (bs' := 0) (st := []) [.long 1836020325] ml_X12_325 cv_X12_isWord dX12_actWord_8 (lt83 hs) (kk83 hs) (by decide) rfl rfl rfl rfl (Nat.le_of_ble_eq_true rfl) (kqi (w_X12_isWord (d := d) (Q := qi h L (fun v I' => I' = I ∧ v = bI (((I 83 48) = 2) ∧ ((lg_cmp (L 83 50) 1836020325) = 0)))) hs 1836020325 ⟨rfl, rfl, _, rfl, rfl, rfl⟩) (fun v12 I13 hv => ?_))
    rw [hv.1, hv.2]
    obtain ⟨y18, hyy18⟩ : ∃ y18 : Int32, y18 = (if ((I 83 48) = 2) ∧ ((lg_cmp (L 83 50) 1836020325) = 0) then 3 else if ((I 83 48) = 2) ∧ ((lg_cmp (L 83 50) 1818588019) = 0) then 4 else (-1)) := ⟨_, rfl⟩
    have hW := hW y18 hyy18
    have hj : J E mX12_actWord (d + 1) Q 0 0 33 [some (.ref (eB E + 83)), some (.int x1)] [.int y18] h I L := by
      exact J.reti dX12_actWord_33 rfl rfl hW
    refine J.if_eq 18 dX12_actWord_11 (by decide) (fun hc14 => ?_) (fun hc14 => ?_)
    · have hc14 := bI_0.mp hc14
      refine J.aload_n dX12_actWord_18 rfl rfl ?_
      refine J.ldc2 (v := 1818588019) dX12_actWord_19 ck_X12_359 ?_
      refine J.callV (M' := mX12_isWord) (index := 325) (bc := 0) (bs := 0) (bc' := 0) (bs' := 0) (st := []) [.long 1818588019] ml_X12_325 cv_X12_isWord dX12_actWord_22 (lt83 hs) (kk83 hs) (by decide) rfl rfl rfl rfl (Nat.le_of_ble_eq_true rfl) (kqi (w_X12_isWord (d := d) (Q := qi h L (fun v I' => I' = I ∧ v = bI (((I 83 48) = 2) ∧ ((lg_cmp (L 83 50) 1818588019) = 0)))) hs 1818588019 ⟨rfl, rfl, _, rfl, rfl, rfl⟩) (fun v15 I16 hv => ?_))
      rw [hv.1, hv.2]
      refine J.if_eq 32 dX12_actWord_25 (by decide) (fun hc17 => ?_) (fun hc17 => ?_)
      · have hc17 := bI_0.mp hc17
        refine J.iconst (v := (-1)) dX12_actWord_32 (by decide) ?_
        rw [show y18 = (-1) from by simp only [hyy18, eq_false hc14, eq_false hc17, if_true, if_false, bI_true, bI_false, and_true, true_and, and_false, false_and, or_true, true_or, or_false, false_or, not_true_eq_false, not_false_eq_true]] at hj
        exact hj
      · have hc17 := bI_n0.mp hc17
        refine J.iconst (v := 4) dX12_actWord_28 (by decide) ?_
        refine J.goto 33 dX12_actWord_29 (by decide) ?_
        rw [show y18 = 4 from by simp only [hyy18, eq_false hc14, eq_true hc17, if_true, if_false, bI_true, bI_false, and_true, true_and, and_false, false_and, or_true, true_or, or_false, false_or, not_true_eq_false, not_false_eq_true]] at hj
        exact hj
    · have hc14 := bI_n0.mp hc14
      refine J.iconst (v := 3) dX12_actWord_14 (by decide) ?_
      refine J.goto 33 dX12_actWord_15 (by decide) ?_
      rw [show y18 = 3 from by simp only [hyy18, eq_true hc14, if_true, if_false, bI_true, bI_false, and_true, true_and, and_false, false_and, or_true, true_or, or_false, false_or, not_true_eq_false, not_false_eq_true]] at hj
      exact hj
