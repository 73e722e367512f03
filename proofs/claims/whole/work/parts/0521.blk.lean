set_option maxRecDepth 100000 in
set_option maxHeartbeats 4000000 in
theorem w_X12_apart {E : Envt} {d : Nat} {Q : Pst} {h : mS} {I : mI} {L : mL} (hs : SL h) (x0 : Int32) (x1 : Int32) 
    (hW : Q (some (.int (if x1 ≤ x0 then x0 - x1 else x1 - x0 : Int32))) h I L) :
    CT E mX12_apart d 0 0 [.int x0, .int x1] h I L Q := by
  refine CT.of (by decide) [some (.int x0), some (.int x1)] rfl (Nat.le_of_ble_eq_true rfl) ?_
  refine J.iload_n dX12_apart_0 rfl rfl ?_
  refine J.iload_n dX12_apart_1 rfl rfl ?_
  have hj : J E mX12_apart d Q 0 0 14 [some (.int x0), some (.int x1)] [.int (if x1 ≤ x0 then x0 - x1 else x1 - x0 : Int32)] h I L := by
    exact J.reti dX12_apart_14 rfl rfl hW
  refine J.ic_ge 11 dX12_apart_2 (by decide) (fun hc1 => ?_) (fun hc1 => ?_)
  · refine J.iload_n dX12_apart_11 rfl rfl ?_
    refine J.iload_n dX12_apart_12 rfl rfl ?_
    refine J.isub dX12_apart_13 ?_
    rw [show ((if x1 ≤ x0 then x0 - x1 else x1 - x0 : Int32) = x0 - x1) from by simp only [eq_true hc1, if_true, if_false, bI_true, bI_false, and_true, true_and, and_false, false_and, or_true, true_or, or_false, false_or, not_true_eq_false, not_false_eq_true]] at hj
    exact hj
  · refine J.iload_n dX12_apart_5 rfl rfl ?_
    refine J.iload_n dX12_apart_6 rfl rfl ?_
    refine J.isub dX12_apart_7 ?_
    refine J.goto 14 dX12_apart_8 (by decide) ?_
    rw [show ((if x1 ≤ x0 then x0 - x1 else x1 - x0 : Int32) = x1 - x0) from by simp only [eq_false hc1, if_true, if_false, bI_true, bI_false, and_true, true_and, and_false, false_and, or_true, true_or, or_false, false_or, not_true_eq_false, not_false_eq_true]] at hj
    exact hj
set_option maxRecDepth 100000 in
set_option maxHeartbeats 4000000 in
theorem w_X12_hasElder {E : Envt} {d : Nat} {Q : Pst} {h : mS} {I : mI} {L : mL} (hs : SL h) (x1 : Int32) 
    (hW : J E mX12_hasElder d Q 0 0 2 [some (.ref (eB E + 83)), some (.int x1), some (.int 0), none] [] h I L) :
    CT E mX12_hasElder d 0 0 [.ref (eB E + 83), .int x1] h I L Q := by
  refine CT.of (by decide) [some (.ref (eB E + 83)), some (.int x1), none, none] rfl (Nat.le_of_ble_eq_true rfl) ?_
  refine J.iconst (v := 0) dX12_hasElder_0 (by decide) ?_
  refine J.istore_n (vs' := [some (.ref (eB E + 83)), some (.int x1), some (.int 0), none]) dX12_hasElder_1 rfl (by decide) rfl ?_
  exact hW
set_option maxRecDepth 100000 in
set_option maxHeartbeats 4000000 in
theorem w_X12_hasElder_2 {E : Envt} {d : Nat} {Q : Pst} {h : mS} {I : mI} {L : mL} (hs : SL h)    (x1 : Int32) (x2 : Int32)
    (hW : ((((I 95 0) ≤ x2) → Q (some (.int 0)) h I L) ∧ (¬ ((I 95 0) ≤ x2) → (vp_in x2 80 ∧ (vp_in x1 80 ∧ (((x2 = x1) → J E mX12_hasElder d Q 0 0 2 [some (.ref (eB E + 83)), some (.int x1), some (.int (x2 + 1)), none] [] h I L) ∧ (¬ (x2 = x1) → ((((I 96 x2.toNatClampNeg) = (I 96 x1.toNatClampNeg)) → ((((I 97 x2.toNatClampNeg) = 0) → ((((I 100 x2.toNatClampNeg) = 0) → ((((I 103 x2.toNatClampNeg) = 0) → (((((I 99 x2.toNatClampNeg) < (I 99 x1.toNatClampNeg)) ∨ (((I 99 x2.toNatClampNeg) = (I 99 x1.toNatClampNeg)) ∧ (¬ (x1 ≤ x2)))) → Q (some (.int 1)) h I L) ∧ (¬ (((I 99 x2.toNatClampNeg) < (I 99 x1.toNatClampNeg)) ∨ (((I 99 x2.toNatClampNeg) = (I 99 x1.toNatClampNeg)) ∧ (¬ (x1 ≤ x2)))) → J E mX12_hasElder d Q 0 0 2 [some (.ref (eB E + 83)), some (.int x1), some (.int (x2 + 1)), none] [] h I L))) ∧ (¬ ((I 103 x2.toNatClampNeg) = 0) → J E mX12_hasElder d Q 0 0 2 [some (.ref (eB E + 83)), some (.int x1), some (.int (x2 + 1)), none] [] h I L))) ∧ (¬ ((I 100 x2.toNatClampNeg) = 0) → J E mX12_hasElder d Q 0 0 2 [some (.ref (eB E + 83)), some (.int x1), some (.int (x2 + 1)), none] [] h I L))) ∧ (¬ ((I 97 x2.toNatClampNeg) = 0) → J E mX12_hasElder d Q 0 0 2 [some (.ref (eB E + 83)), some (.int x1), some (.int (x2 + 1)), none] [] h I L))) ∧ (¬ ((I 96 x2.toNatClampNeg) = (I 96 x1.toNatClampNeg)) → J E mX12_hasElder d Q 0 0 2 [some (.ref (eB E + 83)), some (.int x1), some (.int (x2 + 1)), none] [] h I L))))))))) :
    J E mX12_hasElder d Q 0 0 2 [some (.ref (eB E + 83)), some (.int x1), some (.int x2), none] [] h I L := by
  refine J.iload_n dX12_hasElder_2 rfl rfl ?_
  refine J.aload_n dX12_hasElder_3 rfl rfl ?_
  refine J.getR (r := 95) fl_X12_44 rfl dX12_hasElder_4 (lt83 hs) (kk83 hs) (rr83_12 hs) ?_
  refine J.iconst (v := 0) dX12_hasElder_7 (by decide) ?_
  refine J.iald (x := I 95 0) dX12_hasElder_8 (lt95 hs) (kk95 hs) (by unfold vp_in; decide) rfl ?_
  refine J.ic_ge 112 dX12_hasElder_9 (by decide) (fun hc1 => ?_) (fun hc1 => ?_)
  · have hW := hW.1 hc1
    refine J.iconst (v := 0) dX12_hasElder_112 (by decide) ?_
    exact J.reti dX12_hasElder_113 rfl (bz_nar (Or.inl rfl)) hW
  · have hW := hW.2 hc1
    refine J.aload_n dX12_hasElder_12 rfl rfl ?_
    refine J.getR (r := 99) fl_X12_56 rfl dX12_hasElder_13 (lt83 hs) (kk83 hs) (rr83_16 hs) ?_
    refine J.iload_n dX12_hasElder_16 rfl rfl ?_
    obtain ⟨hb2, hW⟩ := hW
    refine J.iald (x := I 99 x2.toNatClampNeg) dX12_hasElder_17 (lt99 hs) (kk99 hs) hb2 rfl ?_
    refine J.aload_n dX12_hasElder_18 rfl rfl ?_
    refine J.getR (r := 99) fl_X12_56 rfl dX12_hasElder_19 (lt83 hs) (kk83 hs) (rr83_16 hs) ?_
    refine J.iload_n dX12_hasElder_22 rfl rfl ?_
    obtain ⟨hb3, hW⟩ := hW
    refine J.iald (x := I 99 x1.toNatClampNeg) dX12_hasElder_23 (lt99 hs) (kk99 hs) hb3 rfl ?_
    have hj : J E mX12_hasElder d Q 0 0 52 [some (.ref (eB E + 83)), some (.int x1), some (.int x2), none] [.int (bI (((I 99 x2.toNatClampNeg) < (I 99 x1.toNatClampNeg)) ∨ (((I 99 x2.toNatClampNeg) = (I 99 x1.toNatClampNeg)) ∧ (¬ (x1 ≤ x2)))))] h I L := by
      refine J.istore_n (vs' := [some (.ref (eB E + 83)), some (.int x1), some (.int x2), some (.int (bI (((I 99 x2.toNatClampNeg) < (I 99 x1.toNatClampNeg)) ∨ (((I 99 x2.toNatClampNeg) = (I 99 x1.toNatClampNeg)) ∧ (¬ (x1 ≤ x2))))))]) dX12_hasElder_52 rfl (by decide) rfl ?_
      refine J.iload_n dX12_hasElder_53 rfl rfl ?_
      refine J.iload_n dX12_hasElder_54 rfl rfl ?_
      refine J.ic_eq 106 dX12_hasElder_55 (by decide) (fun hc7 => ?_) (fun hc7 => ?_)
      · have hW := hW.1 hc7
        refine J.iinc (v := x2 + 1) (vs' := [some (.ref (eB E + 83)), some (.int x1), some (.int (x2 + 1)), some (.int (bI (((I 99 x2.toNatClampNeg) < (I 99 x1.toNatClampNeg)) ∨ (((I 99 x2.toNatClampNeg) = (I 99 x1.toNatClampNeg)) ∧ (¬ (x1 ≤ x2))))))]) dX12_hasElder_106 rfl (by rfl) (by decide) rfl ?_
        refine J.goto 2 dX12_hasElder_109 (by decide) ?_
        exact J.mask [true, true, true, false] rfl hW
      · have hW := hW.2 hc7
        refine J.aload_n dX12_hasElder_58 rfl rfl ?_
        refine J.getR (r := 96) fl_X12_47 rfl dX12_hasElder_59 (lt83 hs) (kk83 hs) (rr83_13 hs) ?_
        refine J.iload_n dX12_hasElder_62 rfl rfl ?_
        refine J.iald (x := I 96 x2.toNatClampNeg) dX12_hasElder_63 (lt96 hs) (kk96 hs) hb2 rfl ?_
        refine J.aload_n dX12_hasElder_64 rfl rfl ?_
        refine J.getR (r := 96) fl_X12_47 rfl dX12_hasElder_65 (lt83 hs) (kk83 hs) (rr83_13 hs) ?_
        refine J.iload_n dX12_hasElder_68 rfl rfl ?_
        refine J.iald (x := I 96 x1.toNatClampNeg) dX12_hasElder_69 (lt96 hs) (kk96 hs) hb3 rfl ?_
        refine J.ic_ne 106 dX12_hasElder_70 (by decide) (fun hc8 => ?_) (fun hc8 => ?_)
        · have hW := hW.2 hc8
          refine J.iinc (v := x2 + 1) (vs' := [some (.ref (eB E + 83)), some (.int x1), some (.int (x2 + 1)), some (.int (bI (((I 99 x2.toNatClampNeg) < (I 99 x1.toNatClampNeg)) ∨ (((I 99 x2.toNatClampNeg) = (I 99 x1.toNatClampNeg)) ∧ (¬ (x1 ≤ x2))))))]) dX12_hasElder_106 rfl (by rfl) (by decide) rfl ?_
          refine J.goto 2 dX12_hasElder_109 (by decide) ?_
          exact J.mask [true, true, true, false] rfl hW
        · have hW := hW.1 hc8
          refine J.aload_n dX12_hasElder_73 rfl rfl ?_
          refine J.getR (r := 97) fl_X12_50 rfl dX12_hasElder_74 (lt83 hs) (kk83 hs) (rr83_14 hs) ?_
          refine J.iload_n dX12_hasElder_77 rfl rfl ?_
          refine J.iald (x := I 97 x2.toNatClampNeg) dX12_hasElder_78 (lt97 hs) (kk97 hs) hb2 rfl ?_
          refine J.if_ne 106 dX12_hasElder_79 (by decide) (fun hc9 => ?_) (fun hc9 => ?_)
          · have hW := hW.2 hc9
            refine J.iinc (v := x2 + 1) (vs' := [some (.ref (eB E + 83)), some (.int x1), some (.int (x2 + 1)), some (.int (bI (((I 99 x2.toNatClampNeg) < (I 99 x1.toNatClampNeg)) ∨ (((I 99 x2.toNatClampNeg) = (I 99 x1.toNatClampNeg)) ∧ (¬ (x1 ≤ x2))))))]) dX12_hasElder_106 rfl (by rfl) (by decide) rfl ?_
            refine J.goto 2 dX12_hasElder_109 (by decide) ?_
            exact J.mask [true, true, true, false] rfl hW
          · have hW := hW.1 hc9
            refine J.aload_n dX12_hasElder_82 rfl rfl ?_
            refine J.getR (r := 100) fl_X12_59 rfl dX12_hasElder_83 (lt83 hs) (kk83 hs) (rr83_17 hs) ?_
            refine J.iload_n dX12_hasElder_86 rfl rfl ?_
            refine J.zald (x := I 100 x2.toNatClampNeg) dX12_hasElder_87 (lt100 hs) (kk100 hs) hb2 rfl ?_
            refine J.if_ne 106 dX12_hasElder_88 (by decide) (fun hc10 => ?_) (fun hc10 => ?_)
            · have hW := hW.2 hc10
              refine J.iinc (v := x2 + 1) (vs' := [some (.ref (eB E + 83)), some (.int x1), some (.int (x2 + 1)), some (.int (bI (((I 99 x2.toNatClampNeg) < (I 99 x1.toNatClampNeg)) ∨ (((I 99 x2.toNatClampNeg) = (I 99 x1.toNatClampNeg)) ∧ (¬ (x1 ≤ x2))))))]) dX12_hasElder_106 rfl (by rfl) (by decide) rfl ?_
              refine J.goto 2 dX12_hasElder_109 (by decide) ?_
              exact J.mask [true, true, true, false] rfl hW
            · have hW := hW.1 hc10
              refine J.aload_n dX12_hasElder_91 rfl rfl ?_
              refine J.getR (r := 103) fl_X12_69 rfl dX12_hasElder_92 (lt83 hs) (kk83 hs) (rr83_20 hs) ?_
              refine J.iload_n dX12_hasElder_95 rfl rfl ?_
              refine J.zald (x := I 103 x2.toNatClampNeg) dX12_hasElder_96 (lt103 hs) (kk103 hs) hb2 rfl ?_
              refine J.if_ne 106 dX12_hasElder_97 (by decide) (fun hc11 => ?_) (fun hc11 => ?_)
              · have hW := hW.2 hc11
                refine J.iinc (v := x2 + 1) (vs' := [some (.ref (eB E + 83)), some (.int x1), some (.int (x2 + 1)), some (.int (bI (((I 99 x2.toNatClampNeg) < (I 99 x1.toNatClampNeg)) ∨ (((I 99 x2.toNatClampNeg) = (I 99 x1.toNatClampNeg)) ∧ (¬ (x1 ≤ x2))))))]) dX12_hasElder_106 rfl (by rfl) (by decide) rfl ?_
                refine J.goto 2 dX12_hasElder_109 (by decide) ?_
                exact J.mask [true, true, true, false] rfl hW
              · have hW := hW.1 hc11
                refine J.iload_n dX12_hasElder_100 rfl rfl ?_
                refine J.if_eq 106 dX12_hasElder_101 (by decide) (fun hc12 => ?_) (fun hc12 => ?_)
                · have hc12 := bI_0.mp hc12
                  have hW := hW.2 hc12
                  refine J.iinc (v := x2 + 1) (vs' := [some (.ref (eB E + 83)), some (.int x1), some (.int (x2 + 1)), some (.int (bI (((I 99 x2.toNatClampNeg) < (I 99 x1.toNatClampNeg)) ∨ (((I 99 x2.toNatClampNeg) = (I 99 x1.toNatClampNeg)) ∧ (¬ (x1 ≤ x2))))))]) dX12_hasElder_106 rfl (by rfl) (by decide) rfl ?_
                  refine J.goto 2 dX12_hasElder_109 (by decide) ?_
                  exact J.mask [true, true, true, false] rfl hW
                · have hc12 := bI_n0.mp hc12
                  have hW := hW.1 hc12
                  refine J.iconst (v := 1) dX12_hasElder_104 (by decide) ?_
                  exact J.reti dX12_hasElder_105 rfl (bz_nar (Or.inr rfl)) hW
    refine J.ic_lt 47 dX12_hasElder_24 (by decide) (fun hc4 => ?_) (fun hc4 => ?_)
    · refine J.iconst (v := 1) dX12_hasElder_47 (by decide) ?_
      refine J.goto 52 dX12_hasElder_48 (by decide) ?_
      rw [show bI (((I 99 x2.toNatClampNeg) < (I 99 x1.toNatClampNeg)) ∨ (((I 99 x2.toNatClampNeg) = (I 99 x1.toNatClampNeg)) ∧ (¬ (x1 ≤ x2)))) = 1 from bI_t (by simp only [eq_true hc4, and_true, true_and, and_false, false_and, or_true, true_or, or_false, false_or, not_true_eq_false, not_false_eq_true])] at hj
      exact hj
    · refine J.aload_n dX12_hasElder_27 rfl rfl ?_
      refine J.getR (r := 99) fl_X12_56 rfl dX12_hasElder_28 (lt83 hs) (kk83 hs) (rr83_16 hs) ?_
      refine J.iload_n dX12_hasElder_31 rfl rfl ?_
      refine J.iald (x := I 99 x2.toNatClampNeg) dX12_hasElder_32 (lt99 hs) (kk99 hs) hb2 rfl ?_
      refine J.aload_n dX12_hasElder_33 rfl rfl ?_
      refine J.getR (r := 99) fl_X12_56 rfl dX12_hasElder_34 (lt83 hs) (kk83 hs) (rr83_16 hs) ?_
      refine J.iload_n dX12_hasElder_37 rfl rfl ?_
      refine J.iald (x := I 99 x1.toNatClampNeg) dX12_hasElder_38 (lt99 hs) (kk99 hs) hb3 rfl ?_
      refine J.ic_ne 51 dX12_hasElder_39 (by decide) (fun hc5 => ?_) (fun hc5 => ?_)
      · refine J.iconst (v := 0) dX12_hasElder_51 (by decide) ?_
        rw [show bI (((I 99 x2.toNatClampNeg) < (I 99 x1.toNatClampNeg)) ∨ (((I 99 x2.toNatClampNeg) = (I 99 x1.toNatClampNeg)) ∧ (¬ (x1 ≤ x2)))) = 0 from bI_f (by simp only [eq_false hc4, eq_false hc5, and_true, true_and, and_false, false_and, or_true, true_or, or_false, false_or, not_true_eq_false, not_false_eq_true])] at hj
        exact hj
      · refine J.iload_n dX12_hasElder_42 rfl rfl ?_
        refine J.iload_n dX12_hasElder_43 rfl rfl ?_
        refine J.ic_ge 51 dX12_hasElder_44 (by decide) (fun hc6 => ?_) (fun hc6 => ?_)
        · refine J.iconst (v := 0) dX12_hasElder_51 (by decide) ?_
          rw [show bI (((I 99 x2.toNatClampNeg) < (I 99 x1.toNatClampNeg)) ∨ (((I 99 x2.toNatClampNeg) = (I 99 x1.toNatClampNeg)) ∧ (¬ (x1 ≤ x2)))) = 0 from bI_f (by simp only [eq_false hc4, eq_true hc5, eq_true hc6, and_true, true_and, and_false, false_and, or_true, true_or, or_false, false_or, not_true_eq_false, not_false_eq_true])] at hj
          exact hj
        · refine J.iconst (v := 1) dX12_hasElder_47 (by decide) ?_
          refine J.goto 52 dX12_hasElder_48 (by decide) ?_
          rw [show bI (((I 99 x2.toNatClampNeg) < (I 99 x1.toNatClampNeg)) ∨ (((I 99 x2.toNatClampNeg) = (I 99 x1.toNatClampNeg)) ∧ (¬ (x1 ≤ x2)))) = 1 from bI_t (by simp only [eq_false hc4, eq_true hc5, eq_false hc6, and_true, true_and, and_false, false_and, or_true, true_or, or_false, false_or, not_true_eq_false, not_false_eq_true])] at hj
          exact hj
set_option maxRecDepth 100000 in
set_option maxHeartbeats 4000000 in
theorem w_X12_lookAt {E : Envt} {d : Nat} {Q : Pst} {h : mS} {I : mI} {L : mL} (hs : SL h) (x1 : Int32) (x2 : Int32) (x3 : Int32) 
    (hW : (vp_in x1 80 ∧ (∀ y2 : Int32, y2 = I 96 x1.toNatClampNeg → (vp_in x2 80 ∧ (∀ y4 : Int32, y4 = I 96 x2.toNatClampNeg → (vp_in y2 32 ∧ (vp_in y4 32 ∧ ((vp_in y2 32) ∧ (CT E mX12_hasElder (d + 2) 0 0 [.ref (eB E + 83), .int x1] h (uI (uI (uI (uI I 133 0 (bI ((I 91 y2.toNatClampNeg) = (I 91 y4.toNatClampNeg)))) 133 1 (bI ((I 92 y2.toNatClampNeg) = (I 92 y4.toNatClampNeg)))) 133 2 (bI (¬ (((((uI (uI I 133 0 (bI ((I 91 y2.toNatClampNeg) = (I 91 y4.toNatClampNeg)))) 133 1 (bI ((I 92 y2.toNatClampNeg) = (I 92 y4.toNatClampNeg)))) 94 y2.toNatClampNeg) >>> (y4 &&& 31)) &&& 1) = 0)))) 133 3 (bI (¬ ((I 102 x1.toNatClampNeg) = 0)))) L (qi h L fun r15 I14 => (∀ y19 : Int32, y19 = (if (I14 98 x2.toNatClampNeg) ≤ (I14 98 x1.toNatClampNeg) then (I14 98 x1.toNatClampNeg) - (I14 98 x2.toNatClampNeg) else (I14 98 x2.toNatClampNeg) - (I14 98 x1.toNatClampNeg) : Int32) → (CT E mX12_kinOf (d + 2) 0 0 [.ref (eB E + 83), .int x1, .int x2, .int x3, .int (I14 88 0)] h (uI (uI I14 133 4 (bI (¬ (r15 = 0)))) 133 5 (if y19 ≤ 4 then y19 else 8 - y19 : Int32)) L (qi h L fun r22 I21 => ((vp_in x2 80) ∧ ((vp_in x1 80) ∧ Q none h (uI (uI (uI (uI (uI I21 133 6 r22) 133 7 (((uI I21 133 6 r22) 88 0) - ((uI I21 133 6 r22) 99 x2.toNatClampNeg))) 133 8 (((uI (uI I21 133 6 r22) 133 7 (((uI I21 133 6 r22) 88 0) - ((uI I21 133 6 r22) 99 x2.toNatClampNeg))) 88 0) - ((uI (uI I21 133 6 r22) 133 7 (((uI I21 133 6 r22) 88 0) - ((uI I21 133 6 r22) 99 x2.toNatClampNeg))) 99 x1.toNatClampNeg))) 133 9 (if (((uI (uI (uI I21 133 6 r22) 133 7 (((uI I21 133 6 r22) 88 0) - ((uI I21 133 6 r22) 99 x2.toNatClampNeg))) 133 8 (((uI (uI I21 133 6 r22) 133 7 (((uI I21 133 6 r22) 88 0) - ((uI I21 133 6 r22) 99 x2.toNatClampNeg))) 88 0) - ((uI (uI I21 133 6 r22) 133 7 (((uI I21 133 6 r22) 88 0) - ((uI I21 133 6 r22) 99 x2.toNatClampNeg))) 99 x1.toNatClampNeg))) 88 0) - ((uI (uI (uI I21 133 6 r22) 133 7 (((uI I21 133 6 r22) 88 0) - ((uI I21 133 6 r22) 99 x2.toNatClampNeg))) 133 8 (((uI (uI I21 133 6 r22) 133 7 (((uI I21 133 6 r22) 88 0) - ((uI I21 133 6 r22) 99 x2.toNatClampNeg))) 88 0) - ((uI (uI I21 133 6 r22) 133 7 (((uI I21 133 6 r22) 88 0) - ((uI I21 133 6 r22) 99 x2.toNatClampNeg))) 99 x1.toNatClampNeg))) 99 x2.toNatClampNeg)) ≤ (((uI (uI (uI I21 133 6 r22) 133 7 (((uI I21 133 6 r22) 88 0) - ((uI I21 133 6 r22) 99 x2.toNatClampNeg))) 133 8 (((uI (uI I21 133 6 r22) 133 7 (((uI I21 133 6 r22) 88 0) - ((uI I21 133 6 r22) 99 x2.toNatClampNeg))) 88 0) - ((uI (uI I21 133 6 r22) 133 7 (((uI I21 133 6 r22) 88 0) - ((uI I21 133 6 r22) 99 x2.toNatClampNeg))) 99 x1.toNatClampNeg))) 88 0) - ((uI (uI (uI I21 133 6 r22) 133 7 (((uI I21 133 6 r22) 88 0) - ((uI I21 133 6 r22) 99 x2.toNatClampNeg))) 133 8 (((uI (uI I21 133 6 r22) 133 7 (((uI I21 133 6 r22) 88 0) - ((uI I21 133 6 r22) 99 x2.toNatClampNeg))) 88 0) - ((uI (uI I21 133 6 r22) 133 7 (((uI I21 133 6 r22) 88 0) - ((uI I21 133 6 r22) 99 x2.toNatClampNeg))) 99 x1.toNatClampNeg))) 99 x1.toNatClampNeg)) then (((uI (uI (uI I21 133 6 r22) 133 7 (((uI I21 133 6 r22) 88 0) - ((uI I21 133 6 r22) 99 x2.toNatClampNeg))) 133 8 (((uI (uI I21 133 6 r22) 133 7 (((uI I21 133 6 r22) 88 0) - ((uI I21 133 6 r22) 99 x2.toNatClampNeg))) 88 0) - ((uI (uI I21 133 6 r22) 133 7 (((uI I21 133 6 r22) 88 0) - ((uI I21 133 6 r22) 99 x2.toNatClampNeg))) 99 x1.toNatClampNeg))) 88 0) - ((uI (uI (uI I21 133 6 r22) 133 7 (((uI I21 133 6 r22) 88 0) - ((uI I21 133 6 r22) 99 x2.toNatClampNeg))) 133 8 (((uI (uI I21 133 6 r22) 133 7 (((uI I21 133 6 r22) 88 0) - ((uI I21 133 6 r22) 99 x2.toNatClampNeg))) 88 0) - ((uI (uI I21 133 6 r22) 133 7 (((uI I21 133 6 r22) 88 0) - ((uI I21 133 6 r22) 99 x2.toNatClampNeg))) 99 x1.toNatClampNeg))) 99 x1.toNatClampNeg)) - (((uI (uI (uI I21 133 6 r22) 133 7 (((uI I21 133 6 r22) 88 0) - ((uI I21 133 6 r22) 99 x2.toNatClampNeg))) 133 8 (((uI (uI I21 133 6 r22) 133 7 (((uI I21 133 6 r22) 88 0) - ((uI I21 133 6 r22) 99 x2.toNatClampNeg))) 88 0) - ((uI (uI I21 133 6 r22) 133 7 (((uI I21 133 6 r22) 88 0) - ((uI I21 133 6 r22) 99 x2.toNatClampNeg))) 99 x1.toNatClampNeg))) 88 0) - ((uI (uI (uI I21 133 6 r22) 133 7 (((uI I21 133 6 r22) 88 0) - ((uI I21 133 6 r22) 99 x2.toNatClampNeg))) 133 8 (((uI (uI I21 133 6 r22) 133 7 (((uI I21 133 6 r22) 88 0) - ((uI I21 133 6 r22) 99 x2.toNatClampNeg))) 88 0) - ((uI (uI I21 133 6 r22) 133 7 (((uI I21 133 6 r22) 88 0) - ((uI I21 133 6 r22) 99 x2.toNatClampNeg))) 99 x1.toNatClampNeg))) 99 x2.toNatClampNeg)) else (((uI (uI (uI I21 133 6 r22) 133 7 (((uI I21 133 6 r22) 88 0) - ((uI I21 133 6 r22) 99 x2.toNatClampNeg))) 133 8 (((uI (uI I21 133 6 r22) 133 7 (((uI I21 133 6 r22) 88 0) - ((uI I21 133 6 r22) 99 x2.toNatClampNeg))) 88 0) - ((uI (uI I21 133 6 r22) 133 7 (((uI I21 133 6 r22) 88 0) - ((uI I21 133 6 r22) 99 x2.toNatClampNeg))) 99 x1.toNatClampNeg))) 88 0) - ((uI (uI (uI I21 133 6 r22) 133 7 (((uI I21 133 6 r22) 88 0) - ((uI I21 133 6 r22) 99 x2.toNatClampNeg))) 133 8 (((uI (uI I21 133 6 r22) 133 7 (((uI I21 133 6 r22) 88 0) - ((uI I21 133 6 r22) 99 x2.toNatClampNeg))) 88 0) - ((uI (uI I21 133 6 r22) 133 7 (((uI I21 133 6 r22) 88 0) - ((uI I21 133 6 r22) 99 x2.toNatClampNeg))) 99 x1.toNatClampNeg))) 99 x2.toNatClampNeg)) - (((uI (uI (uI I21 133 6 r22) 133 7 (((uI I21 133 6 r22) 88 0) - ((uI I21 133 6 r22) 99 x2.toNatClampNeg))) 133 8 (((uI (uI I21 133 6 r22) 133 7 (((uI I21 133 6 r22) 88 0) - ((uI I21 133 6 r22) 99 x2.toNatClampNeg))) 88 0) - ((uI (uI I21 133 6 r22) 133 7 (((uI I21 133 6 r22) 88 0) - ((uI I21 133 6 r22) 99 x2.toNatClampNeg))) 99 x1.toNatClampNeg))) 88 0) - ((uI (uI (uI I21 133 6 r22) 133 7 (((uI I21 133 6 r22) 88 0) - ((uI I21 133 6 r22) 99 x2.toNatClampNeg))) 133 8 (((uI (uI I21 133 6 r22) 133 7 (((uI I21 133 6 r22) 88 0) - ((uI I21 133 6 r22) 99 x2.toNatClampNeg))) 88 0) - ((uI (uI I21 133 6 r22) 133 7 (((uI I21 133 6 r22) 88 0) - ((uI I21 133 6 r22) 99 x2.toNatClampNeg))) 99 x1.toNatClampNeg))) 99 x1.toNatClampNeg)) : Int32)) 133 10 (I21 93 y4.toNatClampNeg)) L))))))))))))))) :
    CT E mX12_lookAt (d + 3) 0 0 [.ref (eB E + 83), .int x1, .int x2, .int x3] h I L Q := by
  refine CT.of (by decide) [some (.ref (eB E + 83)), some (.int x1), some (.int x2), some (.int x3), none, none, none] rfl (Nat.le_of_ble_eq_true rfl) ?_
  refine J.aload_n dX12_lookAt_0 rfl rfl ?_
  refine J.getR (r := 96) fl_X12_47 rfl dX12_lookAt_1 (lt83 hs) (kk83 hs) (rr83_13 hs) ?_
  refine J.iload_n dX12_lookAt_4 rfl rfl ?_
  obtain ⟨hb1, hW⟩ := hW
  refine J.iald (x := I 96 x1.toNatClampNeg) dX12_lookAt_5 (lt96 hs) (kk96 hs) hb1 rfl ?_
  refine J.topi (fun y2 hyy2 => ?_)
  have hW := hW y2 hyy2
  refine J.istore (vs' := [some (.ref (eB E + 83)), some (.int x1), some (.int x2), some (.int x3), some (.int y2), none, none]) dX12_lookAt_6 (by decide) rfl ?_
  refine J.aload_n dX12_lookAt_8 rfl rfl ?_
  refine J.getR (r := 96) fl_X12_47 rfl dX12_lookAt_9 (lt83 hs) (kk83 hs) (rr83_13 hs) ?_
  refine J.iload_n dX12_lookAt_12 rfl rfl ?_
  obtain ⟨hb3, hW⟩ := hW
  refine J.iald (x := I 96 x2.toNatClampNeg) dX12_lookAt_13 (lt96 hs) (kk96 hs) hb3 rfl ?_
  refine J.topi (fun y4 hyy4 => ?_)
  have hW := hW y4 hyy4
  refine J.istore (vs' := [some (.ref (eB E + 83)), some (.int x1), some (.int x2), some (.int x3), some (.int y2), some (.int y4), none]) dX12_lookAt_14 (by decide) rfl ?_
  refine J.aload_n dX12_lookAt_16 rfl rfl ?_
  refine J.getR (r := 133) fl_X12_159 rfl dX12_lookAt_17 (lt83 hs) (kk83 hs) (rr83_61 hs) ?_
  refine J.iconst (v := 0) dX12_lookAt_20 (by decide) ?_
  refine J.aload_n dX12_lookAt_21 rfl rfl ?_
  refine J.getR (r := 91) fl_X12_32 rfl dX12_lookAt_22 (lt83 hs) (kk83 hs) (rr83_8 hs) ?_
  refine J.iload dX12_lookAt_25 rfl ?_
  obtain ⟨hb5, hW⟩ := hW
  refine J.iald (x := I 91 y2.toNatClampNeg) dX12_lookAt_27 (lt91 hs) (kk91 hs) hb5 rfl ?_
  refine J.aload_n dX12_lookAt_28 rfl rfl ?_
  refine J.getR (r := 91) fl_X12_32 rfl dX12_lookAt_29 (lt83 hs) (kk83 hs) (rr83_8 hs) ?_
  refine J.iload dX12_lookAt_32 rfl ?_
  obtain ⟨hb6, hW⟩ := hW
  refine J.iald (x := I 91 y4.toNatClampNeg) dX12_lookAt_34 (lt91 hs) (kk91 hs) hb6 rfl ?_
  have hj : J E mX12_lookAt (d + 3) Q 0 0 43 [some (.ref (eB E + 83)), some (.int x1), some (.int x2), some (.int x3), some (.int y2), some (.int y4), none] [.int (bI ((I 91 y2.toNatClampNeg) = (I 91 y4.toNatClampNeg))), .int 0, .ref (eB E + 133)] h I L := by
    refine J.iast dX12_lookAt_43 (lt133 hs) (kk133 hs) (by unfold vp_in; decide) ?_
    refine J.aload_n dX12_lookAt_44 rfl rfl ?_
    refine J.getR (r := 133) fl_X12_159 rfl dX12_lookAt_45 (lt83 hs) (kk83 hs) (rr83_61 hs) ?_
    refine J.iconst (v := 1) dX12_lookAt_48 (by decide) ?_
    refine J.aload_n dX12_lookAt_49 rfl rfl ?_
    refine J.getR (r := 92) fl_X12_35 rfl dX12_lookAt_50 (lt83 hs) (kk83 hs) (rr83_9 hs) ?_
    refine J.iload dX12_lookAt_53 rfl ?_
    refine J.iald (x := I 92 y2.toNatClampNeg) dX12_lookAt_55 (lt92 hs) (kk92 hs) hb5 rfl ?_
    refine J.aload_n dX12_lookAt_56 rfl rfl ?_
    refine J.getR (r := 92) fl_X12_35 rfl dX12_lookAt_57 (lt83 hs) (kk83 hs) (rr83_9 hs) ?_
    refine J.iload dX12_lookAt_60 rfl ?_
    refine J.iald (x := I 92 y4.toNatClampNeg) dX12_lookAt_62 (lt92 hs) (kk92 hs) hb6 rfl ?_
    have hj : J E mX12_lookAt (d + 3) Q 0 0 71 [some (.ref (eB E + 83)), some (.int x1), some (.int x2), some (.int x3), some (.int y2), some (.int y4), none] [.int (bI ((I 92 y2.toNatClampNeg) = (I 92 y4.toNatClampNeg))), .int 1, .ref (eB E + 133)] h (uI I 133 0 (bI ((I 91 y2.toNatClampNeg) = (I 91 y4.toNatClampNeg)))) L := by
      refine J.iast dX12_lookAt_71 (lt133 hs) (kk133 hs) (by unfold vp_in; decide) ?_
      refine J.aload_n dX12_lookAt_72 rfl rfl ?_
      refine J.getR (r := 133) fl_X12_159 rfl dX12_lookAt_73 (lt83 hs) (kk83 hs) (rr83_61 hs) ?_
      refine J.iconst (v := 2) dX12_lookAt_76 (by decide) ?_
      refine J.aload_n dX12_lookAt_77 rfl rfl ?_
      refine J.iload dX12_lookAt_78 rfl ?_
      refine J.iload dX12_lookAt_80 rfl ?_
      obtain ⟨hb9, hW⟩ := hW
      refine J.callV (M' := mX12_areFeuding) (index := 233) (bc := 0) (bs := 0) (bc' := 0) (bs' := 0) (st := [.int 2, .ref (eB E + 133)]) [.int y2, .int y4] ml_X12_233 cv_X12_areFeuding dX12_lookAt_82 (lt83 hs) (kk83 hs) (by decide) rfl rfl rfl rfl (Nat.le_of_ble_eq_true rfl) (kqi (w_X12_areFeuding (d := d + 2) (Q := qi h L (fun v I' => I' = (uI (uI I 133 0 (bI ((I 91 y2.toNatClampNeg) = (I 91 y4.toNatClampNeg)))) 133 1 (bI ((I 92 y2.toNatClampNeg) = (I 92 y4.toNatClampNeg)))) ∧ v = bI (¬ (((((uI (uI I 133 0 (bI ((I 91 y2.toNatClampNeg) = (I 91 y4.toNatClampNeg)))) 133 1 (bI ((I 92 y2.toNatClampNeg) = (I 92 y4.toNatClampNeg)))) 94 y2.toNatClampNeg) >>> (y4 &&& 31)) &&& 1) = 0)))) hs y2 y4 ⟨hb9, rfl, rfl, _, rfl, rfl, rfl⟩) (fun v10 I11 hv => ?_))
      rw [hv.1, hv.2]
      have hj : J E mX12_lookAt (d + 3) Q 0 0 93 [some (.ref (eB E + 83)), some (.int x1), some (.int x2), some (.int x3), some (.int y2), some (.int y4), none] [.int (bI (¬ (((((uI (uI I 133 0 (bI ((I 91 y2.toNatClampNeg) = (I 91 y4.toNatClampNeg)))) 133 1 (bI ((I 92 y2.toNatClampNeg) = (I 92 y4.toNatClampNeg)))) 94 y2.toNatClampNeg) >>> (y4 &&& 31)) &&& 1) = 0))), .int 2, .ref (eB E + 133)] h (uI (uI I 133 0 (bI ((I 91 y2.toNatClampNeg) = (I 91 y4.toNatClampNeg)))) 133 1 (bI ((I 92 y2.toNatClampNeg) = (I 92 y4.toNatClampNeg)))) L := by
        refine J.iast dX12_lookAt_93 (lt133 hs) (kk133 hs) (by unfold vp_in; decide) ?_
        refine J.aload_n dX12_lookAt_94 rfl rfl ?_
        refine J.getR (r := 133) fl_X12_159 rfl dX12_lookAt_95 (lt83 hs) (kk83 hs) (rr83_61 hs) ?_
        refine J.iconst (v := 3) dX12_lookAt_98 (by decide) ?_
        refine J.aload_n dX12_lookAt_99 rfl rfl ?_
        refine J.getR (r := 102) fl_X12_66 rfl dX12_lookAt_100 (lt83 hs) (kk83 hs) (rr83_19 hs) ?_
        refine J.iload_n dX12_lookAt_103 rfl rfl ?_
        refine J.zald (x := I 102 x1.toNatClampNeg) dX12_lookAt_104 (lt102 hs) (kk102 hs) hb1 rfl ?_
        have hj : J E mX12_lookAt (d + 3) Q 0 0 113 [some (.ref (eB E + 83)), some (.int x1), some (.int x2), some (.int x3), some (.int y2), some (.int y4), none] [.int (bI (¬ ((I 102 x1.toNatClampNeg) = 0))), .int 3, .ref (eB E + 133)] h (uI (uI (uI I 133 0 (bI ((I 91 y2.toNatClampNeg) = (I 91 y4.toNatClampNeg)))) 133 1 (bI ((I 92 y2.toNatClampNeg) = (I 92 y4.toNatClampNeg)))) 133 2 (bI (¬ (((((uI (uI I 133 0 (bI ((I 91 y2.toNatClampNeg) = (I 91 y4.toNatClampNeg)))) 133 1 (bI ((I 92 y2.toNatClampNeg) = (I 92 y4.toNatClampNeg)))) 94 y2.toNatClampNeg) >>> (y4 &&& 31)) &&& 1) = 0)))) L := by
          refine J.iast dX12_lookAt_113 (lt133 hs) (kk133 hs) (by unfold vp_in; decide) ?_
          refine J.aload_n dX12_lookAt_114 rfl rfl ?_
          refine J.getR (r := 133) fl_X12_159 rfl dX12_lookAt_115 (lt83 hs) (kk83 hs) (rr83_61 hs) ?_
          refine J.iconst (v := 4) dX12_lookAt_118 (by decide) ?_
          refine J.aload_n dX12_lookAt_119 rfl rfl ?_
          refine J.iload_n dX12_lookAt_120 rfl rfl ?_
          refine J.callV (M' := mX12_hasElder) (index := 388) (bc := 0) (bs := 0) (bc' := 0) (bs' := 0) (st := [.int 4, .ref (eB E + 133)]) [.int x1] ml_X12_388 cv_X12_hasElder dX12_lookAt_121 (lt83 hs) (kk83 hs) (by decide) rfl rfl rfl rfl (Nat.le_of_ble_eq_true rfl) (kqi hW (fun r15 I14 hW => ?_))
          have hj : J E mX12_lookAt (d + 3) Q 0 0 132 [some (.ref (eB E + 83)), some (.int x1), some (.int x2), some (.int x3), some (.int y2), some (.int y4), none] [.int (bI (¬ (r15 = 0))), .int 4, .ref (eB E + 133)] h I14 L := by
            refine J.iast dX12_lookAt_132 (lt133 hs) (kk133 hs) (by unfold vp_in; decide) ?_
            refine J.aload_n dX12_lookAt_133 rfl rfl ?_
            refine J.getR (r := 98) fl_X12_53 rfl dX12_lookAt_134 (lt83 hs) (kk83 hs) (rr83_15 hs) ?_
            refine J.iload_n dX12_lookAt_137 rfl rfl ?_
            refine J.iald (x := I14 98 x1.toNatClampNeg) dX12_lookAt_138 (lt98 hs) (kk98 hs) hb1 rfl ?_
            refine J.aload_n dX12_lookAt_139 rfl rfl ?_
            refine J.getR (r := 98) fl_X12_53 rfl dX12_lookAt_140 (lt83 hs) (kk83 hs) (rr83_15 hs) ?_
            refine J.iload_n dX12_lookAt_143 rfl rfl ?_
            refine J.iald (x := I14 98 x2.toNatClampNeg) dX12_lookAt_144 (lt98 hs) (kk98 hs) hb3 rfl ?_
            refine J.callS (M' := mX12_apart) (index := 391) (bc := 0) (bs := 0) (bc' := 0) (bs' := 0) (st := []) [.int (I14 98 x1.toNatClampNeg), .int (I14 98 x2.toNatClampNeg)] ml_X12_391 cv_X12_apart dX12_lookAt_145 rfl rfl (Nat.le_of_ble_eq_true rfl) (kqi (w_X12_apart (d := d + 2) (Q := qi h L (fun v I' => I' = (uI I14 133 4 (bI (¬ (r15 = 0)))) ∧ v = (if (I14 98 x2.toNatClampNeg) ≤ (I14 98 x1.toNatClampNeg) then (I14 98 x1.toNatClampNeg) - (I14 98 x2.toNatClampNeg) else (I14 98 x2.toNatClampNeg) - (I14 98 x1.toNatClampNeg) : Int32))) hs (I14 98 x1.toNatClampNeg) (I14 98 x2.toNatClampNeg) ⟨rfl, rfl, _, rfl, rfl, rfl⟩) (fun v17 I18 hv => ?_))
            rw [hv.1, hv.2]
            refine J.topi (fun y19 hyy19 => ?_)
            have hW := hW y19 hyy19
            refine J.istore (vs' := [some (.ref (eB E + 83)), some (.int x1), some (.int x2), some (.int x3), some (.int y2), some (.int y4), some (.int y19)]) dX12_lookAt_148 (by decide) rfl ?_
            refine J.aload_n dX12_lookAt_150 rfl rfl ?_
            refine J.getR (r := 133) fl_X12_159 rfl dX12_lookAt_151 (lt83 hs) (kk83 hs) (rr83_61 hs) ?_
            refine J.iconst (v := 5) dX12_lookAt_154 (by decide) ?_
            refine J.iload dX12_lookAt_155 rfl ?_
            refine J.iconst (v := 4) dX12_lookAt_157 (by decide) ?_
            have hj : J E mX12_lookAt (d + 3) Q 0 0 171 [some (.ref (eB E + 83)), some (.int x1), some (.int x2), some (.int x3), some (.int y2), some (.int y4), some (.int y19)] [.int (if y19 ≤ 4 then y19 else 8 - y19 : Int32), .int 5, .ref (eB E + 133)] h (uI I14 133 4 (bI (¬ (r15 = 0)))) L := by
              refine J.iast dX12_lookAt_171 (lt133 hs) (kk133 hs) (by unfold vp_in; decide) ?_
              refine J.aload_n dX12_lookAt_172 rfl rfl ?_
              refine J.getR (r := 133) fl_X12_159 rfl dX12_lookAt_173 (lt83 hs) (kk83 hs) (rr83_61 hs) ?_
              refine J.bipush (v := 6) dX12_lookAt_176 (by decide) ?_
              refine J.aload_n dX12_lookAt_178 rfl rfl ?_
              refine J.iload_n dX12_lookAt_179 rfl rfl ?_
              refine J.iload_n dX12_lookAt_180 rfl rfl ?_
              refine J.iload_n dX12_lookAt_181 rfl rfl ?_
              refine J.aload_n dX12_lookAt_182 rfl rfl ?_
              refine J.getR (r := 88) fl_X12_23 rfl dX12_lookAt_183 (lt83 hs) (kk83 hs) (rr83_5 hs) ?_
              refine J.iconst (v := 0) dX12_lookAt_186 (by decide) ?_
              refine J.iald (x := I14 88 0) dX12_lookAt_187 (lt88 hs) (kk88 hs) (by unfold vp_in; decide) rfl ?_
              refine J.callV (M' := mX12_kinOf) (index := 265) (bc := 0) (bs := 0) (bc' := 0) (bs' := 0) (st := [.int 6, .ref (eB E + 133)]) [.int x1, .int x2, .int x3, .int (I14 88 0)] ml_X12_265 cv_X12_kinOf dX12_lookAt_188 (lt83 hs) (kk83 hs) (by decide) rfl rfl rfl rfl (Nat.le_of_ble_eq_true rfl) (kqi hW (fun r22 I21 hW => ?_))
              refine J.iast dX12_lookAt_191 (lt133 hs) (kk133 hs) (by unfold vp_in; decide) ?_
              refine J.aload_n dX12_lookAt_192 rfl rfl ?_
              refine J.getR (r := 133) fl_X12_159 rfl dX12_lookAt_193 (lt83 hs) (kk83 hs) (rr83_61 hs) ?_
              refine J.bipush (v := 7) dX12_lookAt_196 (by decide) ?_
              refine J.aload_n dX12_lookAt_198 rfl rfl ?_
              refine J.iload_n dX12_lookAt_199 rfl rfl ?_
              obtain ⟨hb23, hW⟩ := hW
              refine J.callV (M' := mX12_ageOf) (index := 275) (bc := 0) (bs := 0) (bc' := 0) (bs' := 0) (st := [.int 7, .ref (eB E + 133)]) [.int x2] ml_X12_275 cv_X12_ageOf dX12_lookAt_200 (lt83 hs) (kk83 hs) (by decide) rfl rfl rfl rfl (Nat.le_of_ble_eq_true rfl) (kqi (w_X12_ageOf (d := d + 2) (Q := qi h L (fun v I' => I' = (uI I21 133 6 r22) ∧ v = ((uI I21 133 6 r22) 88 0) - ((uI I21 133 6 r22) 99 x2.toNatClampNeg))) hs x2 ⟨hb23, rfl, rfl, _, rfl, rfl, rfl⟩) (fun v24 I25 hv => ?_))
              rw [hv.1, hv.2]
              refine J.iast dX12_lookAt_203 (lt133 hs) (kk133 hs) (by unfold vp_in; decide) ?_
              refine J.aload_n dX12_lookAt_204 rfl rfl ?_
              refine J.getR (r := 133) fl_X12_159 rfl dX12_lookAt_205 (lt83 hs) (kk83 hs) (rr83_61 hs) ?_
              refine J.bipush (v := 8) dX12_lookAt_208 (by decide) ?_
              refine J.aload_n dX12_lookAt_210 rfl rfl ?_
              refine J.iload_n dX12_lookAt_211 rfl rfl ?_
              obtain ⟨hb26, hW⟩ := hW
              refine J.callV (M' := mX12_ageOf) (index := 275) (bc := 0) (bs := 0) (bc' := 0) (bs' := 0) (st := [.int 8, .ref (eB E + 133)]) [.int x1] ml_X12_275 cv_X12_ageOf dX12_lookAt_212 (lt83 hs) (kk83 hs) (by decide) rfl rfl rfl rfl (Nat.le_of_ble_eq_true rfl) (kqi (w_X12_ageOf (d := d + 2) (Q := qi h L (fun v I' => I' = (uI (uI I21 133 6 r22) 133 7 (((uI I21 133 6 r22) 88 0) - ((uI I21 133 6 r22) 99 x2.toNatClampNeg))) ∧ v = ((uI (uI I21 133 6 r22) 133 7 (((uI I21 133 6 r22) 88 0) - ((uI I21 133 6 r22) 99 x2.toNatClampNeg))) 88 0) - ((uI (uI I21 133 6 r22) 133 7 (((uI I21 133 6 r22) 88 0) - ((uI I21 133 6 r22) 99 x2.toNatClampNeg))) 99 x1.toNatClampNeg))) hs x1 ⟨hb26, rfl, rfl, _, rfl, rfl, rfl⟩) (fun v27 I28 hv => ?_))
              rw [hv.1, hv.2]
              refine J.iast dX12_lookAt_215 (lt133 hs) (kk133 hs) (by unfold vp_in; decide) ?_
              refine J.aload_n dX12_lookAt_216 rfl rfl ?_
              refine J.getR (r := 133) fl_X12_159 rfl dX12_lookAt_217 (lt83 hs) (kk83 hs) (rr83_61 hs) ?_
              refine J.bipush (v := 9) dX12_lookAt_220 (by decide) ?_
              refine J.aload_n dX12_lookAt_222 rfl rfl ?_
              refine J.iload_n dX12_lookAt_223 rfl rfl ?_
              refine J.callV (M' := mX12_ageOf) (index := 275) (bc := 0) (bs := 0) (bc' := 0) (bs' := 0) (st := [.int 9, .ref (eB E + 133)]) [.int x1] ml_X12_275 cv_X12_ageOf dX12_lookAt_224 (lt83 hs) (kk83 hs) (by decide) rfl rfl rfl rfl (Nat.le_of_ble_eq_true rfl) (kqi (w_X12_ageOf (d := d + 2) (Q := qi h L (fun v I' => I' = (uI (uI (uI I21 133 6 r22) 133 7 (((uI I21 133 6 r22) 88 0) - ((uI I21 133 6 r22) 99 x2.toNatClampNeg))) 133 8 (((uI (uI I21 133 6 r22) 133 7 (((uI I21 133 6 r22) 88 0) - ((uI I21 133 6 r22) 99 x2.toNatClampNeg))) 88 0) - ((uI (uI I21 133 6 r22) 133 7 (((uI I21 133 6 r22) 88 0) - ((uI I21 133 6 r22) 99 x2.toNatClampNeg))) 99 x1.toNatClampNeg))) ∧ v = ((uI (uI (uI I21 133 6 r22) 133 7 (((uI I21 133 6 r22) 88 0) - ((uI I21 133 6 r22) 99 x2.toNatClampNeg))) 133 8 (((uI (uI I21 133 6 r22) 133 7 (((uI I21 133 6 r22) 88 0) - ((uI I21 133 6 r22) 99 x2.toNatClampNeg))) 88 0) - ((uI (uI I21 133 6 r22) 133 7 (((uI I21 133 6 r22) 88 0) - ((uI I21 133 6 r22) 99 x2.toNatClampNeg))) 99 x1.toNatClampNeg))) 88 0) - ((uI (uI (uI I21 133 6 r22) 133 7 (((uI I21 133 6 r22) 88 0) - ((uI I21 133 6 r22) 99 x2.toNatClampNeg))) 133 8 (((uI (uI I21 133 6 r22) 133 7 (((uI I21 133 6 r22) 88 0) - ((uI I21 133 6 r22) 99 x2.toNatClampNeg))) 88 0) - ((uI (uI I21 133 6 r22) 133 7 (((uI I21 133 6 r22) 88 0) - ((uI I21 133 6 r22) 99 x2.toNatClampNeg))) 99 x1.toNatClampNeg))) 99 x1.toNatClampNeg))) hs x1 ⟨hb26, rfl, rfl, _, rfl, rfl, rfl⟩) (fun v29 I30 hv => ?_))
              rw [hv.1, hv.2]
              refine J.aload_n dX12_lookAt_227 rfl rfl ?_
              refine J.iload_n dX12_lookAt_228 rfl rfl ?_
              refine J.callV (M' := mX12_ageOf) (index := 275) (bc := 0) (bs := 0) (bc' := 0) (bs' := 0) (st := [.int (((uI (uI (uI I21 133 6 r22) 133 7 (((uI I21 133 6 r22) 88 0) - ((uI I21 133 6 r22) 99 x2.toNatClampNeg))) 133 8 (((uI (uI I21 133 6 r22) 133 7 (((uI I21 133 6 r22) 88 0) - ((uI I21 133 6 r22) 99 x2.toNatClampNeg))) 88 0) - ((uI (uI I21 133 6 r22) 133 7 (((uI I21 133 6 r22) 88 0) - ((uI I21 133 6 r22) 99 x2.toNatClampNeg))) 99 x1.toNatClampNeg))) 88 0) - ((uI (uI (uI I21 133 6 r22) 133 7 (((uI I21 133 6 r22) 88 0) - ((uI I21 133 6 r22) 99 x2.toNatClampNeg))) 133 8 (((uI (uI I21 133 6 r22) 133 7 (((uI I21 133 6 r22) 88 0) - ((uI I21 133 6 r22) 99 x2.toNatClampNeg))) 88 0) - ((uI (uI I21 133 6 r22) 133 7 (((uI I21 133 6 r22) 88 0) - ((uI I21 133 6 r22) 99 x2.toNatClampNeg))) 99 x1.toNatClampNeg))) 99 x1.toNatClampNeg)), .int 9, .ref (eB E + 133)]) [.int x2] ml_X12_275 cv_X12_ageOf dX12_lookAt_229 (lt83 hs) (kk83 hs) (by decide) rfl rfl rfl rfl (Nat.le_of_ble_eq_true rfl) (kqi (w_X12_ageOf (d := d + 2) (Q := qi h L (fun v I' => I' = (uI (uI (uI I21 133 6 r22) 133 7 (((uI I21 133 6 r22) 88 0) - ((uI I21 133 6 r22) 99 x2.toNatClampNeg))) 133 8 (((uI (uI I21 133 6 r22) 133 7 (((uI I21 133 6 r22) 88 0) - ((uI I21 133 6 r22) 99 x2.toNatClampNeg))) 88 0) - ((uI (uI I21 133 6 r22) 133 7 (((uI I21 133 6 r22) 88 0) - ((uI I21 133 6 r22) 99 x2.toNatClampNeg))) 99 x1.toNatClampNeg))) ∧ v = ((uI (uI (uI I21 133 6 r22) 133 7 (((uI I21 133 6 r22) 88 0) - ((uI I21 133 6 r22) 99 x2.toNatClampNeg))) 133 8 (((uI (uI I21 133 6 r22) 133 7 (((uI I21 133 6 r22) 88 0) - ((uI I21 133 6 r22) 99 x2.toNatClampNeg))) 88 0) - ((uI (uI I21 133 6 r22) 133 7 (((uI I21 133 6 r22) 88 0) - ((uI I21 133 6 r22) 99 x2.toNatClampNeg))) 99 x1.toNatClampNeg))) 88 0) - ((uI (uI (uI I21 133 6 r22) 133 7 (((uI I21 133 6 r22) 88 0) - ((uI I21 133 6 r22) 99 x2.toNatClampNeg))) 133 8 (((uI (uI I21 133 6 r22) 133 7 (((uI I21 133 6 r22) 88 0) - ((uI I21 133 6 r22) 99 x2.toNatClampNeg))) 88 0) - ((uI (uI I21 133 6 r22) 133 7 (((uI I21 133 6 r22) 88 0) - ((uI I21 133 6 r22) 99 x2.toNatClampNeg))) 99 x1.toNatClampNeg))) 99 x2.toNatClampNeg))) hs x2 ⟨hb23, rfl, rfl, _, rfl, rfl, rfl⟩) (fun v31 I32 hv => ?_))
              rw [hv.1, hv.2]
              refine J.callS (M' := mX12_apart) (index := 391) (bc := 0) (bs := 0) (bc' := 0) (bs' := 0) (st := [.int 9, .ref (eB E + 133)]) [.int (((uI (uI (uI I21 133 6 r22) 133 7 (((uI I21 133 6 r22) 88 0) - ((uI I21 133 6 r22) 99 x2.toNatClampNeg))) 133 8 (((uI (uI I21 133 6 r22) 133 7 (((uI I21 133 6 r22) 88 0) - ((uI I21 133 6 r22) 99 x2.toNatClampNeg))) 88 0) - ((uI (uI I21 133 6 r22) 133 7 (((uI I21 133 6 r22) 88 0) - ((uI I21 133 6 r22) 99 x2.toNatClampNeg))) 99 x1.toNatClampNeg))) 88 0) - ((uI (uI (uI I21 133 6 r22) 133 7 (((uI I21 133 6 r22) 88 0) - ((uI I21 133 6 r22) 99 x2.toNatClampNeg))) 133 8 (((uI (uI I21 133 6 r22) 133 7 (((uI I21 133 6 r22) 88 0) - ((uI I21 133 6 r22) 99 x2.toNatClampNeg))) 88 0) - ((uI (uI I21 133 6 r22) 133 7 (((uI I21 133 6 r22) 88 0) - ((uI I21 133 6 r22) 99 x2.toNatClampNeg))) 99 x1.toNatClampNeg))) 99 x1.toNatClampNeg)), .int (((uI (uI (uI I21 133 6 r22) 133 7 (((uI I21 133 6 r22) 88 0) - ((uI I21 133 6 r22) 99 x2.toNatClampNeg))) 133 8 (((uI (uI I21 133 6 r22) 133 7 (((uI I21 133 6 r22) 88 0) - ((uI I21 133 6 r22) 99 x2.toNatClampNeg))) 88 0) - ((uI (uI I21 133 6 r22) 133 7 (((uI I21 133 6 r22) 88 0) - ((uI I21 133 6 r22) 99 x2.toNatClampNeg))) 99 x1.toNatClampNeg))) 88 0) - ((uI (uI (uI I21 133 6 r22) 133 7 (((uI I21 133 6 r22) 88 0) - ((uI I21 133 6 r22) 99 x2.toNatClampNeg))) 133 8 (((uI (uI I21 133 6 r22) 133 7 (((uI I21 133 6 r22) 88 0) - ((uI I21 133 6 r22) 99 x2.toNatClampNeg))) 88 0) - ((uI (uI I21 133 6 r22) 133 7 (((uI I21 133 6 r22) 88 0) - ((uI I21 133 6 r22) 99 x2.toNatClampNeg))) 99 x1.toNatClampNeg))) 99 x2.toNatClampNeg))] ml_X12_391 cv_X12_apart dX12_lookAt_232 rfl rfl (Nat.le_of_ble_eq_true rfl) (kqi (w_X12_apart (d := d + 2) (Q := qi h L (fun v I' => I' = (uI (uI (uI I21 133 6 r22) 133 7 (((uI I21 133 6 r22) 88 0) - ((uI I21 133 6 r22) 99 x2.toNatClampNeg))) 133 8 (((uI (uI I21 133 6 r22) 133 7 (((uI I21 133 6 r22) 88 0) - ((uI I21 133 6 r22) 99 x2.toNatClampNeg))) 88 0) - ((uI (uI I21 133 6 r22) 133 7 (((uI I21 133 6 r22) 88 0) - ((uI I21 133 6 r22) 99 x2.toNatClampNeg))) 99 x1.toNatClampNeg))) ∧ v = (if (((uI (uI (uI I21 133 6 r22) 133 7 (((uI I21 133 6 r22) 88 0) - ((uI I21 133 6 r22) 99 x2.toNatClampNeg))) 133 8 (((uI (uI I21 133 6 r22) 133 7 (((uI I21 133 6 r22) 88 0) - ((uI I21 133 6 r22) 99 x2.toNatClampNeg))) 88 0) - ((uI (uI I21 133 6 r22) 133 7 (((uI I21 133 6 r22) 88 0) - ((uI I21 133 6 r22) 99 x2.toNatClampNeg))) 99 x1.toNatClampNeg))) 88 0) - ((uI (uI (uI I21 133 6 r22) 133 7 (((uI I21 133 6 r22) 88 0) - ((uI I21 133 6 r22) 99 x2.toNatClampNeg))) 133 8 (((uI (uI I21 133 6 r22) 133 7 (((uI I21 133 6 r22) 88 0) - ((uI I21 133 6 r22) 99 x2.toNatClampNeg))) 88 0) - ((uI (uI I21 133 6 r22) 133 7 (((uI I21 133 6 r22) 88 0) - ((uI I21 133 6 r22) 99 x2.toNatClampNeg))) 99 x1.toNatClampNeg))) 99 x2.toNatClampNeg)) ≤ (((uI (uI (uI I21 133 6 r22) 133 7 (((uI I21 133 6 r22) 88 0) - ((uI I21 133 6 r22) 99 x2.toNatClampNeg))) 133 8 (((uI (uI I21 133 6 r22) 133 7 (((uI I21 133 6 r22) 88 0) - ((uI I21 133 6 r22) 99 x2.toNatClampNeg))) 88 0) - ((uI (uI I21 133 6 r22) 133 7 (((uI I21 133 6 r22) 88 0) - ((uI I21 133 6 r22) 99 x2.toNatClampNeg))) 99 x1.toNatClampNeg))) 88 0) - ((uI (uI (uI I21 133 6 r22) 133 7 (((uI I21 133 6 r22) 88 0) - ((uI I21 133 6 r22) 99 x2.toNatClampNeg))) 133 8 (((uI (uI I21 133 6 r22) 133 7 (((uI I21 133 6 r22) 88 0) - ((uI I21 133 6 r22) 99 x2.toNatClampNeg))) 88 0) - ((uI (uI I21 133 6 r22) 133 7 (((uI I21 133 6 r22) 88 0) - ((uI I21 133 6 r22) 99 x2.toNatClampNeg))) 99 x1.toNatClampNeg))) 99 x1.toNatClampNeg)) then (((uI (uI (uI I21 133 6 r22) 133 7 (((uI I21 133 6 r22) 88 0) - ((uI I21 133 6 r22) 99 x2.toNatClampNeg))) 133 8 (((uI (uI I21 133 6 r22) 133 7 (((uI I21 133 6 r22) 88 0) - ((uI I21 133 6 r22) 99 x2.toNatClampNeg))) 88 0) - ((uI (uI I21 133 6 r22) 133 7 (((uI I21 133 6 r22) 88 0) - ((uI I21 133 6 r22) 99 x2.toNatClampNeg))) 99 x1.toNatClampNeg))) 88 0) - ((uI (uI (uI I21 133 6 r22) 133 7 (((uI I21 133 6 r22) 88 0) - ((uI I21 133 6 r22) 99 x2.toNatClampNeg))) 133 8 (((uI (uI I21 133 6 r22) 133 7 (((uI I21 133 6 r22) 88 0) - ((uI I21 133 6 r22) 99 x2.toNatClampNeg))) 88 0) - ((uI (uI I21 133 6 r22) 133 7 (((uI I21 133 6 r22) 88 0) - ((uI I21 133 6 r22) 99 x2.toNatClampNeg))) 99 x1.toNatClampNeg))) 99 x1.toNatClampNeg)) - (((uI (uI (uI I21 133 6 r22) 133 7 (((uI I21 133 6 r22) 88 0) - ((uI I21 133 6 r22) 99 x2.toNatClampNeg))) 133 8 (((uI (uI I21 133 6 r22) 133 7 (((uI I21 133 6 r22) 88 0) - ((uI I21 133 6 r22) 99 x2.toNatClampNeg))) 88 0) - ((uI (uI I21 133 6 r22) 133 7 (((uI I21 133 6 r22) 88 0) - ((uI I21 133 6 r22) 99 x2.toNatClampNeg))) 99 x1.toNatClampNeg))) 88 0) - ((uI (uI (uI I21 133 6 r22) 133 7 (((uI I21 133 6 r22) 88 0) - ((uI I21 133 6 r22) 99 x2.toNatClampNeg))) 133 8 (((uI (uI I21 133 6 r22) 133 7 (((uI I21 133 6 r22) 88 0) - ((uI I21 133 6 r22) 99 x2.toNatClampNeg))) 88 0) - ((uI (uI I21 133 6 r22) 133 7 (((uI I21 133 6 r22) 88 0) - ((uI I21 133 6 r22) 99 x2.toNatClampNeg))) 99 x1.toNatClampNeg))) 99 x2.toNatClampNeg)) else (((uI (uI (uI I21 133 6 r22) 133 7 (((uI I21 133 6 r22) 88 0) - ((uI I21 133 6 r22) 99 x2.toNatClampNeg))) 133 8 (((uI (uI I21 133 6 r22) 133 7 (((uI I21 133 6 r22) 88 0) - ((uI I21 133 6 r22) 99 x2.toNatClampNeg))) 88 0) - ((uI (uI I21 133 6 r22) 133 7 (((uI I21 133 6 r22) 88 0) - ((uI I21 133 6 r22) 99 x2.toNatClampNeg))) 99 x1.toNatClampNeg))) 88 0) - ((uI (uI (uI I21 133 6 r22) 133 7 (((uI I21 133 6 r22) 88 0) - ((uI I21 133 6 r22) 99 x2.toNatClampNeg))) 133 8 (((uI (uI I21 133 6 r22) 133 7 (((uI I21 133 6 r22) 88 0) - ((uI I21 133 6 r22) 99 x2.toNatClampNeg))) 88 0) - ((uI (uI I21 133 6 r22) 133 7 (((uI I21 133 6 r22) 88 0) - ((uI I21 133 6 r22) 99 x2.toNatClampNeg))) 99 x1.toNatClampNeg))) 99 x2.toNatClampNeg)) - (((uI (uI (uI I21 133 6 r22) 133 7 (((uI I21 133 6 r22) 88 0) - ((uI I21 133 6 r22) 99 x2.toNatClampNeg))) 133 8 (((uI (uI I21 133 6 r22) 133 7 (((uI I21 133 6 r22) 88 0) - ((uI I21 133 6 r22) 99 x2.toNatClampNeg))) 88 0) - ((uI (uI I21 133 6 r22) 133 7 (((uI I21 133 6 r22) 88 0) - ((uI I21 133 6 r22) 99 x2.toNatClampNeg))) 99 x1.toNatClampNeg))) 88 0) - ((uI (uI (uI I21 133 6 r22) 133 7 (((uI I21 133 6 r22) 88 0) - ((uI I21 133 6 r22) 99 x2.toNatClampNeg))) 133 8 (((uI (uI I21 133 6 r22) 133 7 (((uI I21 133 6 r22) 88 0) - ((uI I21 133 6 r22) 99 x2.toNatClampNeg))) 88 0) - ((uI (uI I21 133 6 r22) 133 7 (((uI I21 133 6 r22) 88 0) - ((uI I21 133 6 r22) 99 x2.toNatClampNeg))) 99 x1.toNatClampNeg))) 99 x1.toNatClampNeg)) : Int32))) hs (((uI (uI (uI I21 133 6 r22) 133 7 (((uI I21 133 6 r22) 88 0) - ((uI I21 133 6 r22) 99 x2.toNatClampNeg))) 133 8 (((uI (uI I21 133 6 r22) 133 7 (((uI I21 133 6 r22) 88 0) - ((uI I21 133 6 r22) 99 x2.toNatClampNeg))) 88 0) - ((uI (uI I21 133 6 r22) 133 7 (((uI I21 133 6 r22) 88 0) - ((uI I21 133 6 r22) 99 x2.toNatClampNeg))) 99 x1.toNatClampNeg))) 88 0) - ((uI (uI (uI I21 133 6 r22) 133 7 (((uI I21 133 6 r22) 88 0) - ((uI I21 133 6 r22) 99 x2.toNatClampNeg))) 133 8 (((uI (uI I21 133 6 r22) 133 7 (((uI I21 133 6 r22) 88 0) - ((uI I21 133 6 r22) 99 x2.toNatClampNeg))) 88 0) - ((uI (uI I21 133 6 r22) 133 7 (((uI I21 133 6 r22) 88 0) - ((uI I21 133 6 r22) 99 x2.toNatClampNeg))) 99 x1.toNatClampNeg))) 99 x1.toNatClampNeg)) (((uI (uI (uI I21 133 6 r22) 133 7 (((uI I21 133 6 r22) 88 0) - ((uI I21 133 6 r22) 99 x2.toNatClampNeg))) 133 8 (((uI (uI I21 133 6 r22) 133 7 (((uI I21 133 6 r22) 88 0) - ((uI I21 133 6 r22) 99 x2.toNatClampNeg))) 88 0) - ((uI (uI I21 133 6 r22) 133 7 (((uI I21 133 6 r22) 88 0) - ((uI I21 133 6 r22) 99 x2.toNatClampNeg))) 99 x1.toNatClampNeg))) 88 0) - ((uI (uI (uI I21 133 6 r22) 133 7 (((uI I21 133 6 r22) 88 0) - ((uI I21 133 6 r22) 99 x2.toNatClampNeg))) 133 8 (((uI (uI I21 133 6 r22) 133 7 (((uI I21 133 6 r22) 88 0) - ((uI I21 133 6 r22) 99 x2.toNatClampNeg))) 88 0) - ((uI (uI I21 133 6 r22) 133 7 (((uI I21 133 6 r22) 88 0) - ((uI I21 133 6 r22) 99 x2.toNatClampNeg))) 99 x1.toNatClampNeg))) 99 x2.toNatClampNeg)) ⟨rfl, rfl, _, rfl, rfl, rfl⟩) (fun v33 I34 hv => ?_))
              rw [hv.1, hv.2]
              refine J.iast dX12_lookAt_235 (lt133 hs) (kk133 hs) (by unfold vp_in; decide) ?_
              refine J.aload_n dX12_lookAt_236 rfl rfl ?_
              refine J.getR (r := 133) fl_X12_159 rfl dX12_lookAt_237 (lt83 hs) (kk83 hs) (rr83_61 hs) ?_
              refine J.bipush (v := 10) dX12_lookAt_240 (by decide) ?_
              refine J.aload_n dX12_lookAt_242 rfl rfl ?_
              refine J.getR (r := 93) fl_X12_38 rfl dX12_lookAt_243 (lt83 hs) (kk83 hs) (rr83_10 hs) ?_
              refine J.iload dX12_lookAt_246 rfl ?_
              refine J.iald (x := I21 93 y4.toNatClampNeg) dX12_lookAt_248 (lt93 hs) (kk93 hs) hb6 rfl ?_
              refine J.iast dX12_lookAt_249 (lt133 hs) (kk133 hs) (by unfold vp_in; decide) ?_
              exact J.retv dX12_lookAt_250 rfl hW
            refine J.ic_le 169 dX12_lookAt_158 (by decide) (fun hc20 => ?_) (fun hc20 => ?_)
            · refine J.iload dX12_lookAt_169 rfl ?_
              rw [show ((if y19 ≤ 4 then y19 else 8 - y19 : Int32) = y19) from by simp only [eq_true hc20, if_true, if_false, bI_true, bI_false, and_true, true_and, and_false, false_and, or_true, true_or, or_false, false_or, not_true_eq_false, not_false_eq_true]] at hj
              exact hj
            · refine J.bipush (v := 8) dX12_lookAt_161 (by decide) ?_
              refine J.iload dX12_lookAt_163 rfl ?_
              refine J.isub dX12_lookAt_165 ?_
              refine J.goto 171 dX12_lookAt_166 (by decide) ?_
              rw [show ((if y19 ≤ 4 then y19 else 8 - y19 : Int32) = 8 - y19) from by simp only [eq_false hc20, if_true, if_false, bI_true, bI_false, and_true, true_and, and_false, false_and, or_true, true_or, or_false, false_or, not_true_eq_false, not_false_eq_true]] at hj
              exact hj
          refine J.if_eq 131 dX12_lookAt_124 (by decide) (fun hc16 => ?_) (fun hc16 => ?_)
          · refine J.iconst (v := 0) dX12_lookAt_131 (by decide) ?_
            rw [show bI (¬ (r15 = 0)) = 0 from bI_f (by simp only [eq_true hc16, and_true, true_and, and_false, false_and, or_true, true_or, or_false, false_or, not_true_eq_false, not_false_eq_true])] at hj
            exact hj
          · refine J.iconst (v := 1) dX12_lookAt_127 (by decide) ?_
            refine J.goto 132 dX12_lookAt_128 (by decide) ?_
            rw [show bI (¬ (r15 = 0)) = 1 from bI_t (by simp only [eq_false hc16, and_true, true_and, and_false, false_and, or_true, true_or, or_false, false_or, not_true_eq_false, not_false_eq_true])] at hj
            exact hj
        refine J.if_eq 112 dX12_lookAt_105 (by decide) (fun hc13 => ?_) (fun hc13 => ?_)
        · refine J.iconst (v := 0) dX12_lookAt_112 (by decide) ?_
          rw [show bI (¬ ((I 102 x1.toNatClampNeg) = 0)) = 0 from bI_f (by simp only [eq_true hc13, and_true, true_and, and_false, false_and, or_true, true_or, or_false, false_or, not_true_eq_false, not_false_eq_true])] at hj
          exact hj
        · refine J.iconst (v := 1) dX12_lookAt_108 (by decide) ?_
          refine J.goto 113 dX12_lookAt_109 (by decide) ?_
          rw [show bI (¬ ((I 102 x1.toNatClampNeg) = 0)) = 1 from bI_t (by simp only [eq_false hc13, and_true, true_and, and_false, false_and, or_true, true_or, or_false, false_or, not_true_eq_false, not_false_eq_true])] at hj
          exact hj
      refine J.if_eq 92 dX12_lookAt_85 (by decide) (fun hc12 => ?_) (fun hc12 => ?_)
      · have hc12 := bI_0.mp hc12
        refine J.iconst (v := 0) dX12_lookAt_92 (by decide) ?_
        rw [show bI (¬ (((((uI (uI I 133 0 (bI ((I 91 y2.toNatClampNeg) = (I 91 y4.toNatClampNeg)))) 133 1 (bI ((I 92 y2.toNatClampNeg) = (I 92 y4.toNatClampNeg)))) 94 y2.toNatClampNeg) >>> (y4 &&& 31)) &&& 1) = 0)) = 0 from bI_f (by simp only [eq_false hc12, and_true, true_and, and_false, false_and, or_true, true_or, or_false, false_or, not_true_eq_false, not_false_eq_true])] at hj
        exact hj
      · have hc12 := bI_n0.mp hc12
        refine J.iconst (v := 1) dX12_lookAt_88 (by decide) ?_
        refine J.goto 93 dX12_lookAt_89 (by decide) ?_
        rw [show bI (¬ (((((uI (uI I 133 0 (bI ((I 91 y2.toNatClampNeg) = (I 91 y4.toNatClampNeg)))) 133 1 (bI ((I 92 y2.toNatClampNeg) = (I 92 y4.toNatClampNeg)))) 94 y2.toNatClampNeg) >>> (y4 &&& 31)) &&& 1) = 0)) = 1 from bI_t (by simp only [eq_true hc12, and_true, true_and, and_false, false_and, or_true, true_or, or_false, false_or, not_true_eq_false, not_false_eq_true])] at hj
        exact hj
    refine J.ic_ne 70 dX12_lookAt_63 (by decide) (fun hc8 => ?_) (fun hc8 => ?_)
    · refine J.iconst (v := 0) dX12_lookAt_70 (by decide) ?_
      rw [show bI ((I 92 y2.toNatClampNeg) = (I 92 y4.toNatClampNeg)) = 0 from bI_f (by simp only [eq_false hc8, and_true, true_and, and_false, false_and, or_true, true_or, or_false, false_or, not_true_eq_false, not_false_eq_true])] at hj
      exact hj
    · refine J.iconst (v := 1) dX12_lookAt_66 (by decide) ?_
      refine J.goto 71 dX12_lookAt_67 (by decide) ?_
      rw [show bI ((I 92 y2.toNatClampNeg) = (I 92 y4.toNatClampNeg)) = 1 from bI_t (by simp only [eq_true hc8, and_true, true_and, and_false, false_and, or_true, true_or, or_false, false_or, not_true_eq_false, not_false_eq_true])] at hj
      exact hj
  refine J.ic_ne 42 dX12_lookAt_35 (by decide) (fun hc7 => ?_) (fun hc7 => ?_)
  · refine J.iconst (v := 0) dX12_lookAt_42 (by decide) ?_
    rw [show bI ((I 91 y2.toNatClampNeg) = (I 91 y4.toNatClampNeg)) = 0 from bI_f (by simp only [eq_false hc7, and_true, true_and, and_false, false_and, or_true, true_or, or_false, false_or, not_true_eq_false, not_false_eq_true])] at hj
    exact hj
  · refine J.iconst (v := 1) dX12_lookAt_38 (by decide) ?_
    refine J.goto 43 dX12_lookAt_39 (by decide) ?_
    rw [show bI ((I 91 y2.toNatClampNeg) = (I 91 y4.toNatClampNeg)) = 1 from bI_t (by simp only [eq_true hc7, and_true, true_and, and_false, false_and, or_true, true_or, or_false, false_or, not_true_eq_false, not_false_eq_true])] at hj
    exact hj
