set_option maxRecDepth 100000 in
set_option maxHeartbeats 4000000 in
theorem w_X12_holds {E : Envt} {d : Nat} {Q : Pst} {h : mS} {I : mI} {L : mL} (hs : SL h) (x1 : Int32) 
    (hW : J E mX12_holds d Q 0 0 4 [some (.ref (eB E + 83)), some (.int x1), some (.int (4 * x1)), none, none, none] [] h I L) :
    CT E mX12_holds d 0 0 [.ref (eB E + 83), .int x1] h I L Q := by
  refine CT.of (by decide) [some (.ref (eB E + 83)), some (.int x1), none, none, none, none] rfl (Nat.le_of_ble_eq_true rfl) ?_
  refine J.iconst (v := 4) dX12_holds_0 (by decide) ?_
  refine J.iload_n dX12_holds_1 rfl rfl ?_
  refine J.imul dX12_holds_2 ?_
  refine J.istore_n (vs' := [some (.ref (eB E + 83)), some (.int x1), some (.int (4 * x1)), none, none, none]) dX12_holds_3 rfl (by decide) rfl ?_
  exact hW
set_option maxRecDepth 100000 in
set_option maxHeartbeats 4000000 in
theorem w_X12_holds_4 {E : Envt} {d : Nat} {Q : Pst} {h : mS} {I : mI} {L : mL} (hs : SL h)    (x1 : Int32) (x2 : Int32)
    (hW : (vp_in x1 4288 ∧ (((((4 * x1) + (I 117 x1.toNatClampNeg)) ≤ x2) → Q (some (.int 1)) h I L) ∧ (¬ (((4 * x1) + (I 117 x1.toNatClampNeg)) ≤ x2) → (vp_in x2 17152 ∧ (vp_in ((I 120 x2.toNatClampNeg) &&& 15) 11 ∧ (∀ y5 : Int32, y5 = I 133 (((I 120 x2.toNatClampNeg) &&& 15).toNatClampNeg) → (∀ y6 : Int32, y6 = I 122 x2.toNatClampNeg → ((((bI ((((I 121 x2.toNatClampNeg) = 60) ∧ (¬ (y6 ≤ y5))) ∨ (¬ ((I 121 x2.toNatClampNeg) = 60) ∧ ((((I 121 x2.toNatClampNeg) = 62) ∧ (¬ (y5 ≤ y6))) ∨ (¬ ((I 121 x2.toNatClampNeg) = 62) ∧ (y5 = y6)))))) = (bI (¬ ((I 120 x2.toNatClampNeg) ≤ 15)))) → Q (some (.int 0)) h I L) ∧ (¬ ((bI ((((I 121 x2.toNatClampNeg) = 60) ∧ (¬ (y6 ≤ y5))) ∨ (¬ ((I 121 x2.toNatClampNeg) = 60) ∧ ((((I 121 x2.toNatClampNeg) = 62) ∧ (¬ (y5 ≤ y6))) ∨ (¬ ((I 121 x2.toNatClampNeg) = 62) ∧ (y5 = y6)))))) = (bI (¬ ((I 120 x2.toNatClampNeg) ≤ 15)))) → J E mX12_holds d Q 0 0 4 [some (.ref (eB E + 83)), some (.int x1), some (.int (x2 + 1)), none, none, none] [] h I L)))))))))) :
    J E mX12_holds d Q 0 0 4 [some (.ref (eB E + 83)), some (.int x1), some (.int x2), none, none, none] [] h I L := by
  refine J.iload_n dX12_holds_4 rfl rfl ?_
  refine J.iconst (v := 4) dX12_holds_5 (by decide) ?_
  refine J.iload_n dX12_holds_6 rfl rfl ?_
  refine J.imul dX12_holds_7 ?_
  refine J.aload_n dX12_holds_8 rfl rfl ?_
  refine J.getR (r := 117) fl_X12_111 rfl dX12_holds_9 (lt83 hs) (kk83 hs) (rr83_34 hs) ?_
  refine J.iload_n dX12_holds_12 rfl rfl ?_
  obtain ⟨hb1, hW⟩ := hW
  refine J.iald (x := I 117 x1.toNatClampNeg) dX12_holds_13 (lt117 hs) (kk117 hs) hb1 rfl ?_
  refine J.iadd dX12_holds_14 ?_
  refine J.ic_ge 133 dX12_holds_15 (by decide) (fun hc2 => ?_) (fun hc2 => ?_)
  · have hW := hW.1 hc2
    refine J.iconst (v := 1) dX12_holds_133 (by decide) ?_
    exact J.reti dX12_holds_134 rfl (bz_nar (Or.inr rfl)) hW
  · have hW := hW.2 hc2
    refine J.aload_n dX12_holds_18 rfl rfl ?_
    refine J.getR (r := 133) fl_X12_159 rfl dX12_holds_19 (lt83 hs) (kk83 hs) (rr83_61 hs) ?_
    refine J.aload_n dX12_holds_22 rfl rfl ?_
    refine J.getR (r := 120) fl_X12_120 rfl dX12_holds_23 (lt83 hs) (kk83 hs) (rr83_37 hs) ?_
    refine J.iload_n dX12_holds_26 rfl rfl ?_
    obtain ⟨hb3, hW⟩ := hW
    refine J.iald (x := I 120 x2.toNatClampNeg) dX12_holds_27 (lt120 hs) (kk120 hs) hb3 rfl ?_
    refine J.bipush (v := 15) dX12_holds_28 (by decide) ?_
    refine J.iand dX12_holds_30 ?_
    obtain ⟨hb4, hW⟩ := hW
    refine J.iald (x := I 133 (((I 120 x2.toNatClampNeg) &&& 15).toNatClampNeg)) dX12_holds_31 (lt133 hs) (kk133 hs) hb4 rfl ?_
    refine J.topi (fun y5 hyy5 => ?_)
    have hW := hW y5 hyy5
    refine J.istore_n (vs' := [some (.ref (eB E + 83)), some (.int x1), some (.int x2), some (.int y5), none, none]) dX12_holds_32 rfl (by decide) rfl ?_
    refine J.aload_n dX12_holds_33 rfl rfl ?_
    refine J.getR (r := 122) fl_X12_126 rfl dX12_holds_34 (lt83 hs) (kk83 hs) (rr83_39 hs) ?_
    refine J.iload_n dX12_holds_37 rfl rfl ?_
    refine J.iald (x := I 122 x2.toNatClampNeg) dX12_holds_38 (lt122 hs) (kk122 hs) hb3 rfl ?_
    refine J.topi (fun y6 hyy6 => ?_)
    have hW := hW y6 hyy6
    refine J.istore (vs' := [some (.ref (eB E + 83)), some (.int x1), some (.int x2), some (.int y5), some (.int y6), none]) dX12_holds_39 (by decide) rfl ?_
    refine J.aload_n dX12_holds_41 rfl rfl ?_
    refine J.getR (r := 121) fl_X12_123 rfl dX12_holds_42 (lt83 hs) (kk83 hs) (rr83_38 hs) ?_
    refine J.iload_n dX12_holds_45 rfl rfl ?_
    refine J.iald (x := I 121 x2.toNatClampNeg) dX12_holds_46 (lt121 hs) (kk121 hs) hb3 rfl ?_
    refine J.bipush (v := 60) dX12_holds_47 (by decide) ?_
    have hj : J E mX12_holds d Q 0 0 102 [some (.ref (eB E + 83)), some (.int x1), some (.int x2), some (.int y5), some (.int y6), none] [.int (bI ((((I 121 x2.toNatClampNeg) = 60) ∧ (¬ (y6 ≤ y5))) ∨ (¬ ((I 121 x2.toNatClampNeg) = 60) ∧ ((((I 121 x2.toNatClampNeg) = 62) ∧ (¬ (y5 ≤ y6))) ∨ (¬ ((I 121 x2.toNatClampNeg) = 62) ∧ (y5 = y6))))))] h I L := by
      refine J.istore (vs' := [some (.ref (eB E + 83)), some (.int x1), some (.int x2), some (.int y5), some (.int y6), some (.int (bI ((((I 121 x2.toNatClampNeg) = 60) ∧ (¬ (y6 ≤ y5))) ∨ (¬ ((I 121 x2.toNatClampNeg) = 60) ∧ ((((I 121 x2.toNatClampNeg) = 62) ∧ (¬ (y5 ≤ y6))) ∨ (¬ ((I 121 x2.toNatClampNeg) = 62) ∧ (y5 = y6)))))))]) dX12_holds_102 (by decide) rfl ?_
      refine J.iload dX12_holds_104 rfl ?_
      refine J.aload_n dX12_holds_106 rfl rfl ?_
      refine J.getR (r := 120) fl_X12_120 rfl dX12_holds_107 (lt83 hs) (kk83 hs) (rr83_37 hs) ?_
      refine J.iload_n dX12_holds_110 rfl rfl ?_
      refine J.iald (x := I 120 x2.toNatClampNeg) dX12_holds_111 (lt120 hs) (kk120 hs) hb3 rfl ?_
      refine J.bipush (v := 15) dX12_holds_112 (by decide) ?_
      have hj : J E mX12_holds d Q 0 0 122 [some (.ref (eB E + 83)), some (.int x1), some (.int x2), some (.int y5), some (.int y6), some (.int (bI ((((I 121 x2.toNatClampNeg) = 60) ∧ (¬ (y6 ≤ y5))) ∨ (¬ ((I 121 x2.toNatClampNeg) = 60) ∧ ((((I 121 x2.toNatClampNeg) = 62) ∧ (¬ (y5 ≤ y6))) ∨ (¬ ((I 121 x2.toNatClampNeg) = 62) ∧ (y5 = y6)))))))] [.int (bI (¬ ((I 120 x2.toNatClampNeg) ≤ 15))), .int (bI ((((I 121 x2.toNatClampNeg) = 60) ∧ (¬ (y6 ≤ y5))) ∨ (¬ ((I 121 x2.toNatClampNeg) = 60) ∧ ((((I 121 x2.toNatClampNeg) = 62) ∧ (¬ (y5 ≤ y6))) ∨ (¬ ((I 121 x2.toNatClampNeg) = 62) ∧ (y5 = y6))))))] h I L := by
        refine J.ic_ne 127 dX12_holds_122 (by decide) (fun hc13 => ?_) (fun hc13 => ?_)
        · have hW := hW.2 hc13
          refine J.iinc (v := x2 + 1) (vs' := [some (.ref (eB E + 83)), some (.int x1), some (.int (x2 + 1)), some (.int y5), some (.int y6), some (.int (bI ((((I 121 x2.toNatClampNeg) = 60) ∧ (¬ (y6 ≤ y5))) ∨ (¬ ((I 121 x2.toNatClampNeg) = 60) ∧ ((((I 121 x2.toNatClampNeg) = 62) ∧ (¬ (y5 ≤ y6))) ∨ (¬ ((I 121 x2.toNatClampNeg) = 62) ∧ (y5 = y6)))))))]) dX12_holds_127 rfl (by rfl) (by decide) rfl ?_
          refine J.goto 4 dX12_holds_130 (by decide) ?_
          exact J.mask [true, true, true, false, false, false] rfl hW
        · have hW := hW.1 hc13
          refine J.iconst (v := 0) dX12_holds_125 (by decide) ?_
          exact J.reti dX12_holds_126 rfl (bz_nar (Or.inl rfl)) hW
      refine J.ic_le 121 dX12_holds_114 (by decide) (fun hc12 => ?_) (fun hc12 => ?_)
      · refine J.iconst (v := 0) dX12_holds_121 (by decide) ?_
        rw [show bI (¬ ((I 120 x2.toNatClampNeg) ≤ 15)) = 0 from bI_f (by simp only [eq_true hc12, and_true, true_and, and_false, false_and, or_true, true_or, or_false, false_or, not_true_eq_false, not_false_eq_true])] at hj
        exact hj
      · refine J.iconst (v := 1) dX12_holds_117 (by decide) ?_
        refine J.goto 122 dX12_holds_118 (by decide) ?_
        rw [show bI (¬ ((I 120 x2.toNatClampNeg) ≤ 15)) = 1 from bI_t (by simp only [eq_false hc12, and_true, true_and, and_false, false_and, or_true, true_or, or_false, false_or, not_true_eq_false, not_false_eq_true])] at hj
        exact hj
    refine J.ic_ne 66 dX12_holds_49 (by decide) (fun hc7 => ?_) (fun hc7 => ?_)
    · refine J.aload_n dX12_holds_66 rfl rfl ?_
      refine J.getR (r := 121) fl_X12_123 rfl dX12_holds_67 (lt83 hs) (kk83 hs) (rr83_38 hs) ?_
      refine J.iload_n dX12_holds_70 rfl rfl ?_
      refine J.iald (x := I 121 x2.toNatClampNeg) dX12_holds_71 (lt121 hs) (kk121 hs) hb3 rfl ?_
      refine J.bipush (v := 62) dX12_holds_72 (by decide) ?_
      refine J.ic_ne 91 dX12_holds_74 (by decide) (fun hc8 => ?_) (fun hc8 => ?_)
      · refine J.iload_n dX12_holds_91 rfl rfl ?_
        refine J.iload dX12_holds_92 rfl ?_
        refine J.ic_ne 101 dX12_holds_94 (by decide) (fun hc9 => ?_) (fun hc9 => ?_)
        · refine J.iconst (v := 0) dX12_holds_101 (by decide) ?_
          rw [show bI ((((I 121 x2.toNatClampNeg) = 60) ∧ (¬ (y6 ≤ y5))) ∨ (¬ ((I 121 x2.toNatClampNeg) = 60) ∧ ((((I 121 x2.toNatClampNeg) = 62) ∧ (¬ (y5 ≤ y6))) ∨ (¬ ((I 121 x2.toNatClampNeg) = 62) ∧ (y5 = y6))))) = 0 from bI_f (by simp only [eq_false hc7, eq_false hc8, eq_false hc9, and_true, true_and, and_false, false_and, or_true, true_or, or_false, false_or, not_true_eq_false, not_false_eq_true])] at hj
          exact hj
        · refine J.iconst (v := 1) dX12_holds_97 (by decide) ?_
          refine J.goto 102 dX12_holds_98 (by decide) ?_
          rw [show bI ((((I 121 x2.toNatClampNeg) = 60) ∧ (¬ (y6 ≤ y5))) ∨ (¬ ((I 121 x2.toNatClampNeg) = 60) ∧ ((((I 121 x2.toNatClampNeg) = 62) ∧ (¬ (y5 ≤ y6))) ∨ (¬ ((I 121 x2.toNatClampNeg) = 62) ∧ (y5 = y6))))) = 1 from bI_t (by simp only [eq_false hc7, eq_false hc8, eq_true hc9, and_true, true_and, and_false, false_and, or_true, true_or, or_false, false_or, not_true_eq_false, not_false_eq_true])] at hj
          exact hj
      · refine J.iload_n dX12_holds_77 rfl rfl ?_
        refine J.iload dX12_holds_78 rfl ?_
        refine J.ic_le 87 dX12_holds_80 (by decide) (fun hc10 => ?_) (fun hc10 => ?_)
        · refine J.iconst (v := 0) dX12_holds_87 (by decide) ?_
          refine J.goto 102 dX12_holds_88 (by decide) ?_
          rw [show bI ((((I 121 x2.toNatClampNeg) = 60) ∧ (¬ (y6 ≤ y5))) ∨ (¬ ((I 121 x2.toNatClampNeg) = 60) ∧ ((((I 121 x2.toNatClampNeg) = 62) ∧ (¬ (y5 ≤ y6))) ∨ (¬ ((I 121 x2.toNatClampNeg) = 62) ∧ (y5 = y6))))) = 0 from bI_f (by simp only [eq_false hc7, eq_true hc8, eq_true hc10, and_true, true_and, and_false, false_and, or_true, true_or, or_false, false_or, not_true_eq_false, not_false_eq_true])] at hj
          exact hj
        · refine J.iconst (v := 1) dX12_holds_83 (by decide) ?_
          refine J.goto 102 dX12_holds_84 (by decide) ?_
          rw [show bI ((((I 121 x2.toNatClampNeg) = 60) ∧ (¬ (y6 ≤ y5))) ∨ (¬ ((I 121 x2.toNatClampNeg) = 60) ∧ ((((I 121 x2.toNatClampNeg) = 62) ∧ (¬ (y5 ≤ y6))) ∨ (¬ ((I 121 x2.toNatClampNeg) = 62) ∧ (y5 = y6))))) = 1 from bI_t (by simp only [eq_false hc7, eq_true hc8, eq_false hc10, and_true, true_and, and_false, false_and, or_true, true_or, or_false, false_or, not_true_eq_false, not_false_eq_true])] at hj
          exact hj
    · refine J.iload_n dX12_holds_52 rfl rfl ?_
      refine J.iload dX12_holds_53 rfl ?_
      refine J.ic_ge 62 dX12_holds_55 (by decide) (fun hc11 => ?_) (fun hc11 => ?_)
      · refine J.iconst (v := 0) dX12_holds_62 (by decide) ?_
        refine J.goto 102 dX12_holds_63 (by decide) ?_
        rw [show bI ((((I 121 x2.toNatClampNeg) = 60) ∧ (¬ (y6 ≤ y5))) ∨ (¬ ((I 121 x2.toNatClampNeg) = 60) ∧ ((((I 121 x2.toNatClampNeg) = 62) ∧ (¬ (y5 ≤ y6))) ∨ (¬ ((I 121 x2.toNatClampNeg) = 62) ∧ (y5 = y6))))) = 0 from bI_f (by simp only [eq_true hc7, eq_true hc11, and_true, true_and, and_false, false_and, or_true, true_or, or_false, false_or, not_true_eq_false, not_false_eq_true])] at hj
        exact hj
      · refine J.iconst (v := 1) dX12_holds_58 (by decide) ?_
        refine J.goto 102 dX12_holds_59 (by decide) ?_
        rw [show bI ((((I 121 x2.toNatClampNeg) = 60) ∧ (¬ (y6 ≤ y5))) ∨ (¬ ((I 121 x2.toNatClampNeg) = 60) ∧ ((((I 121 x2.toNatClampNeg) = 62) ∧ (¬ (y5 ≤ y6))) ∨ (¬ ((I 121 x2.toNatClampNeg) = 62) ∧ (y5 = y6))))) = 1 from bI_t (by simp only [eq_true hc7, eq_false hc11, and_true, true_and, and_false, false_and, or_true, true_or, or_false, false_or, not_true_eq_false, not_false_eq_true])] at hj
        exact hj
set_option maxRecDepth 100000 in
set_option maxHeartbeats 4000000 in
theorem w_X12_readBy {E : Envt} {d : Nat} {Q : Pst} {h : mS} {I : mI} {L : mL} (hs : SL h) (x1 : Int32) 
    (hW : J E mX12_readBy (d + 1) Q 0 0 22 [some (.ref (eB E + 83)), some (.int x1), some (.int 0), none, none] [] h (uI (uI (uI (uI I 83 62 (-1)) 83 63 0) 83 64 0) 83 65 0) L) :
    CT E mX12_readBy (d + 1) 0 0 [.ref (eB E + 83), .int x1] h I L Q := by
  refine CT.of (by decide) [some (.ref (eB E + 83)), some (.int x1), none, none, none] rfl (Nat.le_of_ble_eq_true rfl) ?_
  refine J.aload_n dX12_readBy_0 rfl rfl ?_
  refine J.iconst (v := (-1)) dX12_readBy_1 (by decide) ?_
  refine J.putI fw_X12_395 rfl dX12_readBy_2 (lt83 hs) (kk83 hs) ?_
  refine J.aload_n dX12_readBy_5 rfl rfl ?_
  refine J.iconst (v := 0) dX12_readBy_6 (by decide) ?_
  refine J.putI fw_X12_398 rfl dX12_readBy_7 (lt83 hs) (kk83 hs) ?_
  refine J.aload_n dX12_readBy_10 rfl rfl ?_
  refine J.iconst (v := 0) dX12_readBy_11 (by decide) ?_
  refine J.putI fw_X12_401 rfl dX12_readBy_12 (lt83 hs) (kk83 hs) ?_
  refine J.aload_n dX12_readBy_15 rfl rfl ?_
  refine J.iconst (v := 0) dX12_readBy_16 (by decide) ?_
  refine J.putI fw_X12_404 rfl dX12_readBy_17 (lt83 hs) (kk83 hs) ?_
  refine J.iconst (v := 0) dX12_readBy_20 (by decide) ?_
  refine J.istore_n (vs' := [some (.ref (eB E + 83)), some (.int x1), some (.int 0), none, none]) dX12_readBy_21 rfl (by decide) rfl ?_
  exact hW
set_option maxRecDepth 100000 in
set_option maxHeartbeats 4000000 in
theorem w_X12_readBy_22 {E : Envt} {d : Nat} {Q : Pst} {h : mS} {I : mI} {L : mL} (hs : SL h)    (x1 : Int32) (x2 : Int32)
    (hW : (vp_in x1 268 ∧ ((((I 116 x1.toNatClampNeg) ≤ x2) → Q none h I L) ∧ (¬ ((I 116 x1.toNatClampNeg) ≤ x2) → (CT E mX12_holds d 0 0 [.ref (eB E + 83), .int ((16 * x1) + x2)] h I L (qi h L fun r4 I3 => (((r4 = 0) → J E mX12_readBy (d + 1) Q 0 0 22 [some (.ref (eB E + 83)), some (.int x1), some (.int (x2 + 1)), none, none] [] h I3 L) ∧ (¬ (r4 = 0) → (vp_in ((16 * x1) + x2) 4288 ∧ (∀ y7 : Int32, y7 = I3 119 (((16 * x1) + x2).toNatClampNeg) → (∀ y10 : Int32, y10 = (if (I3 118 (((16 * x1) + x2).toNatClampNeg)) = 0 then if (I3 83 62) = (-1) then x2 else I3 83 62 else I3 83 62) → (∀ y15 : Int32, y15 = (if (I3 118 (((16 * x1) + x2).toNatClampNeg)) = 3 then y7 else if (I3 118 (((16 * x1) + x2).toNatClampNeg)) = 4 then -y7 else 0) → J E mX12_readBy (d + 1) Q 0 0 22 [some (.ref (eB E + 83)), some (.int x1), some (.int (x2 + 1)), none, none] [] h (uI (uI (uI (uI I3 83 62 y10) 83 63 ((I3 83 63) + (if (I3 118 (((16 * x1) + x2).toNatClampNeg)) = 1 then y7 else 0 : Int32))) 83 64 (if (I3 118 (((16 * x1) + x2).toNatClampNeg)) = 2 then y7 else I3 83 64 : Int32)) 83 65 ((I3 83 65) + y15)) L)))))))))))) :
    J E mX12_readBy (d + 1) Q 0 0 22 [some (.ref (eB E + 83)), some (.int x1), some (.int x2), none, none] [] h I L := by
  refine J.iload_n dX12_readBy_22 rfl rfl ?_
  refine J.aload_n dX12_readBy_23 rfl rfl ?_
  refine J.getR (r := 116) fl_X12_108 rfl dX12_readBy_24 (lt83 hs) (kk83 hs) (rr83_33 hs) ?_
  refine J.iload_n dX12_readBy_27 rfl rfl ?_
  obtain ⟨hb1, hW⟩ := hW
  refine J.iald (x := I 116 x1.toNatClampNeg) dX12_readBy_28 (lt116 hs) (kk116 hs) hb1 rfl ?_
  refine J.ic_ge 182 dX12_readBy_29 (by decide) (fun hc2 => ?_) (fun hc2 => ?_)
  · have hW := hW.1 hc2
    exact J.retv dX12_readBy_182 rfl hW
  · have hW := hW.2 hc2
    refine J.bipush (v := 16) dX12_readBy_32 (by decide) ?_
    refine J.iload_n dX12_readBy_34 rfl rfl ?_
    refine J.imul dX12_readBy_35 ?_
    refine J.iload_n dX12_readBy_36 rfl rfl ?_
    refine J.iadd dX12_readBy_37 ?_
    refine J.istore_n (vs' := [some (.ref (eB E + 83)), some (.int x1), some (.int x2), some (.int ((16 * x1) + x2)), none]) dX12_readBy_38 rfl (by decide) rfl ?_
    refine J.aload_n dX12_readBy_39 rfl rfl ?_
    refine J.iload_n dX12_readBy_40 rfl rfl ?_
    refine J.callV (M' := mX12_holds) (index := 407) (bc := 0) (bs := 0) (bc' := 0) (bs' := 0) (st := []) [.int ((16 * x1) + x2)] ml_X12_407 cv_X12_holds dX12_readBy_41 (lt83 hs) (kk83 hs) (by decide) rfl rfl rfl rfl (Nat.le_of_ble_eq_true rfl) (kqi hW (fun r4 I3 hW => ?_))
    refine J.if_ne 50 dX12_readBy_44 (by decide) (fun hc5 => ?_) (fun hc5 => ?_)
    · have hW := hW.2 hc5
      refine J.aload_n dX12_readBy_50 rfl rfl ?_
      refine J.getR (r := 119) fl_X12_117 rfl dX12_readBy_51 (lt83 hs) (kk83 hs) (rr83_36 hs) ?_
      refine J.iload_n dX12_readBy_54 rfl rfl ?_
      obtain ⟨hb6, hW⟩ := hW
      refine J.iald (x := I3 119 (((16 * x1) + x2).toNatClampNeg)) dX12_readBy_55 (lt119 hs) (kk119 hs) hb6 rfl ?_
      refine J.topi (fun y7 hyy7 => ?_)
      have hW := hW y7 hyy7
      refine J.istore (vs' := [some (.ref (eB E + 83)), some (.int x1), some (.int x2), some (.int ((16 * x1) + x2)), some (.int y7)]) dX12_readBy_56 (by decide) rfl ?_
      refine J.aload_n dX12_readBy_58 rfl rfl ?_
      refine J.aload_n dX12_readBy_59 rfl rfl ?_
      refine J.getR (r := 118) fl_X12_114 rfl dX12_readBy_60 (lt83 hs) (kk83 hs) (rr83_35 hs) ?_
      refine J.iload_n dX12_readBy_63 rfl rfl ?_
      refine J.iald (x := I3 118 (((16 * x1) + x2).toNatClampNeg)) dX12_readBy_64 (lt118 hs) (kk118 hs) hb6 rfl ?_
      obtain ⟨y10, hyy10⟩ : ∃ y10 : Int32, y10 = (if (I3 118 (((16 * x1) + x2).toNatClampNeg)) = 0 then if (I3 83 62) = (-1) then x2 else I3 83 62 else I3 83 62) := ⟨_, rfl⟩
      have hW := hW y10 hyy10
      have hj : J E mX12_readBy (d + 1) Q 0 0 84 [some (.ref (eB E + 83)), some (.int x1), some (.int x2), some (.int ((16 * x1) + x2)), some (.int y7)] [.int y10, .ref (eB E + 83)] h I3 L := by
        refine J.putI fw_X12_395 rfl dX12_readBy_84 (lt83 hs) (kk83 hs) ?_
        refine J.aload_n dX12_readBy_87 rfl rfl ?_
        refine J.dup dX12_readBy_88 rfl ?_
        refine J.getI (x := I3 83 63) fl_X12_398 rfl dX12_readBy_89 (lt83 hs) (kk83 hs) rfl ?_
        refine J.aload_n dX12_readBy_92 rfl rfl ?_
        refine J.getR (r := 118) fl_X12_114 rfl dX12_readBy_93 (lt83 hs) (kk83 hs) (rr83_35 hs) ?_
        refine J.iload_n dX12_readBy_96 rfl rfl ?_
        refine J.iald (x := I3 118 (((16 * x1) + x2).toNatClampNeg)) dX12_readBy_97 (lt118 hs) (kk118 hs) hb6 rfl ?_
        refine J.iconst (v := 1) dX12_readBy_98 (by decide) ?_
        have hj : J E mX12_readBy (d + 1) Q 0 0 108 [some (.ref (eB E + 83)), some (.int x1), some (.int x2), some (.int ((16 * x1) + x2)), some (.int y7)] [.int (if (I3 118 (((16 * x1) + x2).toNatClampNeg)) = 1 then y7 else 0 : Int32), .int (I3 83 63), .ref (eB E + 83)] h (uI I3 83 62 y10) L := by
          refine J.iadd dX12_readBy_108 ?_
          refine J.putI fw_X12_398 rfl dX12_readBy_109 (lt83 hs) (kk83 hs) ?_
          refine J.aload_n dX12_readBy_112 rfl rfl ?_
          refine J.aload_n dX12_readBy_113 rfl rfl ?_
          refine J.getR (r := 118) fl_X12_114 rfl dX12_readBy_114 (lt83 hs) (kk83 hs) (rr83_35 hs) ?_
          refine J.iload_n dX12_readBy_117 rfl rfl ?_
          refine J.iald (x := I3 118 (((16 * x1) + x2).toNatClampNeg)) dX12_readBy_118 (lt118 hs) (kk118 hs) hb6 rfl ?_
          refine J.iconst (v := 2) dX12_readBy_119 (by decide) ?_
          have hj : J E mX12_readBy (d + 1) Q 0 0 132 [some (.ref (eB E + 83)), some (.int x1), some (.int x2), some (.int ((16 * x1) + x2)), some (.int y7)] [.int (if (I3 118 (((16 * x1) + x2).toNatClampNeg)) = 2 then y7 else I3 83 64 : Int32), .ref (eB E + 83)] h (uI (uI I3 83 62 y10) 83 63 ((I3 83 63) + (if (I3 118 (((16 * x1) + x2).toNatClampNeg)) = 1 then y7 else 0 : Int32))) L := by
            refine J.putI fw_X12_401 rfl dX12_readBy_132 (lt83 hs) (kk83 hs) ?_
            refine J.aload_n dX12_readBy_135 rfl rfl ?_
            refine J.dup dX12_readBy_136 rfl ?_
            refine J.getI (x := I3 83 65) fl_X12_404 rfl dX12_readBy_137 (lt83 hs) (kk83 hs) rfl ?_
            refine J.aload_n dX12_readBy_140 rfl rfl ?_
            refine J.getR (r := 118) fl_X12_114 rfl dX12_readBy_141 (lt83 hs) (kk83 hs) (rr83_35 hs) ?_
            refine J.iload_n dX12_readBy_144 rfl rfl ?_
            refine J.iald (x := I3 118 (((16 * x1) + x2).toNatClampNeg)) dX12_readBy_145 (lt118 hs) (kk118 hs) hb6 rfl ?_
            refine J.iconst (v := 3) dX12_readBy_146 (by decide) ?_
            obtain ⟨y15, hyy15⟩ : ∃ y15 : Int32, y15 = (if (I3 118 (((16 * x1) + x2).toNatClampNeg)) = 3 then y7 else if (I3 118 (((16 * x1) + x2).toNatClampNeg)) = 4 then -y7 else 0) := ⟨_, rfl⟩
            have hW := hW y15 hyy15
            have hj : J E mX12_readBy (d + 1) Q 0 0 172 [some (.ref (eB E + 83)), some (.int x1), some (.int x2), some (.int ((16 * x1) + x2)), some (.int y7)] [.int y15, .int (I3 83 65), .ref (eB E + 83)] h (uI (uI (uI I3 83 62 y10) 83 63 ((I3 83 63) + (if (I3 118 (((16 * x1) + x2).toNatClampNeg)) = 1 then y7 else 0 : Int32))) 83 64 (if (I3 118 (((16 * x1) + x2).toNatClampNeg)) = 2 then y7 else I3 83 64 : Int32)) L := by
              refine J.iadd dX12_readBy_172 ?_
              refine J.putI fw_X12_404 rfl dX12_readBy_173 (lt83 hs) (kk83 hs) ?_
              refine J.iinc (v := x2 + 1) (vs' := [some (.ref (eB E + 83)), some (.int x1), some (.int (x2 + 1)), some (.int ((16 * x1) + x2)), some (.int y7)]) dX12_readBy_176 rfl (by rfl) (by decide) rfl ?_
              refine J.goto 22 dX12_readBy_179 (by decide) ?_
              exact J.mask [true, true, true, false, false] rfl hW
            refine J.ic_ne 155 dX12_readBy_147 (by decide) (fun hc13 => ?_) (fun hc13 => ?_)
            · refine J.aload_n dX12_readBy_155 rfl rfl ?_
              refine J.getR (r := 118) fl_X12_114 rfl dX12_readBy_156 (lt83 hs) (kk83 hs) (rr83_35 hs) ?_
              refine J.iload_n dX12_readBy_159 rfl rfl ?_
              refine J.iald (x := I3 118 (((16 * x1) + x2).toNatClampNeg)) dX12_readBy_160 (lt118 hs) (kk118 hs) hb6 rfl ?_
              refine J.iconst (v := 4) dX12_readBy_161 (by decide) ?_
              refine J.ic_ne 171 dX12_readBy_162 (by decide) (fun hc14 => ?_) (fun hc14 => ?_)
              · refine J.iconst (v := 0) dX12_readBy_171 (by decide) ?_
                rw [show y15 = 0 from by simp only [hyy15, eq_false hc13, eq_false hc14, if_true, if_false, bI_true, bI_false, and_true, true_and, and_false, false_and, or_true, true_or, or_false, false_or, not_true_eq_false, not_false_eq_true]] at hj
                exact hj
              · refine J.iload dX12_readBy_165 rfl ?_
                refine J.ineg dX12_readBy_167 ?_
                refine J.goto 172 dX12_readBy_168 (by decide) ?_
                rw [show y15 = -y7 from by simp only [hyy15, eq_false hc13, eq_true hc14, if_true, if_false, bI_true, bI_false, and_true, true_and, and_false, false_and, or_true, true_or, or_false, false_or, not_true_eq_false, not_false_eq_true]] at hj
                exact hj
            · refine J.iload dX12_readBy_150 rfl ?_
              refine J.goto 172 dX12_readBy_152 (by decide) ?_
              rw [show y15 = y7 from by simp only [hyy15, eq_true hc13, if_true, if_false, bI_true, bI_false, and_true, true_and, and_false, false_and, or_true, true_or, or_false, false_or, not_true_eq_false, not_false_eq_true]] at hj
              exact hj
          refine J.ic_ne 128 dX12_readBy_120 (by decide) (fun hc12 => ?_) (fun hc12 => ?_)
          · refine J.aload_n dX12_readBy_128 rfl rfl ?_
            refine J.getI (x := I3 83 64) fl_X12_401 rfl dX12_readBy_129 (lt83 hs) (kk83 hs) rfl ?_
            rw [show ((if (I3 118 (((16 * x1) + x2).toNatClampNeg)) = 2 then y7 else I3 83 64 : Int32) = I3 83 64) from by simp only [eq_false hc12, if_true, if_false, bI_true, bI_false, and_true, true_and, and_false, false_and, or_true, true_or, or_false, false_or, not_true_eq_false, not_false_eq_true]] at hj
            exact hj
          · refine J.iload dX12_readBy_123 rfl ?_
            refine J.goto 132 dX12_readBy_125 (by decide) ?_
            rw [show ((if (I3 118 (((16 * x1) + x2).toNatClampNeg)) = 2 then y7 else I3 83 64 : Int32) = y7) from by simp only [eq_true hc12, if_true, if_false, bI_true, bI_false, and_true, true_and, and_false, false_and, or_true, true_or, or_false, false_or, not_true_eq_false, not_false_eq_true]] at hj
            exact hj
        refine J.ic_ne 107 dX12_readBy_99 (by decide) (fun hc11 => ?_) (fun hc11 => ?_)
        · refine J.iconst (v := 0) dX12_readBy_107 (by decide) ?_
          rw [show ((if (I3 118 (((16 * x1) + x2).toNatClampNeg)) = 1 then y7 else 0 : Int32) = 0) from by simp only [eq_false hc11, if_true, if_false, bI_true, bI_false, and_true, true_and, and_false, false_and, or_true, true_or, or_false, false_or, not_true_eq_false, not_false_eq_true]] at hj
          exact hj
        · refine J.iload dX12_readBy_102 rfl ?_
          refine J.goto 108 dX12_readBy_104 (by decide) ?_
          rw [show ((if (I3 118 (((16 * x1) + x2).toNatClampNeg)) = 1 then y7 else 0 : Int32) = y7) from by simp only [eq_true hc11, if_true, if_false, bI_true, bI_false, and_true, true_and, and_false, false_and, or_true, true_or, or_false, false_or, not_true_eq_false, not_false_eq_true]] at hj
          exact hj
      refine J.if_ne 80 dX12_readBy_65 (by decide) (fun hc8 => ?_) (fun hc8 => ?_)
      · refine J.aload_n dX12_readBy_80 rfl rfl ?_
        refine J.getI (x := I3 83 62) fl_X12_395 rfl dX12_readBy_81 (lt83 hs) (kk83 hs) rfl ?_
        rw [show y10 = I3 83 62 from by simp only [hyy10, eq_false hc8, if_true, if_false, bI_true, bI_false, and_true, true_and, and_false, false_and, or_true, true_or, or_false, false_or, not_true_eq_false, not_false_eq_true]] at hj
        exact hj
      · refine J.aload_n dX12_readBy_68 rfl rfl ?_
        refine J.getI (x := I3 83 62) fl_X12_395 rfl dX12_readBy_69 (lt83 hs) (kk83 hs) rfl ?_
        refine J.iconst (v := (-1)) dX12_readBy_72 (by decide) ?_
        refine J.ic_ne 80 dX12_readBy_73 (by decide) (fun hc9 => ?_) (fun hc9 => ?_)
        · refine J.aload_n dX12_readBy_80 rfl rfl ?_
          refine J.getI (x := I3 83 62) fl_X12_395 rfl dX12_readBy_81 (lt83 hs) (kk83 hs) rfl ?_
          rw [show y10 = I3 83 62 from by simp only [hyy10, eq_true hc8, eq_false hc9, if_true, if_false, bI_true, bI_false, and_true, true_and, and_false, false_and, or_true, true_or, or_false, false_or, not_true_eq_false, not_false_eq_true]] at hj
          exact hj
        · refine J.iload_n dX12_readBy_76 rfl rfl ?_
          refine J.goto 84 dX12_readBy_77 (by decide) ?_
          rw [show y10 = x2 from by simp only [hyy10, eq_true hc8, eq_true hc9, if_true, if_false, bI_true, bI_false, and_true, true_and, and_false, false_and, or_true, true_or, or_false, false_or, not_true_eq_false, not_false_eq_true]] at hj
          exact hj
    · have hW := hW.1 hc5
      refine J.goto 176 dX12_readBy_47 (by decide) ?_
      refine J.iinc (v := x2 + 1) (vs' := [some (.ref (eB E + 83)), some (.int x1), some (.int (x2 + 1)), some (.int ((16 * x1) + x2)), none]) dX12_readBy_176 rfl (by rfl) (by decide) rfl ?_
      refine J.goto 22 dX12_readBy_179 (by decide) ?_
      exact J.mask [true, true, true, false, false] rfl hW
set_option maxRecDepth 100000 in
set_option maxHeartbeats 4000000 in
theorem w_X12_read {E : Envt} {d : Nat} {Q : Pst} {h : mS} {I : mI} {L : mL} (hs : SL h) (x1 : Int32) (x2 : Int32) (x3 : Int32) (x4 : Int32) 
    (hW : (((¬ (x1 < 0) ∧ (¬ ((((uI I 83 0 0) 95 0) - 1) < x1))) → (¬ (x2 < 0) ∧ (¬ ((((uI I 83 0 0) 95 0) - 1) < x2))) → vp_in x1 80) ∧ (((¬ (x1 < 0) ∧ (¬ ((((uI I 83 0 0) 95 0) - 1) < x1))) → (¬ (x2 < 0) ∧ (¬ ((((uI I 83 0 0) 95 0) - 1) < x2))) → (((uI I 83 0 0) 97 x1.toNatClampNeg) = 0) → vp_in x2 80) ∧ ((((¬ (x1 < 0) ∧ (¬ ((((uI I 83 0 0) 95 0) - 1) < x1))) ∧ ((¬ (x2 < 0) ∧ (¬ ((((uI I 83 0 0) 95 0) - 1) < x2))) ∧ ((((uI I 83 0 0) 97 x1.toNatClampNeg) = 0) ∧ (((uI I 83 0 0) 97 x2.toNatClampNeg) = 1)))) → (((¬ (x3 < 0) ∧ (¬ (4 < x3))) → (((¬ (x4 < 0) ∧ (¬ (3 < x4))) → (CT E mX12_lookAt (d + 3) 0 0 [.ref (eB E + 83), .int x1, .int x2, .int x3] h (uI I 83 0 0) L (qv h L fun I12 => (CT E mX12_readBy (d + 3) 0 0 [.ref (eB E + 83), .int x3] h I12 L (qv h L fun I13 => (∀ y18 : Int32, y18 = (if x4 = 0 then bI (¬ ((I13 83 62) = (-1))) else if x4 = 1 then I13 83 62 else if x4 = 2 then I13 83 63 else I13 83 64) → Q (some (.int y18)) h I13 L)))))) ∧ (¬ (¬ (x4 < 0) ∧ (¬ (3 < x4))) → Q (some (.int (-100))) h (uI I 83 0 0) L))) ∧ (¬ (¬ (x3 < 0) ∧ (¬ (4 < x3))) → Q (some (.int (-100))) h (uI I 83 0 0) L))) ∧ (¬ ((¬ (x1 < 0) ∧ (¬ ((((uI I 83 0 0) 95 0) - 1) < x1))) ∧ ((¬ (x2 < 0) ∧ (¬ ((((uI I 83 0 0) 95 0) - 1) < x2))) ∧ ((((uI I 83 0 0) 97 x1.toNatClampNeg) = 0) ∧ (((uI I 83 0 0) 97 x2.toNatClampNeg) = 1)))) → Q (some (.int (-100))) h (uI I 83 0 0) L))))) :
    CT E mX12_read (d + 4) 0 0 [.ref (eB E + 83), .int x1, .int x2, .int x3, .int x4] h I L Q := by
  refine CT.of (by decide) [some (.ref (eB E + 83)), some (.int x1), some (.int x2), some (.int x3), some (.int x4)] rfl (Nat.le_of_ble_eq_true rfl) ?_
  refine J.aload_n dX12_read_0 rfl rfl ?_
  refine J.iconst (v := 0) dX12_read_1 (by decide) ?_
  refine J.putI fw_X12_202 rfl dX12_read_2 (lt83 hs) (kk83 hs) ?_
  refine J.aload_n dX12_read_5 rfl rfl ?_
  refine J.iload_n dX12_read_6 rfl rfl ?_
  refine J.iload_n dX12_read_7 rfl rfl ?_
  obtain ⟨hb1, hW⟩ := hW
  obtain ⟨hb2, hW⟩ := hW
  refine J.callV (M' := mX12_areCouple) (index := 410) (bc := 0) (bs := 0) (bc' := 0) (bs' := 0) (st := []) [.int x1, .int x2] ml_X12_410 cv_X12_areCouple dX12_read_8 (lt83 hs) (kk83 hs) (by decide) rfl rfl rfl rfl (Nat.le_of_ble_eq_true rfl) (kqi (w_X12_areCouple (d := d + 1) (Q := qi h L (fun v I' => I' = (uI I 83 0 0) ∧ v = bI ((¬ (x1 < 0) ∧ (¬ ((((uI I 83 0 0) 95 0) - 1) < x1))) ∧ ((¬ (x2 < 0) ∧ (¬ ((((uI I 83 0 0) 95 0) - 1) < x2))) ∧ ((((uI I 83 0 0) 97 x1.toNatClampNeg) = 0) ∧ (((uI I 83 0 0) 97 x2.toNatClampNeg) = 1)))))) hs x1 x2 ⟨hb1, hb2, rfl, rfl, _, rfl, rfl, rfl⟩) (fun v3 I4 hv => ?_))
  rw [hv.1, hv.2]
  refine J.if_eq 31 dX12_read_11 (by decide) (fun hc5 => ?_) (fun hc5 => ?_)
  · have hc5 := bI_0.mp hc5
    have hW := hW.2 hc5
    refine J.bipush (v := (-100)) dX12_read_31 (by decide) ?_
    exact J.reti dX12_read_33 rfl rfl hW
  · have hc5 := bI_n0.mp hc5
    have hW := hW.1 hc5
    refine J.iload_n dX12_read_14 rfl rfl ?_
    refine J.callS (M' := mX12_isVillage) (index := 226) (bc := 0) (bs := 0) (bc' := 0) (bs' := 0) (st := []) [.int x3] ml_X12_226 cv_X12_isVillage dX12_read_15 rfl rfl (Nat.le_of_ble_eq_true rfl) (kqi (w_X12_isVillage (d := d + 2) (Q := qi h L (fun v I' => I' = (uI I 83 0 0) ∧ v = bI (¬ (x3 < 0) ∧ (¬ (4 < x3))))) hs x3 ⟨rfl, rfl, _, rfl, rfl, rfl⟩) (fun v6 I7 hv => ?_))
    rw [hv.1, hv.2]
    refine J.if_eq 31 dX12_read_18 (by decide) (fun hc8 => ?_) (fun hc8 => ?_)
    · have hc8 := bI_0.mp hc8
      have hW := hW.2 hc8
      refine J.bipush (v := (-100)) dX12_read_31 (by decide) ?_
      exact J.reti dX12_read_33 rfl rfl hW
    · have hc8 := bI_n0.mp hc8
      have hW := hW.1 hc8
      refine J.iload dX12_read_21 rfl ?_
      refine J.iconst (v := 0) dX12_read_23 (by decide) ?_
      refine J.iconst (v := 3) dX12_read_24 (by decide) ?_
      refine J.callS (M' := mX12_in) (index := 218) (bc := 0) (bs := 0) (bc' := 0) (bs' := 0) (st := []) [.int x4, .int 0, .int 3] ml_X12_218 cv_X12_in dX12_read_25 rfl rfl (Nat.le_of_ble_eq_true rfl) (kqi (w_X12_in (d := d + 3) (Q := qi h L (fun v I' => I' = (uI I 83 0 0) ∧ v = bI (¬ (x4 < 0) ∧ (¬ (3 < x4))))) hs x4 0 3 ⟨rfl, rfl, _, rfl, rfl, rfl⟩) (fun v9 I10 hv => ?_))
      rw [hv.1, hv.2]
      refine J.if_ne 34 dX12_read_28 (by decide) (fun hc11 => ?_) (fun hc11 => ?_)
      · have hc11 := bI_n0.mp hc11
        have hW := hW.1 hc11
        refine J.aload_n dX12_read_34 rfl rfl ?_
        refine J.iload_n dX12_read_35 rfl rfl ?_
        refine J.iload_n dX12_read_36 rfl rfl ?_
        refine J.iload_n dX12_read_37 rfl rfl ?_
        refine J.callV (M' := mX12_lookAt) (index := 413) (bc := 0) (bs := 0) (bc' := 0) (bs' := 0) (st := []) [.int x1, .int x2, .int x3] ml_X12_413 cv_X12_lookAt dX12_read_38 (lt83 hs) (kk83 hs) (by decide) rfl rfl rfl rfl (Nat.le_of_ble_eq_true rfl) (kqv hW (fun I12 hW => ?_))
        refine J.aload_n dX12_read_41 rfl rfl ?_
        refine J.iload_n dX12_read_42 rfl rfl ?_
        refine J.callV (M' := mX12_readBy) (index := 417) (bc := 0) (bs := 0) (bc' := 0) (bs' := 0) (st := []) [.int x3] ml_X12_417 cv_X12_readBy dX12_read_43 (lt83 hs) (kk83 hs) (by decide) rfl rfl rfl rfl (Nat.le_of_ble_eq_true rfl) (kqv hW (fun I13 hW => ?_))
        refine J.iload dX12_read_46 rfl ?_
        obtain ⟨y18, hyy18⟩ : ∃ y18 : Int32, y18 = (if x4 = 0 then bI (¬ ((I13 83 62) = (-1))) else if x4 = 1 then I13 83 62 else if x4 = 2 then I13 83 63 else I13 83 64) := ⟨_, rfl⟩
        have hW := hW y18 hyy18
        have hj : J E mX12_read (d + 4) Q 0 0 97 [some (.ref (eB E + 83)), some (.int x1), some (.int x2), some (.int x3), some (.int x4)] [.int y18] h I13 L := by
          exact J.reti dX12_read_97 rfl rfl hW
        refine J.if_ne 67 dX12_read_48 (by decide) (fun hc14 => ?_) (fun hc14 => ?_)
        · refine J.iload dX12_read_67 rfl ?_
          refine J.iconst (v := 1) dX12_read_69 (by decide) ?_
          refine J.ic_ne 80 dX12_read_70 (by decide) (fun hc15 => ?_) (fun hc15 => ?_)
          · refine J.iload dX12_read_80 rfl ?_
            refine J.iconst (v := 2) dX12_read_82 (by decide) ?_
            refine J.ic_ne 93 dX12_read_83 (by decide) (fun hc16 => ?_) (fun hc16 => ?_)
            · refine J.aload_n dX12_read_93 rfl rfl ?_
              refine J.getI (x := I13 83 64) fl_X12_401 rfl dX12_read_94 (lt83 hs) (kk83 hs) rfl ?_
              rw [show y18 = I13 83 64 from by simp only [hyy18, eq_false hc14, eq_false hc15, eq_false hc16, if_true, if_false, bI_true, bI_false, and_true, true_and, and_false, false_and, or_true, true_or, or_false, false_or, not_true_eq_false, not_false_eq_true]] at hj
              exact hj
            · refine J.aload_n dX12_read_86 rfl rfl ?_
              refine J.getI (x := I13 83 63) fl_X12_398 rfl dX12_read_87 (lt83 hs) (kk83 hs) rfl ?_
              refine J.goto 97 dX12_read_90 (by decide) ?_
              rw [show y18 = I13 83 63 from by simp only [hyy18, eq_false hc14, eq_false hc15, eq_true hc16, if_true, if_false, bI_true, bI_false, and_true, true_and, and_false, false_and, or_true, true_or, or_false, false_or, not_true_eq_false, not_false_eq_true]] at hj
              exact hj
          · refine J.aload_n dX12_read_73 rfl rfl ?_
            refine J.getI (x := I13 83 62) fl_X12_395 rfl dX12_read_74 (lt83 hs) (kk83 hs) rfl ?_
            refine J.goto 97 dX12_read_77 (by decide) ?_
            rw [show y18 = I13 83 62 from by simp only [hyy18, eq_false hc14, eq_true hc15, if_true, if_false, bI_true, bI_false, and_true, true_and, and_false, false_and, or_true, true_or, or_false, false_or, not_true_eq_false, not_false_eq_true]] at hj
            exact hj
        · refine J.aload_n dX12_read_51 rfl rfl ?_
          refine J.getI (x := I13 83 62) fl_X12_395 rfl dX12_read_52 (lt83 hs) (kk83 hs) rfl ?_
          refine J.iconst (v := (-1)) dX12_read_55 (by decide) ?_
          refine J.ic_ne 63 dX12_read_56 (by decide) (fun hc17 => ?_) (fun hc17 => ?_)
          · refine J.iconst (v := 1) dX12_read_63 (by decide) ?_
            refine J.goto 97 dX12_read_64 (by decide) ?_
            rw [show y18 = 1 from by simp only [hyy18, eq_true hc14, eq_false hc17, if_true, if_false, bI_true, bI_false, and_true, true_and, and_false, false_and, or_true, true_or, or_false, false_or, not_true_eq_false, not_false_eq_true]] at hj
            exact hj
          · refine J.iconst (v := 0) dX12_read_59 (by decide) ?_
            refine J.goto 97 dX12_read_60 (by decide) ?_
            rw [show y18 = 0 from by simp only [hyy18, eq_true hc14, eq_true hc17, if_true, if_false, bI_true, bI_false, and_true, true_and, and_false, false_and, or_true, true_or, or_false, false_or, not_true_eq_false, not_false_eq_true]] at hj
            exact hj
      · have hc11 := bI_0.mp hc11
        have hW := hW.2 hc11
        refine J.bipush (v := (-100)) dX12_read_31 (by decide) ?_
        exact J.reti dX12_read_33 rfl rfl hW
set_option maxRecDepth 100000 in
set_option maxHeartbeats 4000000 in
theorem w_X12_mayWed {E : Envt} {d : Nat} {Q : Pst} {h : mS} {I : mI} {L : mL} (hs : SL h) (x1 : Int32) (x2 : Int32) 
    (hW : (vp_in x1 80 ∧ (vp_in x2 80 ∧ ((((I 96 x1.toNatClampNeg) = (I 96 x2.toNatClampNeg)) → Q (some (.int 0)) h I L) ∧ (¬ ((I 96 x1.toNatClampNeg) = (I 96 x2.toNatClampNeg)) → (vp_in (I 96 x1.toNatClampNeg) 32 ∧ (∀ y5 : Int32, y5 = I 92 ((I 96 x1.toNatClampNeg).toNatClampNeg) → (vp_in (I 96 x2.toNatClampNeg) 32 ∧ (∀ y7 : Int32, y7 = I 92 ((I 96 x2.toNatClampNeg).toNatClampNeg) → (CT E mX12_lookAt (d + 3) 0 0 [.ref (eB E + 83), .int x1, .int x2, .int y5] h I L (qv h L fun I8 => (CT E mX12_readBy (d + 3) 0 0 [.ref (eB E + 83), .int y5] h I8 L (qv h L fun I9 => (CT E mX12_lookAt (d + 3) 0 0 [.ref (eB E + 83), .int x1, .int x2, .int y7] h (uI (uI I9 83 66 (I9 83 63)) 83 67 (I9 83 64)) L (qv h L fun I11 => (CT E mX12_readBy (d + 3) 0 0 [.ref (eB E + 83), .int y7] h I11 L (qv h L fun I12 => Q (some (.int (bI (((I9 83 62) = (-1)) ∧ ((I12 83 62) = (-1)))))) h (uI I12 83 66 (if (I12 83 63) ≤ (I12 83 66) then I12 83 66 else I12 83 63 : Int32)) L))))))))))))))))) :
    CT E mX12_mayWed (d + 4) 0 0 [.ref (eB E + 83), .int x1, .int x2] h I L Q := by
  refine CT.of (by decide) [some (.ref (eB E + 83)), some (.int x1), some (.int x2), none, none, none] rfl (Nat.le_of_ble_eq_true rfl) ?_
  refine J.aload_n dX12_mayWed_0 rfl rfl ?_
  refine J.getR (r := 96) fl_X12_47 rfl dX12_mayWed_1 (lt83 hs) (kk83 hs) (rr83_13 hs) ?_
  refine J.iload_n dX12_mayWed_4 rfl rfl ?_
  obtain ⟨hb1, hW⟩ := hW
  refine J.iald (x := I 96 x1.toNatClampNeg) dX12_mayWed_5 (lt96 hs) (kk96 hs) hb1 rfl ?_
  refine J.aload_n dX12_mayWed_6 rfl rfl ?_
  refine J.getR (r := 96) fl_X12_47 rfl dX12_mayWed_7 (lt83 hs) (kk83 hs) (rr83_13 hs) ?_
  refine J.iload_n dX12_mayWed_10 rfl rfl ?_
  obtain ⟨hb2, hW⟩ := hW
  refine J.iald (x := I 96 x2.toNatClampNeg) dX12_mayWed_11 (lt96 hs) (kk96 hs) hb2 rfl ?_
  refine J.ic_ne 17 dX12_mayWed_12 (by decide) (fun hc3 => ?_) (fun hc3 => ?_)
  · have hW := hW.2 hc3
    refine J.aload_n dX12_mayWed_17 rfl rfl ?_
    refine J.getR (r := 92) fl_X12_35 rfl dX12_mayWed_18 (lt83 hs) (kk83 hs) (rr83_9 hs) ?_
    refine J.aload_n dX12_mayWed_21 rfl rfl ?_
    refine J.getR (r := 96) fl_X12_47 rfl dX12_mayWed_22 (lt83 hs) (kk83 hs) (rr83_13 hs) ?_
    refine J.iload_n dX12_mayWed_25 rfl rfl ?_
    refine J.iald (x := I 96 x1.toNatClampNeg) dX12_mayWed_26 (lt96 hs) (kk96 hs) hb1 rfl ?_
    obtain ⟨hb4, hW⟩ := hW
    refine J.iald (x := I 92 ((I 96 x1.toNatClampNeg).toNatClampNeg)) dX12_mayWed_27 (lt92 hs) (kk92 hs) hb4 rfl ?_
    refine J.topi (fun y5 hyy5 => ?_)
    have hW := hW y5 hyy5
    refine J.istore_n (vs' := [some (.ref (eB E + 83)), some (.int x1), some (.int x2), some (.int y5), none, none]) dX12_mayWed_28 rfl (by decide) rfl ?_
    refine J.aload_n dX12_mayWed_29 rfl rfl ?_
    refine J.getR (r := 92) fl_X12_35 rfl dX12_mayWed_30 (lt83 hs) (kk83 hs) (rr83_9 hs) ?_
    refine J.aload_n dX12_mayWed_33 rfl rfl ?_
    refine J.getR (r := 96) fl_X12_47 rfl dX12_mayWed_34 (lt83 hs) (kk83 hs) (rr83_13 hs) ?_
    refine J.iload_n dX12_mayWed_37 rfl rfl ?_
    refine J.iald (x := I 96 x2.toNatClampNeg) dX12_mayWed_38 (lt96 hs) (kk96 hs) hb2 rfl ?_
    obtain ⟨hb6, hW⟩ := hW
    refine J.iald (x := I 92 ((I 96 x2.toNatClampNeg).toNatClampNeg)) dX12_mayWed_39 (lt92 hs) (kk92 hs) hb6 rfl ?_
    refine J.topi (fun y7 hyy7 => ?_)
    have hW := hW y7 hyy7
    refine J.istore (vs' := [some (.ref (eB E + 83)), some (.int x1), some (.int x2), some (.int y5), some (.int y7), none]) dX12_mayWed_40 (by decide) rfl ?_
    refine J.aload_n dX12_mayWed_42 rfl rfl ?_
    refine J.iload_n dX12_mayWed_43 rfl rfl ?_
    refine J.iload_n dX12_mayWed_44 rfl rfl ?_
    refine J.iload_n dX12_mayWed_45 rfl rfl ?_
    refine J.callV (M' := mX12_lookAt) (index := 413) (bc := 0) (bs := 0) (bc' := 0) (bs' := 0) (st := []) [.int x1, .int x2, .int y5] ml_X12_413 cv_X12_lookAt dX12_mayWed_46 (lt83 hs) (kk83 hs) (by decide) rfl rfl rfl rfl (Nat.le_of_ble_eq_true rfl) (kqv hW (fun I8 hW => ?_))
    refine J.aload_n dX12_mayWed_49 rfl rfl ?_
    refine J.iload_n dX12_mayWed_50 rfl rfl ?_
    refine J.callV (M' := mX12_readBy) (index := 417) (bc := 0) (bs := 0) (bc' := 0) (bs' := 0) (st := []) [.int y5] ml_X12_417 cv_X12_readBy dX12_mayWed_51 (lt83 hs) (kk83 hs) (by decide) rfl rfl rfl rfl (Nat.le_of_ble_eq_true rfl) (kqv hW (fun I9 hW => ?_))
    refine J.aload_n dX12_mayWed_54 rfl rfl ?_
    refine J.getI (x := I9 83 62) fl_X12_395 rfl dX12_mayWed_55 (lt83 hs) (kk83 hs) rfl ?_
    refine J.iconst (v := (-1)) dX12_mayWed_58 (by decide) ?_
    have hj : J E mX12_mayWed (d + 4) Q 0 0 67 [some (.ref (eB E + 83)), some (.int x1), some (.int x2), some (.int y5), some (.int y7), none] [.int (bI ((I9 83 62) = (-1)))] h I9 L := by
      refine J.istore (vs' := [some (.ref (eB E + 83)), some (.int x1), some (.int x2), some (.int y5), some (.int y7), some (.int (bI ((I9 83 62) = (-1))))]) dX12_mayWed_67 (by decide) rfl ?_
      refine J.aload_n dX12_mayWed_69 rfl rfl ?_
      refine J.aload_n dX12_mayWed_70 rfl rfl ?_
      refine J.getI (x := I9 83 63) fl_X12_398 rfl dX12_mayWed_71 (lt83 hs) (kk83 hs) rfl ?_
      refine J.putI fw_X12_420 rfl dX12_mayWed_74 (lt83 hs) (kk83 hs) ?_
      refine J.aload_n dX12_mayWed_77 rfl rfl ?_
      refine J.aload_n dX12_mayWed_78 rfl rfl ?_
      refine J.getI (x := I9 83 64) fl_X12_401 rfl dX12_mayWed_79 (lt83 hs) (kk83 hs) rfl ?_
      refine J.putI fw_X12_423 rfl dX12_mayWed_82 (lt83 hs) (kk83 hs) ?_
      refine J.aload_n dX12_mayWed_85 rfl rfl ?_
      refine J.iload_n dX12_mayWed_86 rfl rfl ?_
      refine J.iload_n dX12_mayWed_87 rfl rfl ?_
      refine J.iload dX12_mayWed_88 rfl ?_
      refine J.callV (M' := mX12_lookAt) (index := 413) (bc := 0) (bs := 0) (bc' := 0) (bs' := 0) (st := []) [.int x1, .int x2, .int y7] ml_X12_413 cv_X12_lookAt dX12_mayWed_90 (lt83 hs) (kk83 hs) (by decide) rfl rfl rfl rfl (Nat.le_of_ble_eq_true rfl) (kqv hW (fun I11 hW => ?_))
      refine J.aload_n dX12_mayWed_93 rfl rfl ?_
      refine J.iload dX12_mayWed_94 rfl ?_
      refine J.callV (M' := mX12_readBy) (index := 417) (bc := 0) (bs := 0) (bc' := 0) (bs' := 0) (st := []) [.int y7] ml_X12_417 cv_X12_readBy dX12_mayWed_96 (lt83 hs) (kk83 hs) (by decide) rfl rfl rfl rfl (Nat.le_of_ble_eq_true rfl) (kqv hW (fun I12 hW => ?_))
      refine J.aload_n dX12_mayWed_99 rfl rfl ?_
      refine J.aload_n dX12_mayWed_100 rfl rfl ?_
      refine J.getI (x := I12 83 63) fl_X12_398 rfl dX12_mayWed_101 (lt83 hs) (kk83 hs) rfl ?_
      refine J.aload_n dX12_mayWed_104 rfl rfl ?_
      refine J.getI (x := I12 83 66) fl_X12_420 rfl dX12_mayWed_105 (lt83 hs) (kk83 hs) rfl ?_
      have hj : J E mX12_mayWed (d + 4) Q 0 0 122 [some (.ref (eB E + 83)), some (.int x1), some (.int x2), some (.int y5), some (.int y7), some (.int (bI ((I9 83 62) = (-1))))] [.int (if (I12 83 63) ≤ (I12 83 66) then I12 83 66 else I12 83 63 : Int32), .ref (eB E + 83)] h I12 L := by
        refine J.putI fw_X12_420 rfl dX12_mayWed_122 (lt83 hs) (kk83 hs) ?_
        refine J.iload dX12_mayWed_125 rfl ?_
        have hj : J E mX12_mayWed (d + 4) Q 0 0 143 [some (.ref (eB E + 83)), some (.int x1), some (.int x2), some (.int y5), some (.int y7), some (.int (bI ((I9 83 62) = (-1))))] [.int (bI (((I9 83 62) = (-1)) ∧ ((I12 83 62) = (-1))))] h (uI I12 83 66 (if (I12 83 63) ≤ (I12 83 66) then I12 83 66 else I12 83 63 : Int32)) L := by
          exact J.reti dX12_mayWed_143 rfl (bz_nar (bI_bz _)) hW
        refine J.if_eq 142 dX12_mayWed_127 (by decide) (fun hc14 => ?_) (fun hc14 => ?_)
        · have hc14 := bI_0.mp hc14
          refine J.iconst (v := 0) dX12_mayWed_142 (by decide) ?_
          rw [show bI (((I9 83 62) = (-1)) ∧ ((I12 83 62) = (-1))) = 0 from bI_f (by simp only [eq_false hc14, and_true, true_and, and_false, false_and, or_true, true_or, or_false, false_or, not_true_eq_false, not_false_eq_true])] at hj
          exact hj
        · have hc14 := bI_n0.mp hc14
          refine J.aload_n dX12_mayWed_130 rfl rfl ?_
          refine J.getI (x := I12 83 62) fl_X12_395 rfl dX12_mayWed_131 (lt83 hs) (kk83 hs) rfl ?_
          refine J.iconst (v := (-1)) dX12_mayWed_134 (by decide) ?_
          refine J.ic_ne 142 dX12_mayWed_135 (by decide) (fun hc15 => ?_) (fun hc15 => ?_)
          · refine J.iconst (v := 0) dX12_mayWed_142 (by decide) ?_
            rw [show bI (((I9 83 62) = (-1)) ∧ ((I12 83 62) = (-1))) = 0 from bI_f (by simp only [eq_true hc14, eq_false hc15, and_true, true_and, and_false, false_and, or_true, true_or, or_false, false_or, not_true_eq_false, not_false_eq_true])] at hj
            exact hj
          · refine J.iconst (v := 1) dX12_mayWed_138 (by decide) ?_
            refine J.goto 143 dX12_mayWed_139 (by decide) ?_
            rw [show bI (((I9 83 62) = (-1)) ∧ ((I12 83 62) = (-1))) = 1 from bI_t (by simp only [eq_true hc14, eq_true hc15, and_true, true_and, and_false, false_and, or_true, true_or, or_false, false_or, not_true_eq_false, not_false_eq_true])] at hj
            exact hj
      refine J.ic_le 118 dX12_mayWed_108 (by decide) (fun hc13 => ?_) (fun hc13 => ?_)
      · refine J.aload_n dX12_mayWed_118 rfl rfl ?_
        refine J.getI (x := I12 83 66) fl_X12_420 rfl dX12_mayWed_119 (lt83 hs) (kk83 hs) rfl ?_
        rw [show ((if (I12 83 63) ≤ (I12 83 66) then I12 83 66 else I12 83 63 : Int32) = I12 83 66) from by simp only [eq_true hc13, if_true, if_false, bI_true, bI_false, and_true, true_and, and_false, false_and, or_true, true_or, or_false, false_or, not_true_eq_false, not_false_eq_true]] at hj
        exact hj
      · refine J.aload_n dX12_mayWed_111 rfl rfl ?_
        refine J.getI (x := I12 83 63) fl_X12_398 rfl dX12_mayWed_112 (lt83 hs) (kk83 hs) rfl ?_
        refine J.goto 122 dX12_mayWed_115 (by decide) ?_
        rw [show ((if (I12 83 63) ≤ (I12 83 66) then I12 83 66 else I12 83 63 : Int32) = I12 83 63) from by simp only [eq_false hc13, if_true, if_false, bI_true, bI_false, and_true, true_and, and_false, false_and, or_true, true_or, or_false, false_or, not_true_eq_false, not_false_eq_true]] at hj
        exact hj
    refine J.ic_ne 66 dX12_mayWed_59 (by decide) (fun hc10 => ?_) (fun hc10 => ?_)
    · refine J.iconst (v := 0) dX12_mayWed_66 (by decide) ?_
      rw [show bI ((I9 83 62) = (-1)) = 0 from bI_f (by simp only [eq_false hc10, and_true, true_and, and_false, false_and, or_true, true_or, or_false, false_or, not_true_eq_false, not_false_eq_true])] at hj
      exact hj
    · refine J.iconst (v := 1) dX12_mayWed_62 (by decide) ?_
      refine J.goto 67 dX12_mayWed_63 (by decide) ?_
      rw [show bI ((I9 83 62) = (-1)) = 1 from bI_t (by simp only [eq_true hc10, and_true, true_and, and_false, false_and, or_true, true_or, or_false, false_or, not_true_eq_false, not_false_eq_true])] at hj
      exact hj
  · have hW := hW.1 hc3
    refine J.iconst (v := 0) dX12_mayWed_15 (by decide) ?_
    exact J.reti dX12_mayWed_16 rfl (bz_nar (Or.inl rfl)) hW
set_option maxRecDepth 100000 in
set_option maxHeartbeats 4000000 in
theorem w_X12_may {E : Envt} {d : Nat} {Q : Pst} {h : mS} {I : mI} {L : mL} (hs : SL h) (x1 : Int32) (x2 : Int32) 
    (hW : (((¬ (x1 < 0) ∧ (¬ ((((uI I 83 0 0) 95 0) - 1) < x1))) → (¬ (x2 < 0) ∧ (¬ ((((uI I 83 0 0) 95 0) - 1) < x2))) → vp_in x1 80) ∧ (((¬ (x1 < 0) ∧ (¬ ((((uI I 83 0 0) 95 0) - 1) < x1))) → (¬ (x2 < 0) ∧ (¬ ((((uI I 83 0 0) 95 0) - 1) < x2))) → (((uI I 83 0 0) 97 x1.toNatClampNeg) = 0) → vp_in x2 80) ∧ ((((¬ (x1 < 0) ∧ (¬ ((((uI I 83 0 0) 95 0) - 1) < x1))) ∧ ((¬ (x2 < 0) ∧ (¬ ((((uI I 83 0 0) 95 0) - 1) < x2))) ∧ ((((uI I 83 0 0) 97 x1.toNatClampNeg) = 0) ∧ (((uI I 83 0 0) 97 x2.toNatClampNeg) = 1)))) → (CT E mX12_mayWed (d + 4) 0 0 [.ref (eB E + 83), .int x1, .int x2] h (uI I 83 0 0) L (qi h L fun r7 I6 => Q (some (.int (bI (¬ (r7 = 0))))) h I6 L))) ∧ (¬ ((¬ (x1 < 0) ∧ (¬ ((((uI I 83 0 0) 95 0) - 1) < x1))) ∧ ((¬ (x2 < 0) ∧ (¬ ((((uI I 83 0 0) 95 0) - 1) < x2))) ∧ ((((uI I 83 0 0) 97 x1.toNatClampNeg) = 0) ∧ (((uI I 83 0 0) 97 x2.toNatClampNeg) = 1)))) → Q (some (.int 0)) h (uI I 83 0 0) L))))) :
    CT E mX12_may (d + 5) 0 0 [.ref (eB E + 83), .int x1, .int x2] h I L Q := by
  refine CT.of (by decide) [some (.ref (eB E + 83)), some (.int x1), some (.int x2)] rfl (Nat.le_of_ble_eq_true rfl) ?_
  refine J.aload_n dX12_may_0 rfl rfl ?_
  refine J.iconst (v := 0) dX12_may_1 (by decide) ?_
  refine J.putI fw_X12_202 rfl dX12_may_2 (lt83 hs) (kk83 hs) ?_
  refine J.aload_n dX12_may_5 rfl rfl ?_
  refine J.iload_n dX12_may_6 rfl rfl ?_
  refine J.iload_n dX12_may_7 rfl rfl ?_
  obtain ⟨hb1, hW⟩ := hW
  obtain ⟨hb2, hW⟩ := hW
  refine J.callV (M' := mX12_areCouple) (index := 410) (bc := 0) (bs := 0) (bc' := 0) (bs' := 0) (st := []) [.int x1, .int x2] ml_X12_410 cv_X12_areCouple dX12_may_8 (lt83 hs) (kk83 hs) (by decide) rfl rfl rfl rfl (Nat.le_of_ble_eq_true rfl) (kqi (w_X12_areCouple (d := d + 2) (Q := qi h L (fun v I' => I' = (uI I 83 0 0) ∧ v = bI ((¬ (x1 < 0) ∧ (¬ ((((uI I 83 0 0) 95 0) - 1) < x1))) ∧ ((¬ (x2 < 0) ∧ (¬ ((((uI I 83 0 0) 95 0) - 1) < x2))) ∧ ((((uI I 83 0 0) 97 x1.toNatClampNeg) = 0) ∧ (((uI I 83 0 0) 97 x2.toNatClampNeg) = 1)))))) hs x1 x2 ⟨hb1, hb2, rfl, rfl, _, rfl, rfl, rfl⟩) (fun v3 I4 hv => ?_))
  rw [hv.1, hv.2]
  refine J.if_eq 27 dX12_may_11 (by decide) (fun hc5 => ?_) (fun hc5 => ?_)
  · have hc5 := bI_0.mp hc5
    have hW := hW.2 hc5
    refine J.iconst (v := 0) dX12_may_27 (by decide) ?_
    exact J.reti dX12_may_28 rfl (bz_nar (Or.inl rfl)) hW
  · have hc5 := bI_n0.mp hc5
    have hW := hW.1 hc5
    refine J.aload_n dX12_may_14 rfl rfl ?_
    refine J.iload_n dX12_may_15 rfl rfl ?_
    refine J.iload_n dX12_may_16 rfl rfl ?_
    refine J.callV (M' := mX12_mayWed) (index := 426) (bc := 0) (bs := 0) (bc' := 0) (bs' := 0) (st := []) [.int x1, .int x2] ml_X12_426 cv_X12_mayWed dX12_may_17 (lt83 hs) (kk83 hs) (by decide) rfl rfl rfl rfl (Nat.le_of_ble_eq_true rfl) (kqi hW (fun r7 I6 hW => ?_))
    have hj : J E mX12_may (d + 5) Q 0 0 28 [some (.ref (eB E + 83)), some (.int x1), some (.int x2)] [.int (bI (¬ (r7 = 0)))] h I6 L := by
      exact J.reti dX12_may_28 rfl (bz_nar (bI_bz _)) hW
    refine J.if_eq 27 dX12_may_20 (by decide) (fun hc8 => ?_) (fun hc8 => ?_)
    · refine J.iconst (v := 0) dX12_may_27 (by decide) ?_
      rw [show bI (¬ (r7 = 0)) = 0 from bI_f (by simp only [eq_true hc8, and_true, true_and, and_false, false_and, or_true, true_or, or_false, false_or, not_true_eq_false, not_false_eq_true])] at hj
      exact hj
    · refine J.iconst (v := 1) dX12_may_23 (by decide) ?_
      refine J.goto 28 dX12_may_24 (by decide) ?_
      rw [show bI (¬ (r7 = 0)) = 1 from bI_t (by simp only [eq_false hc8, and_true, true_and, and_false, false_and, or_true, true_or, or_false, false_or, not_true_eq_false, not_false_eq_true])] at hj
      exact hj
