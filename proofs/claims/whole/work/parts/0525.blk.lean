set_option maxRecDepth 100000 in
set_option maxHeartbeats 4000000 in
theorem w_X12_findFree {E : Envt} {d : Nat} {Q : Pst} {h : mS} {I : mI} {L : mL} (hs : SL h)  
    (hW : J E mX12_findFree (d + 5) Q 0 0 16 [some (.ref (eB E + 83)), some (.int 0), none] [] h (uI (uI I 134 0 0) 134 1 0) L) :
    CT E mX12_findFree (d + 5) 0 0 [.ref (eB E + 83)] h I L Q := by
  refine CT.of (by decide) [some (.ref (eB E + 83)), none, none] rfl (Nat.le_of_ble_eq_true rfl) ?_
  refine J.aload_n dX12_findFree_0 rfl rfl ?_
  refine J.getR (r := 134) fl_X12_162 rfl dX12_findFree_1 (lt83 hs) (kk83 hs) (rr83_68 hs) ?_
  refine J.iconst (v := 0) dX12_findFree_4 (by decide) ?_
  refine J.iconst (v := 0) dX12_findFree_5 (by decide) ?_
  refine J.iast dX12_findFree_6 (lt134 hs) (kk134 hs) (by unfold vp_in; decide) ?_
  refine J.aload_n dX12_findFree_7 rfl rfl ?_
  refine J.getR (r := 134) fl_X12_162 rfl dX12_findFree_8 (lt83 hs) (kk83 hs) (rr83_68 hs) ?_
  refine J.iconst (v := 1) dX12_findFree_11 (by decide) ?_
  refine J.iconst (v := 0) dX12_findFree_12 (by decide) ?_
  refine J.iast dX12_findFree_13 (lt134 hs) (kk134 hs) (by unfold vp_in; decide) ?_
  refine J.iconst (v := 0) dX12_findFree_14 (by decide) ?_
  refine J.istore_n (vs' := [some (.ref (eB E + 83)), some (.int 0), none]) dX12_findFree_15 rfl (by decide) rfl ?_
  exact hW
set_option maxRecDepth 100000 in
set_option maxHeartbeats 4000000 in
theorem w_X12_findFree_16 {E : Envt} {d : Nat} {Q : Pst} {h : mS} {I : mI} {L : mL} (hs : SL h)    (x1 : Int32)
    (hW : ((((I 95 0) ≤ x1) → J E mX12_findFree (d + 5) Q 0 0 101 [some (.ref (eB E + 83)), some (.int 0), none] [] h I L) ∧ (¬ ((I 95 0) ≤ x1) → (vp_in x1 80 ∧ (∀ y3 : Int32, y3 = I 97 x1.toNatClampNeg → (vp_in y3 2 ∧ (((8 ≤ (I 134 y3.toNatClampNeg)) → J E mX12_findFree (d + 5) Q 0 0 16 [some (.ref (eB E + 83)), some (.int (x1 + 1)), none] [] h I L) ∧ (¬ (8 ≤ (I 134 y3.toNatClampNeg)) → (CT E mX12_isFree (d + 4) 0 0 [.ref (eB E + 83), .int x1] h I L (qi h L fun r7 I6 => (((r7 = 0) → J E mX12_findFree (d + 5) Q 0 0 16 [some (.ref (eB E + 83)), some (.int (x1 + 1)), none] [] h I6 L) ∧ (¬ (r7 = 0) → (((y3 = 0) → (vp_in (I6 134 0) 8 ∧ J E mX12_findFree (d + 5) Q 0 0 16 [some (.ref (eB E + 83)), some (.int (x1 + 1)), none] [] h (uI (uI I6 135 ((I6 134 0).toNatClampNeg) x1) 134 y3.toNatClampNeg ((I6 134 y3.toNatClampNeg) + 1)) L)) ∧ (¬ (y3 = 0) → (vp_in (I6 134 1) 8 ∧ J E mX12_findFree (d + 5) Q 0 0 16 [some (.ref (eB E + 83)), some (.int (x1 + 1)), none] [] h (uI (uI I6 136 ((I6 134 1).toNatClampNeg) x1) 134 y3.toNatClampNeg ((I6 134 y3.toNatClampNeg) + 1)) L))))))))))))))) :
    J E mX12_findFree (d + 5) Q 0 0 16 [some (.ref (eB E + 83)), some (.int x1), none] [] h I L := by
  refine J.iload_n dX12_findFree_16 rfl rfl ?_
  refine J.aload_n dX12_findFree_17 rfl rfl ?_
  refine J.getR (r := 95) fl_X12_44 rfl dX12_findFree_18 (lt83 hs) (kk83 hs) (rr83_12 hs) ?_
  refine J.iconst (v := 0) dX12_findFree_21 (by decide) ?_
  refine J.iald (x := I 95 0) dX12_findFree_22 (lt95 hs) (kk95 hs) (by unfold vp_in; decide) rfl ?_
  refine J.ic_ge 99 dX12_findFree_23 (by decide) (fun hc1 => ?_) (fun hc1 => ?_)
  · have hW := hW.1 hc1
    refine J.iconst (v := 0) dX12_findFree_99 (by decide) ?_
    refine J.istore_n (vs' := [some (.ref (eB E + 83)), some (.int 0), none]) dX12_findFree_100 rfl (by decide) rfl ?_
    exact hW
  · have hW := hW.2 hc1
    refine J.aload_n dX12_findFree_26 rfl rfl ?_
    refine J.getR (r := 97) fl_X12_50 rfl dX12_findFree_27 (lt83 hs) (kk83 hs) (rr83_14 hs) ?_
    refine J.iload_n dX12_findFree_30 rfl rfl ?_
    obtain ⟨hb2, hW⟩ := hW
    refine J.iald (x := I 97 x1.toNatClampNeg) dX12_findFree_31 (lt97 hs) (kk97 hs) hb2 rfl ?_
    refine J.topi (fun y3 hyy3 => ?_)
    have hW := hW y3 hyy3
    refine J.istore_n (vs' := [some (.ref (eB E + 83)), some (.int x1), some (.int y3)]) dX12_findFree_32 rfl (by decide) rfl ?_
    refine J.aload_n dX12_findFree_33 rfl rfl ?_
    refine J.getR (r := 134) fl_X12_162 rfl dX12_findFree_34 (lt83 hs) (kk83 hs) (rr83_68 hs) ?_
    refine J.iload_n dX12_findFree_37 rfl rfl ?_
    obtain ⟨hb4, hW⟩ := hW
    refine J.iald (x := I 134 y3.toNatClampNeg) dX12_findFree_38 (lt134 hs) (kk134 hs) hb4 rfl ?_
    refine J.bipush (v := 8) dX12_findFree_39 (by decide) ?_
    refine J.ic_ge 93 dX12_findFree_41 (by decide) (fun hc5 => ?_) (fun hc5 => ?_)
    · have hW := hW.1 hc5
      refine J.iinc (v := x1 + 1) (vs' := [some (.ref (eB E + 83)), some (.int (x1 + 1)), some (.int y3)]) dX12_findFree_93 rfl (by rfl) (by decide) rfl ?_
      refine J.goto 16 dX12_findFree_96 (by decide) ?_
      exact J.mask [true, true, false] rfl hW
    · have hW := hW.2 hc5
      refine J.aload_n dX12_findFree_44 rfl rfl ?_
      refine J.iload_n dX12_findFree_45 rfl rfl ?_
      refine J.callV (M' := mX12_isFree) (index := 278) (bc := 0) (bs := 0) (bc' := 0) (bs' := 0) (st := []) [.int x1] ml_X12_278 cv_X12_isFree dX12_findFree_46 (lt83 hs) (kk83 hs) (by decide) rfl rfl rfl rfl (Nat.le_of_ble_eq_true rfl) (kqi hW (fun r7 I6 hW => ?_))
      refine J.if_eq 93 dX12_findFree_49 (by decide) (fun hc8 => ?_) (fun hc8 => ?_)
      · have hW := hW.1 hc8
        refine J.iinc (v := x1 + 1) (vs' := [some (.ref (eB E + 83)), some (.int (x1 + 1)), some (.int y3)]) dX12_findFree_93 rfl (by rfl) (by decide) rfl ?_
        refine J.goto 16 dX12_findFree_96 (by decide) ?_
        exact J.mask [true, true, false] rfl hW
      · have hW := hW.2 hc8
        refine J.iload_n dX12_findFree_52 rfl rfl ?_
        refine J.if_ne 71 dX12_findFree_53 (by decide) (fun hc9 => ?_) (fun hc9 => ?_)
        · have hW := hW.2 hc9
          refine J.aload_n dX12_findFree_71 rfl rfl ?_
          refine J.getR (r := 136) fl_X12_168 rfl dX12_findFree_72 (lt83 hs) (kk83 hs) (rr83_70 hs) ?_
          refine J.aload_n dX12_findFree_75 rfl rfl ?_
          refine J.getR (r := 134) fl_X12_162 rfl dX12_findFree_76 (lt83 hs) (kk83 hs) (rr83_68 hs) ?_
          refine J.iconst (v := 1) dX12_findFree_79 (by decide) ?_
          refine J.iald (x := I6 134 1) dX12_findFree_80 (lt134 hs) (kk134 hs) (by unfold vp_in; decide) rfl ?_
          refine J.iload_n dX12_findFree_81 rfl rfl ?_
          obtain ⟨hb10, hW⟩ := hW
          refine J.iast dX12_findFree_82 (lt136 hs) (kk136 hs) hb10 ?_
          refine J.aload_n dX12_findFree_83 rfl rfl ?_
          refine J.getR (r := 134) fl_X12_162 rfl dX12_findFree_84 (lt83 hs) (kk83 hs) (rr83_68 hs) ?_
          refine J.iload_n dX12_findFree_87 rfl rfl ?_
          refine J.dup2 dX12_findFree_88 rfl rfl ?_
          refine J.iald (x := I6 134 y3.toNatClampNeg) dX12_findFree_89 (lt134 hs) (kk134 hs) hb4 rfl ?_
          refine J.iconst (v := 1) dX12_findFree_90 (by decide) ?_
          refine J.iadd dX12_findFree_91 ?_
          refine J.iast dX12_findFree_92 (lt134 hs) (kk134 hs) hb4 ?_
          refine J.iinc (v := x1 + 1) (vs' := [some (.ref (eB E + 83)), some (.int (x1 + 1)), some (.int y3)]) dX12_findFree_93 rfl (by rfl) (by decide) rfl ?_
          refine J.goto 16 dX12_findFree_96 (by decide) ?_
          exact J.mask [true, true, false] rfl hW
        · have hW := hW.1 hc9
          refine J.aload_n dX12_findFree_56 rfl rfl ?_
          refine J.getR (r := 135) fl_X12_165 rfl dX12_findFree_57 (lt83 hs) (kk83 hs) (rr83_69 hs) ?_
          refine J.aload_n dX12_findFree_60 rfl rfl ?_
          refine J.getR (r := 134) fl_X12_162 rfl dX12_findFree_61 (lt83 hs) (kk83 hs) (rr83_68 hs) ?_
          refine J.iconst (v := 0) dX12_findFree_64 (by decide) ?_
          refine J.iald (x := I6 134 0) dX12_findFree_65 (lt134 hs) (kk134 hs) (by unfold vp_in; decide) rfl ?_
          refine J.iload_n dX12_findFree_66 rfl rfl ?_
          obtain ⟨hb11, hW⟩ := hW
          refine J.iast dX12_findFree_67 (lt135 hs) (kk135 hs) hb11 ?_
          refine J.goto 83 dX12_findFree_68 (by decide) ?_
          refine J.aload_n dX12_findFree_83 rfl rfl ?_
          refine J.getR (r := 134) fl_X12_162 rfl dX12_findFree_84 (lt83 hs) (kk83 hs) (rr83_68 hs) ?_
          refine J.iload_n dX12_findFree_87 rfl rfl ?_
          refine J.dup2 dX12_findFree_88 rfl rfl ?_
          refine J.iald (x := I6 134 y3.toNatClampNeg) dX12_findFree_89 (lt134 hs) (kk134 hs) hb4 rfl ?_
          refine J.iconst (v := 1) dX12_findFree_90 (by decide) ?_
          refine J.iadd dX12_findFree_91 ?_
          refine J.iast dX12_findFree_92 (lt134 hs) (kk134 hs) hb4 ?_
          refine J.iinc (v := x1 + 1) (vs' := [some (.ref (eB E + 83)), some (.int (x1 + 1)), some (.int y3)]) dX12_findFree_93 rfl (by rfl) (by decide) rfl ?_
          refine J.goto 16 dX12_findFree_96 (by decide) ?_
          exact J.mask [true, true, false] rfl hW
set_option maxRecDepth 100000 in
set_option maxHeartbeats 4000000 in
theorem w_X12_findFree_101 {E : Envt} {d : Nat} {Q : Pst} {h : mS} {I : mI} {L : mL} (hs : SL h)    (x1 : Int32)
    (hW : ((((I 134 0) ≤ x1) → Q none h I L) ∧ (¬ ((I 134 0) ≤ x1) → J E mX12_findFree (d + 5) Q 0 0 113 [some (.ref (eB E + 83)), some (.int x1), some (.int 0)] [] h I L))) :
    J E mX12_findFree (d + 5) Q 0 0 101 [some (.ref (eB E + 83)), some (.int x1), none] [] h I L := by
  refine J.iload_n dX12_findFree_101 rfl rfl ?_
  refine J.aload_n dX12_findFree_102 rfl rfl ?_
  refine J.getR (r := 134) fl_X12_162 rfl dX12_findFree_103 (lt83 hs) (kk83 hs) (rr83_68 hs) ?_
  refine J.iconst (v := 0) dX12_findFree_106 (by decide) ?_
  refine J.iald (x := I 134 0) dX12_findFree_107 (lt134 hs) (kk134 hs) (by unfold vp_in; decide) rfl ?_
  refine J.ic_ge 173 dX12_findFree_108 (by decide) (fun hc1 => ?_) (fun hc1 => ?_)
  · have hW := hW.1 hc1
    exact J.retv dX12_findFree_173 rfl hW
  · have hW := hW.2 hc1
    refine J.iconst (v := 0) dX12_findFree_111 (by decide) ?_
    refine J.istore_n (vs' := [some (.ref (eB E + 83)), some (.int x1), some (.int 0)]) dX12_findFree_112 rfl (by decide) rfl ?_
    exact hW
set_option maxRecDepth 100000 in
set_option maxHeartbeats 4000000 in
theorem w_X12_findFree_113 {E : Envt} {d : Nat} {Q : Pst} {h : mS} {I : mI} {L : mL} (hs : SL h)    (x1 : Int32) (x2 : Int32)
    (hW : ((((I 134 1) ≤ x2) → J E mX12_findFree (d + 5) Q 0 0 101 [some (.ref (eB E + 83)), some (.int (x1 + 1)), none] [] h I L) ∧ (¬ ((I 134 1) ≤ x2) → (vp_in x1 8 ∧ (vp_in x2 8 ∧ (CT E mX12_mayWed (d + 4) 0 0 [.ref (eB E + 83), .int (I 135 x1.toNatClampNeg), .int (I 136 x2.toNatClampNeg)] h I L (qi h L fun r5 I4 => (vp_in ((8 * x1) + x2) 64 ∧ J E mX12_findFree (d + 5) Q 0 0 113 [some (.ref (eB E + 83)), some (.int x1), some (.int (x2 + 1))] [] h (uI I4 137 (((8 * x1) + x2).toNatClampNeg) (if r5 = 0 then (-1) else I4 83 66 : Int32)) L)))))))) :
    J E mX12_findFree (d + 5) Q 0 0 113 [some (.ref (eB E + 83)), some (.int x1), some (.int x2)] [] h I L := by
  refine J.iload_n dX12_findFree_113 rfl rfl ?_
  refine J.aload_n dX12_findFree_114 rfl rfl ?_
  refine J.getR (r := 134) fl_X12_162 rfl dX12_findFree_115 (lt83 hs) (kk83 hs) (rr83_68 hs) ?_
  refine J.iconst (v := 1) dX12_findFree_118 (by decide) ?_
  refine J.iald (x := I 134 1) dX12_findFree_119 (lt134 hs) (kk134 hs) (by unfold vp_in; decide) rfl ?_
  refine J.ic_ge 167 dX12_findFree_120 (by decide) (fun hc1 => ?_) (fun hc1 => ?_)
  · have hW := hW.1 hc1
    refine J.iinc (v := x1 + 1) (vs' := [some (.ref (eB E + 83)), some (.int (x1 + 1)), some (.int x2)]) dX12_findFree_167 rfl (by rfl) (by decide) rfl ?_
    refine J.goto 101 dX12_findFree_170 (by decide) ?_
    exact J.mask [true, true, false] rfl hW
  · have hW := hW.2 hc1
    refine J.aload_n dX12_findFree_123 rfl rfl ?_
    refine J.getR (r := 137) fl_X12_171 rfl dX12_findFree_124 (lt83 hs) (kk83 hs) (rr83_71 hs) ?_
    refine J.bipush (v := 8) dX12_findFree_127 (by decide) ?_
    refine J.iload_n dX12_findFree_129 rfl rfl ?_
    refine J.imul dX12_findFree_130 ?_
    refine J.iload_n dX12_findFree_131 rfl rfl ?_
    refine J.iadd dX12_findFree_132 ?_
    refine J.aload_n dX12_findFree_133 rfl rfl ?_
    refine J.aload_n dX12_findFree_134 rfl rfl ?_
    refine J.getR (r := 135) fl_X12_165 rfl dX12_findFree_135 (lt83 hs) (kk83 hs) (rr83_69 hs) ?_
    refine J.iload_n dX12_findFree_138 rfl rfl ?_
    obtain ⟨hb2, hW⟩ := hW
    refine J.iald (x := I 135 x1.toNatClampNeg) dX12_findFree_139 (lt135 hs) (kk135 hs) hb2 rfl ?_
    refine J.aload_n dX12_findFree_140 rfl rfl ?_
    refine J.getR (r := 136) fl_X12_168 rfl dX12_findFree_141 (lt83 hs) (kk83 hs) (rr83_70 hs) ?_
    refine J.iload_n dX12_findFree_144 rfl rfl ?_
    obtain ⟨hb3, hW⟩ := hW
    refine J.iald (x := I 136 x2.toNatClampNeg) dX12_findFree_145 (lt136 hs) (kk136 hs) hb3 rfl ?_
    refine J.callV (M' := mX12_mayWed) (index := 426) (bc := 0) (bs := 0) (bc' := 0) (bs' := 0) (st := [.int ((8 * x1) + x2), .ref (eB E + 137)]) [.int (I 135 x1.toNatClampNeg), .int (I 136 x2.toNatClampNeg)] ml_X12_426 cv_X12_mayWed dX12_findFree_146 (lt83 hs) (kk83 hs) (by decide) rfl rfl rfl rfl (Nat.le_of_ble_eq_true rfl) (kqi hW (fun r5 I4 hW => ?_))
    have hj : J E mX12_findFree (d + 5) Q 0 0 160 [some (.ref (eB E + 83)), some (.int x1), some (.int x2)] [.int (if r5 = 0 then (-1) else I4 83 66 : Int32), .int ((8 * x1) + x2), .ref (eB E + 137)] h I4 L := by
      obtain ⟨hb7, hW⟩ := hW
      refine J.iast dX12_findFree_160 (lt137 hs) (kk137 hs) hb7 ?_
      refine J.iinc (v := x2 + 1) (vs' := [some (.ref (eB E + 83)), some (.int x1), some (.int (x2 + 1))]) dX12_findFree_161 rfl (by rfl) (by decide) rfl ?_
      refine J.goto 113 dX12_findFree_164 (by decide) ?_
      exact hW
    refine J.if_eq 159 dX12_findFree_149 (by decide) (fun hc6 => ?_) (fun hc6 => ?_)
    · refine J.iconst (v := (-1)) dX12_findFree_159 (by decide) ?_
      rw [show ((if r5 = 0 then (-1) else I4 83 66 : Int32) = (-1)) from by simp only [eq_true hc6, if_true, if_false, bI_true, bI_false, and_true, true_and, and_false, false_and, or_true, true_or, or_false, false_or, not_true_eq_false, not_false_eq_true]] at hj
      exact hj
    · refine J.aload_n dX12_findFree_152 rfl rfl ?_
      refine J.getI (x := I4 83 66) fl_X12_420 rfl dX12_findFree_153 (lt83 hs) (kk83 hs) rfl ?_
      refine J.goto 160 dX12_findFree_156 (by decide) ?_
      rw [show ((if r5 = 0 then (-1) else I4 83 66 : Int32) = I4 83 66) from by simp only [eq_false hc6, if_true, if_false, bI_true, bI_false, and_true, true_and, and_false, false_and, or_true, true_or, or_false, false_or, not_true_eq_false, not_false_eq_true]] at hj
      exact hj
set_option maxRecDepth 100000 in
set_option maxHeartbeats 4000000 in
theorem w_X12_brings {E : Envt} {d : Nat} {Q : Pst} {h : mS} {I : mI} {L : mL} (hs : SL h) (x1 : Int32) (x2 : Int32) (x3 : Int32) 
    (hW : (((((x2 >>> (x3 &&& 31)) &&& 1) = 0) → (vp_in ((8 * x1) + x3) 64 ∧ ((((I 137 (((8 * x1) + x3).toNatClampNeg)) = (-1)) → Q (some (.long (-1))) h I L) ∧ (¬ ((I 137 (((8 * x1) + x3).toNatClampNeg)) = (-1)) → (vp_in x1 8 ∧ (vp_in (I 135 x1.toNatClampNeg) 80 ∧ (vp_in x3 8 ∧ (vp_in (I 136 x3.toNatClampNeg) 80 ∧ ((vp_in (I 96 ((I 135 x1.toNatClampNeg).toNatClampNeg)) 32) ∧ (∀ y12 : Int64, y12 = (if ¬ ((((I 94 (I 96 ((I 135 x1.toNatClampNeg).toNatClampNeg)).toNatClampNeg) >>> ((I 96 ((I 136 x3.toNatClampNeg).toNatClampNeg)) &&& 31)) &&& 1) = 0) then 1000000000 else 0) → (vp_in ((256 * (x1 + 1)) + (x2 ||| ((1 : Int32) <<< (x3 &&& 31)))) 2304 ∧ Q (some (.long (((100000000000 + y12) - ((I 137 (((8 * x1) + x3).toNatClampNeg)).toInt64)) + (L 138 (((256 * (x1 + 1)) + (x2 ||| ((1 : Int32) <<< (x3 &&& 31)))).toNatClampNeg))))) h I L))))))))))) ∧ (¬ (((x2 >>> (x3 &&& 31)) &&& 1) = 0) → Q (some (.long (-1))) h I L))) :
    CT E mX12_brings (d + 1) 0 0 [.ref (eB E + 83), .int x1, .int x2, .int x3] h I L Q := by
  refine CT.of (by decide) [some (.ref (eB E + 83)), some (.int x1), some (.int x2), some (.int x3), none, none] rfl (Nat.le_of_ble_eq_true rfl) ?_
  refine J.iload_n dX12_brings_0 rfl rfl ?_
  refine J.iload_n dX12_brings_1 rfl rfl ?_
  refine J.ishr dX12_brings_2 ?_
  refine J.iconst (v := 1) dX12_brings_3 (by decide) ?_
  refine J.iand dX12_brings_4 ?_
  refine J.if_ne 23 dX12_brings_5 (by decide) (fun hc1 => ?_) (fun hc1 => ?_)
  · have hW := hW.2 hc1
    refine J.ldc2 (v := (-1)) dX12_brings_23 ck_X12_450 ?_
    exact J.ret (some (.long (-1))) ⟨dX12_brings_26, rfl⟩ hW
  · have hW := hW.1 hc1
    refine J.aload_n dX12_brings_8 rfl rfl ?_
    refine J.getR (r := 137) fl_X12_171 rfl dX12_brings_9 (lt83 hs) (kk83 hs) (rr83_71 hs) ?_
    refine J.bipush (v := 8) dX12_brings_12 (by decide) ?_
    refine J.iload_n dX12_brings_14 rfl rfl ?_
    refine J.imul dX12_brings_15 ?_
    refine J.iload_n dX12_brings_16 rfl rfl ?_
    refine J.iadd dX12_brings_17 ?_
    obtain ⟨hb2, hW⟩ := hW
    refine J.iald (x := I 137 (((8 * x1) + x3).toNatClampNeg)) dX12_brings_18 (lt137 hs) (kk137 hs) hb2 rfl ?_
    refine J.iconst (v := (-1)) dX12_brings_19 (by decide) ?_
    refine J.ic_ne 27 dX12_brings_20 (by decide) (fun hc3 => ?_) (fun hc3 => ?_)
    · have hW := hW.2 hc3
      refine J.aload_n dX12_brings_27 rfl rfl ?_
      refine J.aload_n dX12_brings_28 rfl rfl ?_
      refine J.getR (r := 96) fl_X12_47 rfl dX12_brings_29 (lt83 hs) (kk83 hs) (rr83_13 hs) ?_
      refine J.aload_n dX12_brings_32 rfl rfl ?_
      refine J.getR (r := 135) fl_X12_165 rfl dX12_brings_33 (lt83 hs) (kk83 hs) (rr83_69 hs) ?_
      refine J.iload_n dX12_brings_36 rfl rfl ?_
      obtain ⟨hb4, hW⟩ := hW
      refine J.iald (x := I 135 x1.toNatClampNeg) dX12_brings_37 (lt135 hs) (kk135 hs) hb4 rfl ?_
      obtain ⟨hb5, hW⟩ := hW
      refine J.iald (x := I 96 ((I 135 x1.toNatClampNeg).toNatClampNeg)) dX12_brings_38 (lt96 hs) (kk96 hs) hb5 rfl ?_
      refine J.aload_n dX12_brings_39 rfl rfl ?_
      refine J.getR (r := 96) fl_X12_47 rfl dX12_brings_40 (lt83 hs) (kk83 hs) (rr83_13 hs) ?_
      refine J.aload_n dX12_brings_43 rfl rfl ?_
      refine J.getR (r := 136) fl_X12_168 rfl dX12_brings_44 (lt83 hs) (kk83 hs) (rr83_70 hs) ?_
      refine J.iload_n dX12_brings_47 rfl rfl ?_
      obtain ⟨hb6, hW⟩ := hW
      refine J.iald (x := I 136 x3.toNatClampNeg) dX12_brings_48 (lt136 hs) (kk136 hs) hb6 rfl ?_
      obtain ⟨hb7, hW⟩ := hW
      refine J.iald (x := I 96 ((I 136 x3.toNatClampNeg).toNatClampNeg)) dX12_brings_49 (lt96 hs) (kk96 hs) hb7 rfl ?_
      obtain ⟨hb8, hW⟩ := hW
      refine J.callV (M' := mX12_areFeuding) (index := 233) (bc := 0) (bs := 0) (bc' := 0) (bs' := 0) (st := []) [.int (I 96 ((I 135 x1.toNatClampNeg).toNatClampNeg)), .int (I 96 ((I 136 x3.toNatClampNeg).toNatClampNeg))] ml_X12_233 cv_X12_areFeuding dX12_brings_50 (lt83 hs) (kk83 hs) (by decide) rfl rfl rfl rfl (Nat.le_of_ble_eq_true rfl) (kqi (w_X12_areFeuding (d := d) (Q := qi h L (fun v I' => I' = I ∧ v = bI (¬ ((((I 94 (I 96 ((I 135 x1.toNatClampNeg).toNatClampNeg)).toNatClampNeg) >>> ((I 96 ((I 136 x3.toNatClampNeg).toNatClampNeg)) &&& 31)) &&& 1) = 0)))) hs (I 96 ((I 135 x1.toNatClampNeg).toNatClampNeg)) (I 96 ((I 136 x3.toNatClampNeg).toNatClampNeg)) ⟨hb8, rfl, rfl, _, rfl, rfl, rfl⟩) (fun v9 I10 hv => ?_))
      rw [hv.1, hv.2]
      obtain ⟨y12, hyy12⟩ : ∃ y12 : Int64, y12 = (if ¬ ((((I 94 (I 96 ((I 135 x1.toNatClampNeg).toNatClampNeg)).toNatClampNeg) >>> ((I 96 ((I 136 x3.toNatClampNeg).toNatClampNeg)) &&& 31)) &&& 1) = 0) then 1000000000 else 0) := ⟨_, rfl⟩
      have hW := hW y12 hyy12
      have hj : J E mX12_brings (d + 1) Q 0 0 63 [some (.ref (eB E + 83)), some (.int x1), some (.int x2), some (.int x3), none, none] [.long y12] h I L := by
        refine J.lstore (vs' := [some (.ref (eB E + 83)), some (.int x1), some (.int x2), some (.int x3), some (.long y12), none]) dX12_brings_63 (by decide) rfl ?_
        refine J.ldc2 (v := 100000000000) dX12_brings_65 ck_X12_454 ?_
        refine J.lload dX12_brings_68 rfl ?_
        refine J.ladd dX12_brings_70 ?_
        refine J.aload_n dX12_brings_71 rfl rfl ?_
        refine J.getR (r := 137) fl_X12_171 rfl dX12_brings_72 (lt83 hs) (kk83 hs) (rr83_71 hs) ?_
        refine J.bipush (v := 8) dX12_brings_75 (by decide) ?_
        refine J.iload_n dX12_brings_77 rfl rfl ?_
        refine J.imul dX12_brings_78 ?_
        refine J.iload_n dX12_brings_79 rfl rfl ?_
        refine J.iadd dX12_brings_80 ?_
        refine J.iald (x := I 137 (((8 * x1) + x3).toNatClampNeg)) dX12_brings_81 (lt137 hs) (kk137 hs) hb2 rfl ?_
        refine J.i2l dX12_brings_82 ?_
        refine J.lsub dX12_brings_83 ?_
        refine J.aload_n dX12_brings_84 rfl rfl ?_
        refine J.getR (r := 138) fl_X12_174 rfl dX12_brings_85 (lt83 hs) (kk83 hs) (rr83_72 hs) ?_
        refine J.sipush (v := 256) dX12_brings_88 (by decide) ?_
        refine J.iload_n dX12_brings_91 rfl rfl ?_
        refine J.iconst (v := 1) dX12_brings_92 (by decide) ?_
        refine J.iadd dX12_brings_93 ?_
        refine J.imul dX12_brings_94 ?_
        refine J.iload_n dX12_brings_95 rfl rfl ?_
        refine J.iconst (v := 1) dX12_brings_96 (by decide) ?_
        refine J.iload_n dX12_brings_97 rfl rfl ?_
        refine J.ishl dX12_brings_98 ?_
        refine J.ior dX12_brings_99 ?_
        refine J.iadd dX12_brings_100 ?_
        obtain ⟨hb13, hW⟩ := hW
        refine J.lald (x := L 138 (((256 * (x1 + 1)) + (x2 ||| ((1 : Int32) <<< (x3 &&& 31)))).toNatClampNeg)) dX12_brings_101 (lt138 hs) (kk138 hs) hb13 rfl ?_
        refine J.ladd dX12_brings_102 ?_
        exact J.ret (some (.long (((100000000000 + y12) - ((I 137 (((8 * x1) + x3).toNatClampNeg)).toInt64)) + (L 138 (((256 * (x1 + 1)) + (x2 ||| ((1 : Int32) <<< (x3 &&& 31)))).toNatClampNeg))))) ⟨dX12_brings_103, rfl⟩ hW
      refine J.if_eq 62 dX12_brings_53 (by decide) (fun hc11 => ?_) (fun hc11 => ?_)
      · have hc11 := bI_0.mp hc11
        refine J.lconst (v := 0) dX12_brings_62 (by decide) ?_
        rw [show y12 = 0 from by simp only [hyy12, eq_false hc11, if_true, if_false, bI_true, bI_false, and_true, true_and, and_false, false_and, or_true, true_or, or_false, false_or, not_true_eq_false, not_false_eq_true]] at hj
        exact hj
      · have hc11 := bI_n0.mp hc11
        refine J.ldc2 (v := 1000000000) dX12_brings_56 ck_X12_452 ?_
        refine J.goto 63 dX12_brings_59 (by decide) ?_
        rw [show y12 = 1000000000 from by simp only [hyy12, eq_true hc11, if_true, if_false, bI_true, bI_false, and_true, true_and, and_false, false_and, or_true, true_or, or_false, false_or, not_true_eq_false, not_false_eq_true]] at hj
        exact hj
    · have hW := hW.1 hc3
      refine J.ldc2 (v := (-1)) dX12_brings_23 ck_X12_450 ?_
      exact J.ret (some (.long (-1))) ⟨dX12_brings_26, rfl⟩ hW
set_option maxRecDepth 100000 in
set_option maxHeartbeats 4000000 in
theorem w_X12_findBest {E : Envt} {d : Nat} {Q : Pst} {h : mS} {I : mI} {L : mL} (hs : SL h)  
    (hW : (CT E mX12_findFree (d + 5) 0 0 [.ref (eB E + 83)] h I L (qv h L fun I1 => (∀ y2 : Int32, y2 = (1 : Int32) <<< ((I1 134 1) &&& 31) → J E mX12_findBest (d + 6) Q 0 0 22 [some (.ref (eB E + 83)), some (.int (I1 134 0)), some (.int y2), some (.int 0), none, none, none, none, none, none] [] h I1 L)))) :
    CT E mX12_findBest (d + 6) 0 0 [.ref (eB E + 83)] h I L Q := by
  refine CT.of (by decide) [some (.ref (eB E + 83)), none, none, none, none, none, none, none, none, none] rfl (Nat.le_of_ble_eq_true rfl) ?_
  refine J.aload_n dX12_findBest_0 rfl rfl ?_
  refine J.callV (M' := mX12_findFree) (index := 456) (bc := 0) (bs := 0) (bc' := 0) (bs' := 0) (st := []) [] ml_X12_456 cv_X12_findFree dX12_findBest_1 (lt83 hs) (kk83 hs) (by decide) rfl rfl rfl rfl (Nat.le_of_ble_eq_true rfl) (kqv hW (fun I1 hW => ?_))
  refine J.aload_n dX12_findBest_4 rfl rfl ?_
  refine J.getR (r := 134) fl_X12_162 rfl dX12_findBest_5 (lt83 hs) (kk83 hs) (rr83_68 hs) ?_
  refine J.iconst (v := 0) dX12_findBest_8 (by decide) ?_
  refine J.iald (x := I1 134 0) dX12_findBest_9 (lt134 hs) (kk134 hs) (by unfold vp_in; decide) rfl ?_
  refine J.istore_n (vs' := [some (.ref (eB E + 83)), some (.int (I1 134 0)), none, none, none, none, none, none, none, none]) dX12_findBest_10 rfl (by decide) rfl ?_
  refine J.iconst (v := 1) dX12_findBest_11 (by decide) ?_
  refine J.aload_n dX12_findBest_12 rfl rfl ?_
  refine J.getR (r := 134) fl_X12_162 rfl dX12_findBest_13 (lt83 hs) (kk83 hs) (rr83_68 hs) ?_
  refine J.iconst (v := 1) dX12_findBest_16 (by decide) ?_
  refine J.iald (x := I1 134 1) dX12_findBest_17 (lt134 hs) (kk134 hs) (by unfold vp_in; decide) rfl ?_
  refine J.ishl dX12_findBest_18 ?_
  refine J.topi (fun y2 hyy2 => ?_)
  have hW := hW y2 hyy2
  refine J.istore_n (vs' := [some (.ref (eB E + 83)), some (.int (I1 134 0)), some (.int y2), none, none, none, none, none, none, none]) dX12_findBest_19 rfl (by decide) rfl ?_
  refine J.iconst (v := 0) dX12_findBest_20 (by decide) ?_
  refine J.istore_n (vs' := [some (.ref (eB E + 83)), some (.int (I1 134 0)), some (.int y2), some (.int 0), none, none, none, none, none, none]) dX12_findBest_21 rfl (by decide) rfl ?_
  exact hW
set_option maxRecDepth 100000 in
set_option maxHeartbeats 4000000 in
theorem w_X12_findBest_22 {E : Envt} {d : Nat} {Q : Pst} {h : mS} {I : mI} {L : mL} (hs : SL h)    (x1 : Int32) (x2 : Int32) (x3 : Int32)
    (hW : (((x2 ≤ x3) → J E mX12_findBest (d + 6) Q 0 0 50 [some (.ref (eB E + 83)), some (.int x1), some (.int x2), some (.int (x1 - 1)), none, none, none, none, none, none] [] h I L) ∧ (¬ (x2 ≤ x3) → (vp_in ((256 * x1) + x3) 2304 ∧ J E mX12_findBest (d + 6) Q 0 0 22 [some (.ref (eB E + 83)), some (.int x1), some (.int x2), some (.int (x3 + 1)), none, none, none, none, none, none] [] h I (uL L 138 (((256 * x1) + x3).toNatClampNeg) 0))))) :
    J E mX12_findBest (d + 6) Q 0 0 22 [some (.ref (eB E + 83)), some (.int x1), some (.int x2), some (.int x3), none, none, none, none, none, none] [] h I L := by
  refine J.iload_n dX12_findBest_22 rfl rfl ?_
  refine J.iload_n dX12_findBest_23 rfl rfl ?_
  refine J.ic_ge 46 dX12_findBest_24 (by decide) (fun hc1 => ?_) (fun hc1 => ?_)
  · have hW := hW.1 hc1
    refine J.iload_n dX12_findBest_46 rfl rfl ?_
    refine J.iconst (v := 1) dX12_findBest_47 (by decide) ?_
    refine J.isub dX12_findBest_48 ?_
    refine J.istore_n (vs' := [some (.ref (eB E + 83)), some (.int x1), some (.int x2), some (.int (x1 - 1)), none, none, none, none, none, none]) dX12_findBest_49 rfl (by decide) rfl ?_
    exact hW
  · have hW := hW.2 hc1
    refine J.aload_n dX12_findBest_27 rfl rfl ?_
    refine J.getR (r := 138) fl_X12_174 rfl dX12_findBest_28 (lt83 hs) (kk83 hs) (rr83_72 hs) ?_
    refine J.sipush (v := 256) dX12_findBest_31 (by decide) ?_
    refine J.iload_n dX12_findBest_34 rfl rfl ?_
    refine J.imul dX12_findBest_35 ?_
    refine J.iload_n dX12_findBest_36 rfl rfl ?_
    refine J.iadd dX12_findBest_37 ?_
    refine J.lconst (v := 0) dX12_findBest_38 (by decide) ?_
    obtain ⟨hb2, hW⟩ := hW
    refine J.last dX12_findBest_39 (lt138 hs) (kk138 hs) hb2 ?_
    refine J.iinc (v := x3 + 1) (vs' := [some (.ref (eB E + 83)), some (.int x1), some (.int x2), some (.int (x3 + 1)), none, none, none, none, none, none]) dX12_findBest_40 rfl (by rfl) (by decide) rfl ?_
    refine J.goto 22 dX12_findBest_43 (by decide) ?_
    exact hW
set_option maxRecDepth 100000 in
set_option maxHeartbeats 4000000 in
theorem w_X12_findBest_50 {E : Envt} {d : Nat} {Q : Pst} {h : mS} {I : mI} {L : mL} (hs : SL h)    (x1 : Int32) (x2 : Int32) (x3 : Int32)
    (hW : (((x3 < 0) → J E mX12_findBest (d + 6) Q 0 0 160 [some (.ref (eB E + 83)), some (.int x1), some (.int x2), some (.int 0), some (.int 0), none, none, none, none, none] [] h I L) ∧ (¬ (x3 < 0) → J E mX12_findBest (d + 6) Q 0 0 57 [some (.ref (eB E + 83)), some (.int x1), some (.int x2), some (.int x3), some (.int 0), none, none, none, none, none] [] h I L))) :
    J E mX12_findBest (d + 6) Q 0 0 50 [some (.ref (eB E + 83)), some (.int x1), some (.int x2), some (.int x3), none, none, none, none, none, none] [] h I L := by
  refine J.iload_n dX12_findBest_50 rfl rfl ?_
  refine J.if_lt 155 dX12_findBest_51 (by decide) (fun hc1 => ?_) (fun hc1 => ?_)
  · have hW := hW.1 hc1
    refine J.iconst (v := 0) dX12_findBest_155 (by decide) ?_
    refine J.istore_n (vs' := [some (.ref (eB E + 83)), some (.int x1), some (.int x2), some (.int 0), none, none, none, none, none, none]) dX12_findBest_156 rfl (by decide) rfl ?_
    refine J.iconst (v := 0) dX12_findBest_157 (by decide) ?_
    refine J.istore (vs' := [some (.ref (eB E + 83)), some (.int x1), some (.int x2), some (.int 0), some (.int 0), none, none, none, none, none]) dX12_findBest_158 (by decide) rfl ?_
    exact hW
  · have hW := hW.2 hc1
    refine J.iconst (v := 0) dX12_findBest_54 (by decide) ?_
    refine J.istore (vs' := [some (.ref (eB E + 83)), some (.int x1), some (.int x2), some (.int x3), some (.int 0), none, none, none, none, none]) dX12_findBest_55 (by decide) rfl ?_
    exact hW
set_option maxRecDepth 100000 in
set_option maxHeartbeats 4000000 in
theorem w_X12_findBest_57 {E : Envt} {d : Nat} {Q : Pst} {h : mS} {I : mI} {L : mL} (hs : SL h)    (x1 : Int32) (x2 : Int32) (x3 : Int32) (x4 : Int32)
    (hW : (((x2 ≤ x4) → J E mX12_findBest (d + 6) Q 0 0 50 [some (.ref (eB E + 83)), some (.int x1), some (.int x2), some (.int (x3 + (-1))), none, none, none, none, none, none] [] h I L) ∧ (¬ (x2 ≤ x4) → (vp_in ((256 * (x3 + 1)) + x4) 2304 ∧ (∀ y3 : Int64, y3 = L 138 (((256 * (x3 + 1)) + x4).toNatClampNeg) → J E mX12_findBest (d + 6) Q 0 0 83 [some (.ref (eB E + 83)), some (.int x1), some (.int x2), some (.int x3), some (.int x4), some (.long y3), none, some (.int 0), none, none] [] h I L))))) :
    J E mX12_findBest (d + 6) Q 0 0 57 [some (.ref (eB E + 83)), some (.int x1), some (.int x2), some (.int x3), some (.int x4), none, none, none, none, none] [] h I L := by
  refine J.iload dX12_findBest_57 rfl ?_
  refine J.iload_n dX12_findBest_59 rfl rfl ?_
  refine J.ic_ge 149 dX12_findBest_60 (by decide) (fun hc1 => ?_) (fun hc1 => ?_)
  · have hW := hW.1 hc1
    refine J.iinc (v := x3 + (-1)) (vs' := [some (.ref (eB E + 83)), some (.int x1), some (.int x2), some (.int (x3 + (-1))), some (.int x4), none, none, none, none, none]) dX12_findBest_149 rfl (by rfl) (by decide) rfl ?_
    refine J.goto 50 dX12_findBest_152 (by decide) ?_
    exact J.mask [true, true, true, true, false, false, false, false, false, false] rfl hW
  · have hW := hW.2 hc1
    refine J.aload_n dX12_findBest_63 rfl rfl ?_
    refine J.getR (r := 138) fl_X12_174 rfl dX12_findBest_64 (lt83 hs) (kk83 hs) (rr83_72 hs) ?_
    refine J.sipush (v := 256) dX12_findBest_67 (by decide) ?_
    refine J.iload_n dX12_findBest_70 rfl rfl ?_
    refine J.iconst (v := 1) dX12_findBest_71 (by decide) ?_
    refine J.iadd dX12_findBest_72 ?_
    refine J.imul dX12_findBest_73 ?_
    refine J.iload dX12_findBest_74 rfl ?_
    refine J.iadd dX12_findBest_76 ?_
    obtain ⟨hb2, hW⟩ := hW
    refine J.lald (x := L 138 (((256 * (x3 + 1)) + x4).toNatClampNeg)) dX12_findBest_77 (lt138 hs) (kk138 hs) hb2 rfl ?_
    refine J.topl (fun y3 hyy3 => ?_)
    have hW := hW y3 hyy3
    refine J.lstore (vs' := [some (.ref (eB E + 83)), some (.int x1), some (.int x2), some (.int x3), some (.int x4), some (.long y3), none, none, none, none]) dX12_findBest_78 (by decide) rfl ?_
    refine J.iconst (v := 0) dX12_findBest_80 (by decide) ?_
    refine J.istore (vs' := [some (.ref (eB E + 83)), some (.int x1), some (.int x2), some (.int x3), some (.int x4), some (.long y3), none, some (.int 0), none, none]) dX12_findBest_81 (by decide) rfl ?_
    exact hW
set_option maxRecDepth 100000 in
set_option maxHeartbeats 4000000 in
theorem w_X12_findBest_83 {E : Envt} {d : Nat} {Q : Pst} {h : mS} {I : mI} {L : mL} (hs : SL h)    (x1 : Int32) (x2 : Int32) (x3 : Int32) (x4 : Int32) (x5 : Int64) (x7 : Int32)
    (hW : ((((I 134 1) ≤ x7) → (vp_in ((256 * x3) + x4) 2304 ∧ J E mX12_findBest (d + 6) Q 0 0 57 [some (.ref (eB E + 83)), some (.int x1), some (.int x2), some (.int x3), some (.int (x4 + 1)), none, none, none, none, none] [] h I (uL L 138 (((256 * x3) + x4).toNatClampNeg) x5))) ∧ (¬ ((I 134 1) ≤ x7) → (CT E mX12_brings (d + 5) 0 0 [.ref (eB E + 83), .int x3, .int x4, .int x7] h I L (ql h L fun r4 I3 => (∀ y6 : Int64, y6 = (if (lg_cmp r4 x5) ≤ 0 then x5 else r4) → J E mX12_findBest (d + 6) Q 0 0 83 [some (.ref (eB E + 83)), some (.int x1), some (.int x2), some (.int x3), some (.int x4), some (.long y6), none, some (.int (x7 + 1)), none, none] [] h I3 L)))))) :
    J E mX12_findBest (d + 6) Q 0 0 83 [some (.ref (eB E + 83)), some (.int x1), some (.int x2), some (.int x3), some (.int x4), some (.long x5), none, some (.int x7), none, none] [] h I L := by
  refine J.iload dX12_findBest_83 rfl ?_
  refine J.aload_n dX12_findBest_85 rfl rfl ?_
  refine J.getR (r := 134) fl_X12_162 rfl dX12_findBest_86 (lt83 hs) (kk83 hs) (rr83_68 hs) ?_
  refine J.iconst (v := 1) dX12_findBest_89 (by decide) ?_
  refine J.iald (x := I 134 1) dX12_findBest_90 (lt134 hs) (kk134 hs) (by unfold vp_in; decide) rfl ?_
  refine J.ic_ge 128 dX12_findBest_91 (by decide) (fun hc1 => ?_) (fun hc1 => ?_)
  · have hW := hW.1 hc1
    refine J.aload_n dX12_findBest_128 rfl rfl ?_
    refine J.getR (r := 138) fl_X12_174 rfl dX12_findBest_129 (lt83 hs) (kk83 hs) (rr83_72 hs) ?_
    refine J.sipush (v := 256) dX12_findBest_132 (by decide) ?_
    refine J.iload_n dX12_findBest_135 rfl rfl ?_
    refine J.imul dX12_findBest_136 ?_
    refine J.iload dX12_findBest_137 rfl ?_
    refine J.iadd dX12_findBest_139 ?_
    refine J.lload dX12_findBest_140 rfl ?_
    obtain ⟨hb2, hW⟩ := hW
    refine J.last dX12_findBest_142 (lt138 hs) (kk138 hs) hb2 ?_
    refine J.iinc (v := x4 + 1) (vs' := [some (.ref (eB E + 83)), some (.int x1), some (.int x2), some (.int x3), some (.int (x4 + 1)), some (.long x5), none, some (.int x7), none, none]) dX12_findBest_143 rfl (by rfl) (by decide) rfl ?_
    refine J.goto 57 dX12_findBest_146 (by decide) ?_
    exact J.mask [true, true, true, true, true, false, false, false, false, false] rfl hW
  · have hW := hW.2 hc1
    refine J.aload_n dX12_findBest_94 rfl rfl ?_
    refine J.iload_n dX12_findBest_95 rfl rfl ?_
    refine J.iload dX12_findBest_96 rfl ?_
    refine J.iload dX12_findBest_98 rfl ?_
    refine J.callV (M' := mX12_brings) (index := 459) (bc := 0) (bs := 0) (bc' := 0) (bs' := 0) (st := []) [.int x3, .int x4, .int x7] ml_X12_459 cv_X12_brings dX12_findBest_100 (lt83 hs) (kk83 hs) (by decide) rfl rfl rfl rfl (Nat.le_of_ble_eq_true rfl) (kql hW (fun r4 I3 hW => ?_))
    refine J.lstore (vs' := [some (.ref (eB E + 83)), some (.int x1), some (.int x2), some (.int x3), some (.int x4), some (.long x5), none, some (.int x7), some (.long r4), none]) dX12_findBest_103 (by decide) rfl ?_
    refine J.lload dX12_findBest_105 rfl ?_
    refine J.lload dX12_findBest_107 rfl ?_
    refine J.lcmp dX12_findBest_109 ?_
    obtain ⟨y6, hyy6⟩ : ∃ y6 : Int64, y6 = (if (lg_cmp r4 x5) ≤ 0 then x5 else r4) := ⟨_, rfl⟩
    have hW := hW y6 hyy6
    have hj : J E mX12_findBest (d + 6) Q 0 0 120 [some (.ref (eB E + 83)), some (.int x1), some (.int x2), some (.int x3), some (.int x4), some (.long x5), none, some (.int x7), some (.long r4), none] [.long y6] h I3 L := by
      refine J.lstore (vs' := [some (.ref (eB E + 83)), some (.int x1), some (.int x2), some (.int x3), some (.int x4), some (.long y6), none, some (.int x7), some (.long r4), none]) dX12_findBest_120 (by decide) rfl ?_
      refine J.iinc (v := x7 + 1) (vs' := [some (.ref (eB E + 83)), some (.int x1), some (.int x2), some (.int x3), some (.int x4), some (.long y6), none, some (.int (x7 + 1)), some (.long r4), none]) dX12_findBest_122 rfl (by rfl) (by decide) rfl ?_
      refine J.goto 83 dX12_findBest_125 (by decide) ?_
      exact J.mask [true, true, true, true, true, true, false, true, false, false] rfl hW
    refine J.if_le 118 dX12_findBest_110 (by decide) (fun hc5 => ?_) (fun hc5 => ?_)
    · refine J.lload dX12_findBest_118 rfl ?_
      rw [show y6 = x5 from by simp only [hyy6, eq_true hc5, if_true, if_false, bI_true, bI_false, and_true, true_and, and_false, false_and, or_true, true_or, or_false, false_or, not_true_eq_false, not_false_eq_true]] at hj
      exact hj
    · refine J.lload dX12_findBest_113 rfl ?_
      refine J.goto 120 dX12_findBest_115 (by decide) ?_
      rw [show y6 = r4 from by simp only [hyy6, eq_false hc5, if_true, if_false, bI_true, bI_false, and_true, true_and, and_false, false_and, or_true, true_or, or_false, false_or, not_true_eq_false, not_false_eq_true]] at hj
      exact hj
set_option maxRecDepth 100000 in
set_option maxHeartbeats 4000000 in
theorem w_X12_findBest_160 {E : Envt} {d : Nat} {Q : Pst} {h : mS} {I : mI} {L : mL} (hs : SL h)    (x1 : Int32) (x2 : Int32) (x3 : Int32) (x4 : Int32)
    (hW : (((x1 ≤ x4) → Q none h I L) ∧ (¬ (x1 ≤ x4) → J E mX12_findBest (d + 6) Q 0 0 169 [some (.ref (eB E + 83)), some (.int x1), some (.int x2), some (.int x3), some (.int x4), some (.int 0), none, none, none, none] [] h I L))) :
    J E mX12_findBest (d + 6) Q 0 0 160 [some (.ref (eB E + 83)), some (.int x1), some (.int x2), some (.int x3), some (.int x4), none, none, none, none, none] [] h I L := by
  refine J.iload dX12_findBest_160 rfl ?_
  refine J.iload_n dX12_findBest_162 rfl rfl ?_
  refine J.ic_ge 264 dX12_findBest_163 (by decide) (fun hc1 => ?_) (fun hc1 => ?_)
  · have hW := hW.1 hc1
    exact J.retv dX12_findBest_264 rfl hW
  · have hW := hW.2 hc1
    refine J.iconst (v := 0) dX12_findBest_166 (by decide) ?_
    refine J.istore (vs' := [some (.ref (eB E + 83)), some (.int x1), some (.int x2), some (.int x3), some (.int x4), some (.int 0), none, none, none, none]) dX12_findBest_167 (by decide) rfl ?_
    exact hW
set_option maxRecDepth 100000 in
set_option maxHeartbeats 4000000 in
theorem w_X12_findBest_169 {E : Envt} {d : Nat} {Q : Pst} {h : mS} {I : mI} {L : mL} (hs : SL h)    (x1 : Int32) (x2 : Int32) (x3 : Int32) (x4 : Int32) (x5 : Int32)
    (hW : ((((I 134 1) ≤ x5) → J E mX12_findBest (d + 6) Q 0 0 212 [some (.ref (eB E + 83)), some (.int x1), some (.int x2), some (.int x3), some (.int x4), some (.int x5), none, none, none, none] [] h I L) ∧ (¬ ((I 134 1) ≤ x5) → (CT E mX12_brings (d + 5) 0 0 [.ref (eB E + 83), .int x4, .int x3, .int x5] h I L (ql h L fun r3 I2 => (vp_in ((256 * x4) + x3) 2304 ∧ ((((lg_cmp r3 (L 138 (((256 * x4) + x3).toNatClampNeg))) = 0) → J E mX12_findBest (d + 6) Q 0 0 212 [some (.ref (eB E + 83)), some (.int x1), some (.int x2), some (.int x3), some (.int x4), some (.int x5), none, none, none, none] [] h I2 L) ∧ (¬ ((lg_cmp r3 (L 138 (((256 * x4) + x3).toNatClampNeg))) = 0) → J E mX12_findBest (d + 6) Q 0 0 169 [some (.ref (eB E + 83)), some (.int x1), some (.int x2), some (.int x3), some (.int x4), some (.int (x5 + 1)), none, none, none, none] [] h I2 L)))))))) :
    J E mX12_findBest (d + 6) Q 0 0 169 [some (.ref (eB E + 83)), some (.int x1), some (.int x2), some (.int x3), some (.int x4), some (.int x5), none, none, none, none] [] h I L := by
  refine J.iload dX12_findBest_169 rfl ?_
  refine J.aload_n dX12_findBest_171 rfl rfl ?_
  refine J.getR (r := 134) fl_X12_162 rfl dX12_findBest_172 (lt83 hs) (kk83 hs) (rr83_68 hs) ?_
  refine J.iconst (v := 1) dX12_findBest_175 (by decide) ?_
  refine J.iald (x := I 134 1) dX12_findBest_176 (lt134 hs) (kk134 hs) (by unfold vp_in; decide) rfl ?_
  refine J.ic_ge 212 dX12_findBest_177 (by decide) (fun hc1 => ?_) (fun hc1 => ?_)
  · have hW := hW.1 hc1
    exact hW
  · have hW := hW.2 hc1
    refine J.aload_n dX12_findBest_180 rfl rfl ?_
    refine J.iload dX12_findBest_181 rfl ?_
    refine J.iload_n dX12_findBest_183 rfl rfl ?_
    refine J.iload dX12_findBest_184 rfl ?_
    refine J.callV (M' := mX12_brings) (index := 459) (bc := 0) (bs := 0) (bc' := 0) (bs' := 0) (st := []) [.int x4, .int x3, .int x5] ml_X12_459 cv_X12_brings dX12_findBest_186 (lt83 hs) (kk83 hs) (by decide) rfl rfl rfl rfl (Nat.le_of_ble_eq_true rfl) (kql hW (fun r3 I2 hW => ?_))
    refine J.aload_n dX12_findBest_189 rfl rfl ?_
    refine J.getR (r := 138) fl_X12_174 rfl dX12_findBest_190 (lt83 hs) (kk83 hs) (rr83_72 hs) ?_
    refine J.sipush (v := 256) dX12_findBest_193 (by decide) ?_
    refine J.iload dX12_findBest_196 rfl ?_
    refine J.imul dX12_findBest_198 ?_
    refine J.iload_n dX12_findBest_199 rfl rfl ?_
    refine J.iadd dX12_findBest_200 ?_
    obtain ⟨hb4, hW⟩ := hW
    refine J.lald (x := L 138 (((256 * x4) + x3).toNatClampNeg)) dX12_findBest_201 (lt138 hs) (kk138 hs) hb4 rfl ?_
    refine J.lcmp dX12_findBest_202 ?_
    refine J.if_eq 212 dX12_findBest_203 (by decide) (fun hc5 => ?_) (fun hc5 => ?_)
    · have hW := hW.1 hc5
      exact hW
    · have hW := hW.2 hc5
      refine J.iinc (v := x5 + 1) (vs' := [some (.ref (eB E + 83)), some (.int x1), some (.int x2), some (.int x3), some (.int x4), some (.int (x5 + 1)), none, none, none, none]) dX12_findBest_206 rfl (by rfl) (by decide) rfl ?_
      refine J.goto 169 dX12_findBest_209 (by decide) ?_
      exact hW
set_option maxRecDepth 100000 in
set_option maxHeartbeats 4000000 in
theorem w_X12_findBest_212 {E : Envt} {d : Nat} {Q : Pst} {h : mS} {I : mI} {L : mL} (hs : SL h)    (x1 : Int32) (x2 : Int32) (x3 : Int32) (x4 : Int32) (x5 : Int32)
    (hW : (vp_in x4 8 ∧ (∀ y4 : Int32, y4 = x3 ||| (if (I 134 1) ≤ x5 then 0 else (1 : Int32) <<< (x5 &&& 31) : Int32) → J E mX12_findBest (d + 6) Q 0 0 160 [some (.ref (eB E + 83)), some (.int x1), some (.int x2), some (.int y4), some (.int (x4 + 1)), none, none, none, none, none] [] h (uI I 139 x4.toNatClampNeg (if (I 134 1) ≤ x5 then (-1) else x5 : Int32)) L))) :
    J E mX12_findBest (d + 6) Q 0 0 212 [some (.ref (eB E + 83)), some (.int x1), some (.int x2), some (.int x3), some (.int x4), some (.int x5), none, none, none, none] [] h I L := by
  refine J.aload_n dX12_findBest_212 rfl rfl ?_
  refine J.getR (r := 139) fl_X12_178 rfl dX12_findBest_213 (lt83 hs) (kk83 hs) (rr83_73 hs) ?_
  refine J.iload dX12_findBest_216 rfl ?_
  refine J.iload dX12_findBest_218 rfl ?_
  refine J.aload_n dX12_findBest_220 rfl rfl ?_
  refine J.getR (r := 134) fl_X12_162 rfl dX12_findBest_221 (lt83 hs) (kk83 hs) (rr83_68 hs) ?_
  refine J.iconst (v := 1) dX12_findBest_224 (by decide) ?_
  refine J.iald (x := I 134 1) dX12_findBest_225 (lt134 hs) (kk134 hs) (by unfold vp_in; decide) rfl ?_
  have hj : J E mX12_findBest (d + 6) Q 0 0 235 [some (.ref (eB E + 83)), some (.int x1), some (.int x2), some (.int x3), some (.int x4), some (.int x5), none, none, none, none] [.int (if (I 134 1) ≤ x5 then (-1) else x5 : Int32), .int x4, .ref (eB E + 139)] h I L := by
    obtain ⟨hb2, hW⟩ := hW
    refine J.iast dX12_findBest_235 (lt139 hs) (kk139 hs) hb2 ?_
    refine J.iload_n dX12_findBest_236 rfl rfl ?_
    refine J.iload dX12_findBest_237 rfl ?_
    refine J.aload_n dX12_findBest_239 rfl rfl ?_
    refine J.getR (r := 134) fl_X12_162 rfl dX12_findBest_240 (lt83 hs) (kk83 hs) (rr83_68 hs) ?_
    refine J.iconst (v := 1) dX12_findBest_243 (by decide) ?_
    refine J.iald (x := I 134 1) dX12_findBest_244 (lt134 hs) (kk134 hs) (by unfold vp_in; decide) rfl ?_
    have hj : J E mX12_findBest (d + 6) Q 0 0 256 [some (.ref (eB E + 83)), some (.int x1), some (.int x2), some (.int x3), some (.int x4), some (.int x5), none, none, none, none] [.int (if (I 134 1) ≤ x5 then 0 else (1 : Int32) <<< (x5 &&& 31) : Int32), .int x3] h (uI I 139 x4.toNatClampNeg (if (I 134 1) ≤ x5 then (-1) else x5 : Int32)) L := by
      refine J.ior dX12_findBest_256 ?_
      refine J.topi (fun y4 hyy4 => ?_)
      have hW := hW y4 hyy4
      refine J.istore_n (vs' := [some (.ref (eB E + 83)), some (.int x1), some (.int x2), some (.int y4), some (.int x4), some (.int x5), none, none, none, none]) dX12_findBest_257 rfl (by decide) rfl ?_
      refine J.iinc (v := x4 + 1) (vs' := [some (.ref (eB E + 83)), some (.int x1), some (.int x2), some (.int y4), some (.int (x4 + 1)), some (.int x5), none, none, none, none]) dX12_findBest_258 rfl (by rfl) (by decide) rfl ?_
      refine J.goto 160 dX12_findBest_261 (by decide) ?_
      exact J.mask [true, true, true, true, true, false, false, false, false, false] rfl hW
    refine J.ic_ge 255 dX12_findBest_245 (by decide) (fun hc3 => ?_) (fun hc3 => ?_)
    · refine J.iconst (v := 0) dX12_findBest_255 (by decide) ?_
      rw [show ((if (I 134 1) ≤ x5 then 0 else (1 : Int32) <<< (x5 &&& 31) : Int32) = 0) from by simp only [eq_true hc3, if_true, if_false, bI_true, bI_false, and_true, true_and, and_false, false_and, or_true, true_or, or_false, false_or, not_true_eq_false, not_false_eq_true]] at hj
      exact hj
    · refine J.iconst (v := 1) dX12_findBest_248 (by decide) ?_
      refine J.iload dX12_findBest_249 rfl ?_
      refine J.ishl dX12_findBest_251 ?_
      refine J.goto 256 dX12_findBest_252 (by decide) ?_
      rw [show ((if (I 134 1) ≤ x5 then 0 else (1 : Int32) <<< (x5 &&& 31) : Int32) = (1 : Int32) <<< (x5 &&& 31)) from by simp only [eq_false hc3, if_true, if_false, bI_true, bI_false, and_true, true_and, and_false, false_and, or_true, true_or, or_false, false_or, not_true_eq_false, not_false_eq_true]] at hj
      exact hj
  refine J.ic_ge 234 dX12_findBest_226 (by decide) (fun hc1 => ?_) (fun hc1 => ?_)
  · refine J.iconst (v := (-1)) dX12_findBest_234 (by decide) ?_
    rw [show ((if (I 134 1) ≤ x5 then (-1) else x5 : Int32) = (-1)) from by simp only [eq_true hc1, if_true, if_false, bI_true, bI_false, and_true, true_and, and_false, false_and, or_true, true_or, or_false, false_or, not_true_eq_false, not_false_eq_true]] at hj
    exact hj
  · refine J.iload dX12_findBest_229 rfl ?_
    refine J.goto 235 dX12_findBest_231 (by decide) ?_
    rw [show ((if (I 134 1) ≤ x5 then (-1) else x5 : Int32) = x5) from by simp only [eq_false hc1, if_true, if_false, bI_true, bI_false, and_true, true_and, and_false, false_and, or_true, true_or, or_false, false_or, not_true_eq_false, not_false_eq_true]] at hj
    exact hj
set_option maxRecDepth 100000 in
set_option maxHeartbeats 4000000 in
theorem w_X12_best {E : Envt} {d : Nat} {Q : Pst} {h : mS} {I : mI} {L : mL} (hs : SL h) (x1 : Int32) 
    (hW : (((¬ (x1 < 0) ∧ (¬ (2 < x1))) → (CT E mX12_findBest (d + 6) 0 0 [.ref (eB E + 83)] h (uI I 83 0 0) L (qvL h fun I4 L5 => J E mX12_best (d + 7) Q 0 0 30 [some (.ref (eB E + 83)), some (.int x1), some (.int 0), some (.int 0), some (.int 0), some (.int 0)] [] h I4 L5))) ∧ (¬ (¬ (x1 < 0) ∧ (¬ (2 < x1))) → Q (some (.int (-1))) h (uI I 83 0 0) L))) :
    CT E mX12_best (d + 7) 0 0 [.ref (eB E + 83), .int x1] h I L Q := by
  refine CT.of (by decide) [some (.ref (eB E + 83)), some (.int x1), none, none, none, none] rfl (Nat.le_of_ble_eq_true rfl) ?_
  refine J.aload_n dX12_best_0 rfl rfl ?_
  refine J.iconst (v := 0) dX12_best_1 (by decide) ?_
  refine J.putI fw_X12_202 rfl dX12_best_2 (lt83 hs) (kk83 hs) ?_
  refine J.iload_n dX12_best_5 rfl rfl ?_
  refine J.iconst (v := 0) dX12_best_6 (by decide) ?_
  refine J.iconst (v := 2) dX12_best_7 (by decide) ?_
  refine J.callS (M' := mX12_in) (index := 218) (bc := 0) (bs := 0) (bc' := 0) (bs' := 0) (st := []) [.int x1, .int 0, .int 2] ml_X12_218 cv_X12_in dX12_best_8 rfl rfl (Nat.le_of_ble_eq_true rfl) (kqi (w_X12_in (d := d + 6) (Q := qi h L (fun v I' => I' = (uI I 83 0 0) ∧ v = bI (¬ (x1 < 0) ∧ (¬ (2 < x1))))) hs x1 0 2 ⟨rfl, rfl, _, rfl, rfl, rfl⟩) (fun v1 I2 hv => ?_))
  rw [hv.1, hv.2]
  refine J.if_ne 16 dX12_best_11 (by decide) (fun hc3 => ?_) (fun hc3 => ?_)
  · have hc3 := bI_n0.mp hc3
    have hW := hW.1 hc3
    refine J.aload_n dX12_best_16 rfl rfl ?_
    refine J.callV (M' := mX12_findBest) (index := 463) (bc := 0) (bs := 0) (bc' := 0) (bs' := 0) (st := []) [] ml_X12_463 cv_X12_findBest dX12_best_17 (lt83 hs) (kk83 hs) (by decide) rfl rfl rfl rfl (Nat.le_of_ble_eq_true rfl) (kqvL hW (fun I4 L5 hW => ?_))
    refine J.iconst (v := 0) dX12_best_20 (by decide) ?_
    refine J.istore_n (vs' := [some (.ref (eB E + 83)), some (.int x1), some (.int 0), none, none, none]) dX12_best_21 rfl (by decide) rfl ?_
    refine J.iconst (v := 0) dX12_best_22 (by decide) ?_
    refine J.istore_n (vs' := [some (.ref (eB E + 83)), some (.int x1), some (.int 0), some (.int 0), none, none]) dX12_best_23 rfl (by decide) rfl ?_
    refine J.iconst (v := 0) dX12_best_24 (by decide) ?_
    refine J.istore (vs' := [some (.ref (eB E + 83)), some (.int x1), some (.int 0), some (.int 0), some (.int 0), none]) dX12_best_25 (by decide) rfl ?_
    refine J.iconst (v := 0) dX12_best_27 (by decide) ?_
    refine J.istore (vs' := [some (.ref (eB E + 83)), some (.int x1), some (.int 0), some (.int 0), some (.int 0), some (.int 0)]) dX12_best_28 (by decide) rfl ?_
    exact hW
  · have hc3 := bI_0.mp hc3
    have hW := hW.2 hc3
    refine J.iconst (v := (-1)) dX12_best_14 (by decide) ?_
    exact J.reti dX12_best_15 rfl rfl hW
set_option maxRecDepth 100000 in
set_option maxHeartbeats 4000000 in
theorem w_X12_best_30 {E : Envt} {d : Nat} {Q : Pst} {h : mS} {I : mI} {L : mL} (hs : SL h)    (x1 : Int32) (x2 : Int32) (x3 : Int32) (x4 : Int32) (x5 : Int32)
    (hW : ((((I 134 0) ≤ x5) → Q (some (.int (if x1 = 0 then x2 else if x1 = 1 then x3 else x4 : Int32))) h I L) ∧ (¬ ((I 134 0) ≤ x5) → (vp_in x5 8 ∧ ((((I 139 x5.toNatClampNeg) = (-1)) → J E mX12_best (d + 7) Q 0 0 30 [some (.ref (eB E + 83)), some (.int x1), some (.int x2), some (.int x3), some (.int x4), some (.int (x5 + 1))] [] h I L) ∧ (¬ ((I 139 x5.toNatClampNeg) = (-1)) → (vp_in (I 135 x5.toNatClampNeg) 80 ∧ (vp_in (I 139 x5.toNatClampNeg) 8 ∧ (vp_in (I 136 ((I 139 x5.toNatClampNeg).toNatClampNeg)) 80 ∧ ((vp_in (I 96 ((I 135 x5.toNatClampNeg).toNatClampNeg)) 32) ∧ (∀ y13 : Int32, y13 = x3 + (bI (¬ ((((I 94 (I 96 ((I 135 x5.toNatClampNeg).toNatClampNeg)).toNatClampNeg) >>> ((I 96 ((I 136 ((I 139 x5.toNatClampNeg).toNatClampNeg)).toNatClampNeg)) &&& 31)) &&& 1) = 0))) → (vp_in ((8 * x5) + (I 139 x5.toNatClampNeg)) 64 ∧ (∀ y15 : Int32, y15 = x4 + (I 137 (((8 * x5) + (I 139 x5.toNatClampNeg)).toNatClampNeg)) → J E mX12_best (d + 7) Q 0 0 30 [some (.ref (eB E + 83)), some (.int x1), some (.int (x2 + 1)), some (.int y13), some (.int y15), some (.int (x5 + 1))] [] h I L))))))))))))) :
    J E mX12_best (d + 7) Q 0 0 30 [some (.ref (eB E + 83)), some (.int x1), some (.int x2), some (.int x3), some (.int x4), some (.int x5)] [] h I L := by
  refine J.iload dX12_best_30 rfl ?_
  refine J.aload_n dX12_best_32 rfl rfl ?_
  refine J.getR (r := 134) fl_X12_162 rfl dX12_best_33 (lt83 hs) (kk83 hs) (rr83_68 hs) ?_
  refine J.iconst (v := 0) dX12_best_36 (by decide) ?_
  refine J.iald (x := I 134 0) dX12_best_37 (lt134 hs) (kk134 hs) (by unfold vp_in; decide) rfl ?_
  refine J.ic_ge 128 dX12_best_38 (by decide) (fun hc1 => ?_) (fun hc1 => ?_)
  · have hW := hW.1 hc1
    refine J.iload_n dX12_best_128 rfl rfl ?_
    have hj : J E mX12_best (d + 7) Q 0 0 147 [some (.ref (eB E + 83)), some (.int x1), some (.int x2), some (.int x3), some (.int x4), some (.int x5)] [.int (if x1 = 0 then x2 else if x1 = 1 then x3 else x4 : Int32)] h I L := by
      exact J.reti dX12_best_147 rfl rfl hW
    refine J.if_ne 136 dX12_best_129 (by decide) (fun hc2 => ?_) (fun hc2 => ?_)
    · refine J.iload_n dX12_best_136 rfl rfl ?_
      refine J.iconst (v := 1) dX12_best_137 (by decide) ?_
      refine J.ic_ne 145 dX12_best_138 (by decide) (fun hc3 => ?_) (fun hc3 => ?_)
      · refine J.iload dX12_best_145 rfl ?_
        rw [show ((if x1 = 0 then x2 else if x1 = 1 then x3 else x4 : Int32) = x4) from by simp only [eq_false hc2, eq_false hc3, if_true, if_false, bI_true, bI_false, and_true, true_and, and_false, false_and, or_true, true_or, or_false, false_or, not_true_eq_false, not_false_eq_true]] at hj
        exact hj
      · refine J.iload_n dX12_best_141 rfl rfl ?_
        refine J.goto 147 dX12_best_142 (by decide) ?_
        rw [show ((if x1 = 0 then x2 else if x1 = 1 then x3 else x4 : Int32) = x3) from by simp only [eq_false hc2, eq_true hc3, if_true, if_false, bI_true, bI_false, and_true, true_and, and_false, false_and, or_true, true_or, or_false, false_or, not_true_eq_false, not_false_eq_true]] at hj
        exact hj
    · refine J.iload_n dX12_best_132 rfl rfl ?_
      refine J.goto 147 dX12_best_133 (by decide) ?_
      rw [show ((if x1 = 0 then x2 else if x1 = 1 then x3 else x4 : Int32) = x2) from by simp only [eq_true hc2, if_true, if_false, bI_true, bI_false, and_true, true_and, and_false, false_and, or_true, true_or, or_false, false_or, not_true_eq_false, not_false_eq_true]] at hj
      exact hj
  · have hW := hW.2 hc1
    refine J.aload_n dX12_best_41 rfl rfl ?_
    refine J.getR (r := 139) fl_X12_178 rfl dX12_best_42 (lt83 hs) (kk83 hs) (rr83_73 hs) ?_
    refine J.iload dX12_best_45 rfl ?_
    obtain ⟨hb4, hW⟩ := hW
    refine J.iald (x := I 139 x5.toNatClampNeg) dX12_best_47 (lt139 hs) (kk139 hs) hb4 rfl ?_
    refine J.iconst (v := (-1)) dX12_best_48 (by decide) ?_
    refine J.ic_eq 122 dX12_best_49 (by decide) (fun hc5 => ?_) (fun hc5 => ?_)
    · have hW := hW.1 hc5
      refine J.iinc (v := x5 + 1) (vs' := [some (.ref (eB E + 83)), some (.int x1), some (.int x2), some (.int x3), some (.int x4), some (.int (x5 + 1))]) dX12_best_122 rfl (by rfl) (by decide) rfl ?_
      refine J.goto 30 dX12_best_125 (by decide) ?_
      exact hW
    · have hW := hW.2 hc5
      refine J.iinc (v := x2 + 1) (vs' := [some (.ref (eB E + 83)), some (.int x1), some (.int (x2 + 1)), some (.int x3), some (.int x4), some (.int x5)]) dX12_best_52 rfl (by rfl) (by decide) rfl ?_
      refine J.iload_n dX12_best_55 rfl rfl ?_
      refine J.aload_n dX12_best_56 rfl rfl ?_
      refine J.aload_n dX12_best_57 rfl rfl ?_
      refine J.getR (r := 96) fl_X12_47 rfl dX12_best_58 (lt83 hs) (kk83 hs) (rr83_13 hs) ?_
      refine J.aload_n dX12_best_61 rfl rfl ?_
      refine J.getR (r := 135) fl_X12_165 rfl dX12_best_62 (lt83 hs) (kk83 hs) (rr83_69 hs) ?_
      refine J.iload dX12_best_65 rfl ?_
      refine J.iald (x := I 135 x5.toNatClampNeg) dX12_best_67 (lt135 hs) (kk135 hs) hb4 rfl ?_
      obtain ⟨hb6, hW⟩ := hW
      refine J.iald (x := I 96 ((I 135 x5.toNatClampNeg).toNatClampNeg)) dX12_best_68 (lt96 hs) (kk96 hs) hb6 rfl ?_
      refine J.aload_n dX12_best_69 rfl rfl ?_
      refine J.getR (r := 96) fl_X12_47 rfl dX12_best_70 (lt83 hs) (kk83 hs) (rr83_13 hs) ?_
      refine J.aload_n dX12_best_73 rfl rfl ?_
      refine J.getR (r := 136) fl_X12_168 rfl dX12_best_74 (lt83 hs) (kk83 hs) (rr83_70 hs) ?_
      refine J.aload_n dX12_best_77 rfl rfl ?_
      refine J.getR (r := 139) fl_X12_178 rfl dX12_best_78 (lt83 hs) (kk83 hs) (rr83_73 hs) ?_
      refine J.iload dX12_best_81 rfl ?_
      refine J.iald (x := I 139 x5.toNatClampNeg) dX12_best_83 (lt139 hs) (kk139 hs) hb4 rfl ?_
      obtain ⟨hb7, hW⟩ := hW
      refine J.iald (x := I 136 ((I 139 x5.toNatClampNeg).toNatClampNeg)) dX12_best_84 (lt136 hs) (kk136 hs) hb7 rfl ?_
      obtain ⟨hb8, hW⟩ := hW
      refine J.iald (x := I 96 ((I 136 ((I 139 x5.toNatClampNeg).toNatClampNeg)).toNatClampNeg)) dX12_best_85 (lt96 hs) (kk96 hs) hb8 rfl ?_
      obtain ⟨hb9, hW⟩ := hW
      refine J.callV (M' := mX12_areFeuding) (index := 233) (bc := 0) (bs := 0) (bc' := 0) (bs' := 0) (st := [.int x3]) [.int (I 96 ((I 135 x5.toNatClampNeg).toNatClampNeg)), .int (I 96 ((I 136 ((I 139 x5.toNatClampNeg).toNatClampNeg)).toNatClampNeg))] ml_X12_233 cv_X12_areFeuding dX12_best_86 (lt83 hs) (kk83 hs) (by decide) rfl rfl rfl rfl (Nat.le_of_ble_eq_true rfl) (kqi (w_X12_areFeuding (d := d + 6) (Q := qi h L (fun v I' => I' = I ∧ v = bI (¬ ((((I 94 (I 96 ((I 135 x5.toNatClampNeg).toNatClampNeg)).toNatClampNeg) >>> ((I 96 ((I 136 ((I 139 x5.toNatClampNeg).toNatClampNeg)).toNatClampNeg)) &&& 31)) &&& 1) = 0)))) hs (I 96 ((I 135 x5.toNatClampNeg).toNatClampNeg)) (I 96 ((I 136 ((I 139 x5.toNatClampNeg).toNatClampNeg)).toNatClampNeg)) ⟨hb9, rfl, rfl, _, rfl, rfl, rfl⟩) (fun v10 I11 hv => ?_))
      rw [hv.1, hv.2]
      have hj : J E mX12_best (d + 7) Q 0 0 97 [some (.ref (eB E + 83)), some (.int x1), some (.int (x2 + 1)), some (.int x3), some (.int x4), some (.int x5)] [.int (bI (¬ ((((I 94 (I 96 ((I 135 x5.toNatClampNeg).toNatClampNeg)).toNatClampNeg) >>> ((I 96 ((I 136 ((I 139 x5.toNatClampNeg).toNatClampNeg)).toNatClampNeg)) &&& 31)) &&& 1) = 0))), .int x3] h I L := by
        refine J.iadd dX12_best_97 ?_
        refine J.topi (fun y13 hyy13 => ?_)
        have hW := hW y13 hyy13
        refine J.istore_n (vs' := [some (.ref (eB E + 83)), some (.int x1), some (.int (x2 + 1)), some (.int y13), some (.int x4), some (.int x5)]) dX12_best_98 rfl (by decide) rfl ?_
        refine J.iload dX12_best_99 rfl ?_
        refine J.aload_n dX12_best_101 rfl rfl ?_
        refine J.getR (r := 137) fl_X12_171 rfl dX12_best_102 (lt83 hs) (kk83 hs) (rr83_71 hs) ?_
        refine J.bipush (v := 8) dX12_best_105 (by decide) ?_
        refine J.iload dX12_best_107 rfl ?_
        refine J.imul dX12_best_109 ?_
        refine J.aload_n dX12_best_110 rfl rfl ?_
        refine J.getR (r := 139) fl_X12_178 rfl dX12_best_111 (lt83 hs) (kk83 hs) (rr83_73 hs) ?_
        refine J.iload dX12_best_114 rfl ?_
        refine J.iald (x := I 139 x5.toNatClampNeg) dX12_best_116 (lt139 hs) (kk139 hs) hb4 rfl ?_
        refine J.iadd dX12_best_117 ?_
        obtain ⟨hb14, hW⟩ := hW
        refine J.iald (x := I 137 (((8 * x5) + (I 139 x5.toNatClampNeg)).toNatClampNeg)) dX12_best_118 (lt137 hs) (kk137 hs) hb14 rfl ?_
        refine J.iadd dX12_best_119 ?_
        refine J.topi (fun y15 hyy15 => ?_)
        have hW := hW y15 hyy15
        refine J.istore (vs' := [some (.ref (eB E + 83)), some (.int x1), some (.int (x2 + 1)), some (.int y13), some (.int y15), some (.int x5)]) dX12_best_120 (by decide) rfl ?_
        refine J.iinc (v := x5 + 1) (vs' := [some (.ref (eB E + 83)), some (.int x1), some (.int (x2 + 1)), some (.int y13), some (.int y15), some (.int (x5 + 1))]) dX12_best_122 rfl (by rfl) (by decide) rfl ?_
        refine J.goto 30 dX12_best_125 (by decide) ?_
        exact hW
      refine J.if_eq 96 dX12_best_89 (by decide) (fun hc12 => ?_) (fun hc12 => ?_)
      · have hc12 := bI_0.mp hc12
        refine J.iconst (v := 0) dX12_best_96 (by decide) ?_
        rw [show bI (¬ ((((I 94 (I 96 ((I 135 x5.toNatClampNeg).toNatClampNeg)).toNatClampNeg) >>> ((I 96 ((I 136 ((I 139 x5.toNatClampNeg).toNatClampNeg)).toNatClampNeg)) &&& 31)) &&& 1) = 0)) = 0 from bI_f (by simp only [eq_false hc12, and_true, true_and, and_false, false_and, or_true, true_or, or_false, false_or, not_true_eq_false, not_false_eq_true])] at hj
        exact hj
      · have hc12 := bI_n0.mp hc12
        refine J.iconst (v := 1) dX12_best_92 (by decide) ?_
        refine J.goto 97 dX12_best_93 (by decide) ?_
        rw [show bI (¬ ((((I 94 (I 96 ((I 135 x5.toNatClampNeg).toNatClampNeg)).toNatClampNeg) >>> ((I 96 ((I 136 ((I 139 x5.toNatClampNeg).toNatClampNeg)).toNatClampNeg)) &&& 31)) &&& 1) = 0)) = 1 from bI_t (by simp only [eq_true hc12, and_true, true_and, and_false, false_and, or_true, true_or, or_false, false_or, not_true_eq_false, not_false_eq_true])] at hj
        exact hj
