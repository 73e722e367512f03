set_option maxRecDepth 100000 in
set_option maxHeartbeats 4000000 in
theorem w_X12_ringOf {E : Envt} {d : Nat} {Q : Pst} {h : mS} {I : mI} {L : mL} (hs : SL h) (x1 : Int32) 
    (hW : J E mX12_ringOf d Q 0 0 4 [some (.ref (eB E + 83)), some (.int x1), some (.int 0), some (.int 0), none, none] [] h I L) :
    CT E mX12_ringOf d 0 0 [.ref (eB E + 83), .int x1] h I L Q := by
  refine CT.of (by decide) [some (.ref (eB E + 83)), some (.int x1), none, none, none, none] rfl (Nat.le_of_ble_eq_true rfl) ?_
  refine J.iconst (v := 0) dX12_ringOf_0 (by decide) ?_
  refine J.istore_n (vs' := [some (.ref (eB E + 83)), some (.int x1), some (.int 0), none, none, none]) dX12_ringOf_1 rfl (by decide) rfl ?_
  refine J.iconst (v := 0) dX12_ringOf_2 (by decide) ?_
  refine J.istore_n (vs' := [some (.ref (eB E + 83)), some (.int x1), some (.int 0), some (.int 0), none, none]) dX12_ringOf_3 rfl (by decide) rfl ?_
  exact hW
set_option maxRecDepth 100000 in
set_option maxHeartbeats 4000000 in
theorem w_X12_ringOf_4 {E : Envt} {d : Nat} {Q : Pst} {h : mS} {I : mI} {L : mL} (hs : SL h)    (x1 : Int32) (x2 : Int32) (x3 : Int32)
    (hW : (((x1 ≤ x3) → Q (some (.int x2)) h I L) ∧ (¬ (x1 ≤ x3) → (vp_in x3 4 ∧ ((¬ x1 = 0) ∧ (vp_in ((x3 + 1) - (x3 + 1) / x1 * x1) 4 ∧ (∀ y4 : Int32, y4 = (8 * (I 145 x3.toNatClampNeg)) + (I 145 (((x3 + 1) - (x3 + 1) / x1 * x1).toNatClampNeg)) → J E mX12_ringOf d Q 0 0 34 [some (.ref (eB E + 83)), some (.int x1), some (.int x2), some (.int x3), some (.int y4), some (.int 0)] [] h I L))))))) :
    J E mX12_ringOf d Q 0 0 4 [some (.ref (eB E + 83)), some (.int x1), some (.int x2), some (.int x3), none, none] [] h I L := by
  refine J.iload_n dX12_ringOf_4 rfl rfl ?_
  refine J.iload_n dX12_ringOf_5 rfl rfl ?_
  refine J.ic_ge 108 dX12_ringOf_6 (by decide) (fun hc1 => ?_) (fun hc1 => ?_)
  · have hW := hW.1 hc1
    refine J.iload_n dX12_ringOf_108 rfl rfl ?_
    exact J.reti dX12_ringOf_109 rfl rfl hW
  · have hW := hW.2 hc1
    refine J.bipush (v := 8) dX12_ringOf_9 (by decide) ?_
    refine J.aload_n dX12_ringOf_11 rfl rfl ?_
    refine J.getR (r := 145) fl_X12_196 rfl dX12_ringOf_12 (lt83 hs) (kk83 hs) (rr83_81 hs) ?_
    refine J.iload_n dX12_ringOf_15 rfl rfl ?_
    obtain ⟨hb2, hW⟩ := hW
    refine J.iald (x := I 145 x3.toNatClampNeg) dX12_ringOf_16 (lt145 hs) (kk145 hs) hb2 rfl ?_
    refine J.imul dX12_ringOf_17 ?_
    refine J.aload_n dX12_ringOf_18 rfl rfl ?_
    refine J.getR (r := 145) fl_X12_196 rfl dX12_ringOf_19 (lt83 hs) (kk83 hs) (rr83_81 hs) ?_
    refine J.iload_n dX12_ringOf_22 rfl rfl ?_
    refine J.iconst (v := 1) dX12_ringOf_23 (by decide) ?_
    refine J.iadd dX12_ringOf_24 ?_
    refine J.iload_n dX12_ringOf_25 rfl rfl ?_
    obtain ⟨hdz, hW⟩ := hW
    refine J.irem dX12_ringOf_26 hdz ?_
    obtain ⟨hb3, hW⟩ := hW
    refine J.iald (x := I 145 (((x3 + 1) - (x3 + 1) / x1 * x1).toNatClampNeg)) dX12_ringOf_27 (lt145 hs) (kk145 hs) hb3 rfl ?_
    refine J.iadd dX12_ringOf_28 ?_
    refine J.topi (fun y4 hyy4 => ?_)
    have hW := hW y4 hyy4
    refine J.istore (vs' := [some (.ref (eB E + 83)), some (.int x1), some (.int x2), some (.int x3), some (.int y4), none]) dX12_ringOf_29 (by decide) rfl ?_
    refine J.iconst (v := 0) dX12_ringOf_31 (by decide) ?_
    refine J.istore (vs' := [some (.ref (eB E + 83)), some (.int x1), some (.int x2), some (.int x3), some (.int y4), some (.int 0)]) dX12_ringOf_32 (by decide) rfl ?_
    exact hW
set_option maxRecDepth 100000 in
set_option maxHeartbeats 4000000 in
theorem w_X12_ringOf_34 {E : Envt} {d : Nat} {Q : Pst} {h : mS} {I : mI} {L : mL} (hs : SL h)    (x1 : Int32) (x2 : Int32) (x3 : Int32) (x4 : Int32) (x5 : Int32)
    (hW : (((x3 ≤ x5) → (vp_in x3 4 ∧ ((((I 145 x3.toNatClampNeg) < (I 145 0)) → Q (some (.int (-1))) h I L) ∧ (¬ ((I 145 x3.toNatClampNeg) < (I 145 0)) → (vp_in x4 64 ∧ ((((I 143 x4.toNatClampNeg) = (-1)) → Q (some (.int (-1))) h I L) ∧ (¬ ((I 143 x4.toNatClampNeg) = (-1)) → (∀ y6 : Int32, y6 = x2 + (I 143 x4.toNatClampNeg) → J E mX12_ringOf d Q 0 0 4 [some (.ref (eB E + 83)), some (.int x1), some (.int y6), some (.int (x3 + 1)), none, none] [] h I L)))))))) ∧ (¬ (x3 ≤ x5) → (vp_in x5 4 ∧ (vp_in x3 4 ∧ ((((I 145 x5.toNatClampNeg) = (I 145 x3.toNatClampNeg)) → Q (some (.int (-1))) h I L) ∧ (¬ ((I 145 x5.toNatClampNeg) = (I 145 x3.toNatClampNeg)) → J E mX12_ringOf d Q 0 0 34 [some (.ref (eB E + 83)), some (.int x1), some (.int x2), some (.int x3), some (.int x4), some (.int (x5 + 1))] [] h I L))))))) :
    J E mX12_ringOf d Q 0 0 34 [some (.ref (eB E + 83)), some (.int x1), some (.int x2), some (.int x3), some (.int x4), some (.int x5)] [] h I L := by
  refine J.iload dX12_ringOf_34 rfl ?_
  refine J.iload_n dX12_ringOf_36 rfl rfl ?_
  refine J.ic_ge 64 dX12_ringOf_37 (by decide) (fun hc1 => ?_) (fun hc1 => ?_)
  · have hW := hW.1 hc1
    refine J.aload_n dX12_ringOf_64 rfl rfl ?_
    refine J.getR (r := 145) fl_X12_196 rfl dX12_ringOf_65 (lt83 hs) (kk83 hs) (rr83_81 hs) ?_
    refine J.iload_n dX12_ringOf_68 rfl rfl ?_
    obtain ⟨hb2, hW⟩ := hW
    refine J.iald (x := I 145 x3.toNatClampNeg) dX12_ringOf_69 (lt145 hs) (kk145 hs) hb2 rfl ?_
    refine J.aload_n dX12_ringOf_70 rfl rfl ?_
    refine J.getR (r := 145) fl_X12_196 rfl dX12_ringOf_71 (lt83 hs) (kk83 hs) (rr83_81 hs) ?_
    refine J.iconst (v := 0) dX12_ringOf_74 (by decide) ?_
    refine J.iald (x := I 145 0) dX12_ringOf_75 (lt145 hs) (kk145 hs) (by unfold vp_in; decide) rfl ?_
    refine J.ic_lt 90 dX12_ringOf_76 (by decide) (fun hc3 => ?_) (fun hc3 => ?_)
    · have hW := hW.1 hc3
      refine J.iconst (v := (-1)) dX12_ringOf_90 (by decide) ?_
      exact J.reti dX12_ringOf_91 rfl rfl hW
    · have hW := hW.2 hc3
      refine J.aload_n dX12_ringOf_79 rfl rfl ?_
      refine J.getR (r := 143) fl_X12_190 rfl dX12_ringOf_80 (lt83 hs) (kk83 hs) (rr83_77 hs) ?_
      refine J.iload dX12_ringOf_83 rfl ?_
      obtain ⟨hb4, hW⟩ := hW
      refine J.iald (x := I 143 x4.toNatClampNeg) dX12_ringOf_85 (lt143 hs) (kk143 hs) hb4 rfl ?_
      refine J.iconst (v := (-1)) dX12_ringOf_86 (by decide) ?_
      refine J.ic_ne 92 dX12_ringOf_87 (by decide) (fun hc5 => ?_) (fun hc5 => ?_)
      · have hW := hW.2 hc5
        refine J.iload_n dX12_ringOf_92 rfl rfl ?_
        refine J.aload_n dX12_ringOf_93 rfl rfl ?_
        refine J.getR (r := 143) fl_X12_190 rfl dX12_ringOf_94 (lt83 hs) (kk83 hs) (rr83_77 hs) ?_
        refine J.iload dX12_ringOf_97 rfl ?_
        refine J.iald (x := I 143 x4.toNatClampNeg) dX12_ringOf_99 (lt143 hs) (kk143 hs) hb4 rfl ?_
        refine J.iadd dX12_ringOf_100 ?_
        refine J.topi (fun y6 hyy6 => ?_)
        have hW := hW y6 hyy6
        refine J.istore_n (vs' := [some (.ref (eB E + 83)), some (.int x1), some (.int y6), some (.int x3), some (.int x4), some (.int x5)]) dX12_ringOf_101 rfl (by decide) rfl ?_
        refine J.iinc (v := x3 + 1) (vs' := [some (.ref (eB E + 83)), some (.int x1), some (.int y6), some (.int (x3 + 1)), some (.int x4), some (.int x5)]) dX12_ringOf_102 rfl (by rfl) (by decide) rfl ?_
        refine J.goto 4 dX12_ringOf_105 (by decide) ?_
        exact J.mask [true, true, true, true, false, false] rfl hW
      · have hW := hW.1 hc5
        refine J.iconst (v := (-1)) dX12_ringOf_90 (by decide) ?_
        exact J.reti dX12_ringOf_91 rfl rfl hW
  · have hW := hW.2 hc1
    refine J.aload_n dX12_ringOf_40 rfl rfl ?_
    refine J.getR (r := 145) fl_X12_196 rfl dX12_ringOf_41 (lt83 hs) (kk83 hs) (rr83_81 hs) ?_
    refine J.iload dX12_ringOf_44 rfl ?_
    obtain ⟨hb7, hW⟩ := hW
    refine J.iald (x := I 145 x5.toNatClampNeg) dX12_ringOf_46 (lt145 hs) (kk145 hs) hb7 rfl ?_
    refine J.aload_n dX12_ringOf_47 rfl rfl ?_
    refine J.getR (r := 145) fl_X12_196 rfl dX12_ringOf_48 (lt83 hs) (kk83 hs) (rr83_81 hs) ?_
    refine J.iload_n dX12_ringOf_51 rfl rfl ?_
    obtain ⟨hb8, hW⟩ := hW
    refine J.iald (x := I 145 x3.toNatClampNeg) dX12_ringOf_52 (lt145 hs) (kk145 hs) hb8 rfl ?_
    refine J.ic_ne 58 dX12_ringOf_53 (by decide) (fun hc9 => ?_) (fun hc9 => ?_)
    · have hW := hW.2 hc9
      refine J.iinc (v := x5 + 1) (vs' := [some (.ref (eB E + 83)), some (.int x1), some (.int x2), some (.int x3), some (.int x4), some (.int (x5 + 1))]) dX12_ringOf_58 rfl (by rfl) (by decide) rfl ?_
      refine J.goto 34 dX12_ringOf_61 (by decide) ?_
      exact hW
    · have hW := hW.1 hc9
      refine J.iconst (v := (-1)) dX12_ringOf_56 (by decide) ?_
      exact J.reti dX12_ringOf_57 rfl rfl hW
set_option maxRecDepth 100000 in
set_option maxHeartbeats 4000000 in
theorem w_X12_findRing {E : Envt} {d : Nat} {Q : Pst} {h : mS} {I : mI} {L : mL} (hs : SL h)  
    (hW : (CT E mX12_findCouples (d + 6) 0 0 [.ref (eB E + 83)] h I L (qv h L fun I1 => J E mX12_findRing (d + 7) Q 0 0 16 [some (.ref (eB E + 83)), some (.int 2), none, none, none, none] [] h (uI (uI I1 83 78 0) 83 79 (-1)) L))) :
    CT E mX12_findRing (d + 7) 0 0 [.ref (eB E + 83)] h I L Q := by
  refine CT.of (by decide) [some (.ref (eB E + 83)), none, none, none, none, none] rfl (Nat.le_of_ble_eq_true rfl) ?_
  refine J.aload_n dX12_findRing_0 rfl rfl ?_
  refine J.callV (M' := mX12_findCouples) (index := 478) (bc := 0) (bs := 0) (bc' := 0) (bs' := 0) (st := []) [] ml_X12_478 cv_X12_findCouples dX12_findRing_1 (lt83 hs) (kk83 hs) (by decide) rfl rfl rfl rfl (Nat.le_of_ble_eq_true rfl) (kqv hW (fun I1 hW => ?_))
  refine J.aload_n dX12_findRing_4 rfl rfl ?_
  refine J.iconst (v := 0) dX12_findRing_5 (by decide) ?_
  refine J.putI fw_X12_481 rfl dX12_findRing_6 (lt83 hs) (kk83 hs) ?_
  refine J.aload_n dX12_findRing_9 rfl rfl ?_
  refine J.iconst (v := (-1)) dX12_findRing_10 (by decide) ?_
  refine J.putI fw_X12_484 rfl dX12_findRing_11 (lt83 hs) (kk83 hs) ?_
  refine J.iconst (v := 2) dX12_findRing_14 (by decide) ?_
  refine J.istore_n (vs' := [some (.ref (eB E + 83)), some (.int 2), none, none, none, none]) dX12_findRing_15 rfl (by decide) rfl ?_
  exact hW
set_option maxRecDepth 100000 in
set_option maxHeartbeats 4000000 in
theorem w_X12_findRing_16 {E : Envt} {d : Nat} {Q : Pst} {h : mS} {I : mI} {L : mL} (hs : SL h)    (x1 : Int32)
    (hW : (((4 < x1) → Q none h I L) ∧ (¬ (4 < x1) → J E mX12_findRing (d + 7) Q 0 0 23 [some (.ref (eB E + 83)), some (.int x1), some (.int 0), none, none, none] [] h I L))) :
    J E mX12_findRing (d + 7) Q 0 0 16 [some (.ref (eB E + 83)), some (.int x1), none, none, none, none] [] h I L := by
  refine J.iload_n dX12_findRing_16 rfl rfl ?_
  refine J.iconst (v := 4) dX12_findRing_17 (by decide) ?_
  refine J.ic_gt 171 dX12_findRing_18 (by decide) (fun hc1 => ?_) (fun hc1 => ?_)
  · have hW := hW.1 hc1
    exact J.retv dX12_findRing_171 rfl hW
  · have hW := hW.2 hc1
    refine J.iconst (v := 0) dX12_findRing_21 (by decide) ?_
    refine J.istore_n (vs' := [some (.ref (eB E + 83)), some (.int x1), some (.int 0), none, none, none]) dX12_findRing_22 rfl (by decide) rfl ?_
    exact hW
set_option maxRecDepth 100000 in
set_option maxHeartbeats 4000000 in
theorem w_X12_findRing_23 {E : Envt} {d : Nat} {Q : Pst} {h : mS} {I : mI} {L : mL} (hs : SL h)    (x1 : Int32) (x2 : Int32)
    (hW : (((((1 : Int32) <<< ((3 * x1) &&& 31)) ≤ x2) → J E mX12_findRing (d + 7) Q 0 0 16 [some (.ref (eB E + 83)), some (.int (x1 + 1)), none, none, none, none] [] h I L) ∧ (¬ (((1 : Int32) <<< ((3 * x1) &&& 31)) ≤ x2) → J E mX12_findRing (d + 7) Q 0 0 37 [some (.ref (eB E + 83)), some (.int x1), some (.int x2), some (.int 1), some (.int 0), none] [] h I L))) :
    J E mX12_findRing (d + 7) Q 0 0 23 [some (.ref (eB E + 83)), some (.int x1), some (.int x2), none, none, none] [] h I L := by
  refine J.iload_n dX12_findRing_23 rfl rfl ?_
  refine J.iconst (v := 1) dX12_findRing_24 (by decide) ?_
  refine J.iconst (v := 3) dX12_findRing_25 (by decide) ?_
  refine J.iload_n dX12_findRing_26 rfl rfl ?_
  refine J.imul dX12_findRing_27 ?_
  refine J.ishl dX12_findRing_28 ?_
  refine J.ic_ge 165 dX12_findRing_29 (by decide) (fun hc1 => ?_) (fun hc1 => ?_)
  · have hW := hW.1 hc1
    refine J.iinc (v := x1 + 1) (vs' := [some (.ref (eB E + 83)), some (.int (x1 + 1)), some (.int x2), none, none, none]) dX12_findRing_165 rfl (by rfl) (by decide) rfl ?_
    refine J.goto 16 dX12_findRing_168 (by decide) ?_
    exact J.mask [true, true, false, false, false, false] rfl hW
  · have hW := hW.2 hc1
    refine J.iconst (v := 1) dX12_findRing_32 (by decide) ?_
    refine J.istore_n (vs' := [some (.ref (eB E + 83)), some (.int x1), some (.int x2), some (.int 1), none, none]) dX12_findRing_33 rfl (by decide) rfl ?_
    refine J.iconst (v := 0) dX12_findRing_34 (by decide) ?_
    refine J.istore (vs' := [some (.ref (eB E + 83)), some (.int x1), some (.int x2), some (.int 1), some (.int 0), none]) dX12_findRing_35 (by decide) rfl ?_
    exact hW
set_option maxRecDepth 100000 in
set_option maxHeartbeats 4000000 in
theorem w_X12_findRing_37 {E : Envt} {d : Nat} {Q : Pst} {h : mS} {I : mI} {L : mL} (hs : SL h)    (x1 : Int32) (x2 : Int32) (x3 : Int32) (x4 : Int32)
    (hW : (((x1 ≤ x4) → (((x3 = 0) → ((((-1) ≤ (I 83 79)) → J E mX12_findRing (d + 7) Q 0 0 23 [some (.ref (eB E + 83)), some (.int x1), some (.int (x2 + 1)), none, none, none] [] h I L) ∧ (¬ ((-1) ≤ (I 83 79)) → J E mX12_findRing (d + 7) Q 0 0 133 [some (.ref (eB E + 83)), some (.int x1), some (.int x2), some (.int x3), some (.int (-1)), some (.int 0)] [] h (uI (uI I 83 79 (-1)) 83 78 x1) L))) ∧ (¬ (x3 = 0) → (CT E mX12_ringOf (d + 6) 0 0 [.ref (eB E + 83), .int x1] h I L (qi h L fun r5 I4 => (((r5 ≤ (I4 83 79)) → J E mX12_findRing (d + 7) Q 0 0 23 [some (.ref (eB E + 83)), some (.int x1), some (.int (x2 + 1)), none, none, none] [] h I4 L) ∧ (¬ (r5 ≤ (I4 83 79)) → J E mX12_findRing (d + 7) Q 0 0 133 [some (.ref (eB E + 83)), some (.int x1), some (.int x2), some (.int x3), some (.int r5), some (.int 0)] [] h (uI (uI I4 83 79 r5) 83 78 x1) L))))))) ∧ (¬ (x1 ≤ x4) → (vp_in x4 4 ∧ J E mX12_findRing (d + 7) Q 0 0 37 [some (.ref (eB E + 83)), some (.int x1), some (.int x2), some (.int (bI (¬ (x3 = 0) ∧ (¬ ((I 90 0) ≤ ((x2 >>> ((3 * ((x1 - 1) - x4)) &&& 31)) &&& 7)))))), some (.int (x4 + 1)), none] [] h (uI I 145 x4.toNatClampNeg ((x2 >>> ((3 * ((x1 - 1) - x4)) &&& 31)) &&& 7)) L)))) :
    J E mX12_findRing (d + 7) Q 0 0 37 [some (.ref (eB E + 83)), some (.int x1), some (.int x2), some (.int x3), some (.int x4), none] [] h I L := by
  refine J.iload dX12_findRing_37 rfl ?_
  refine J.iload_n dX12_findRing_39 rfl rfl ?_
  refine J.ic_ge 95 dX12_findRing_40 (by decide) (fun hc1 => ?_) (fun hc1 => ?_)
  · have hW := hW.1 hc1
    refine J.iload_n dX12_findRing_95 rfl rfl ?_
    refine J.if_eq 107 dX12_findRing_96 (by decide) (fun hc2 => ?_) (fun hc2 => ?_)
    · have hW := hW.1 hc2
      refine J.iconst (v := (-1)) dX12_findRing_107 (by decide) ?_
      refine J.istore (vs' := [some (.ref (eB E + 83)), some (.int x1), some (.int x2), some (.int x3), some (.int (-1)), none]) dX12_findRing_108 (by decide) rfl ?_
      refine J.iload dX12_findRing_110 rfl ?_
      refine J.aload_n dX12_findRing_112 rfl rfl ?_
      refine J.getI (x := I 83 79) fl_X12_484 rfl dX12_findRing_113 (lt83 hs) (kk83 hs) rfl ?_
      refine J.ic_le 159 dX12_findRing_116 (by decide) (fun hc3 => ?_) (fun hc3 => ?_)
      · have hW := hW.1 hc3
        refine J.iinc (v := x2 + 1) (vs' := [some (.ref (eB E + 83)), some (.int x1), some (.int (x2 + 1)), some (.int x3), some (.int (-1)), none]) dX12_findRing_159 rfl (by rfl) (by decide) rfl ?_
        refine J.goto 23 dX12_findRing_162 (by decide) ?_
        exact J.mask [true, true, true, false, false, false] rfl hW
      · have hW := hW.2 hc3
        refine J.aload_n dX12_findRing_119 rfl rfl ?_
        refine J.iload dX12_findRing_120 rfl ?_
        refine J.putI fw_X12_484 rfl dX12_findRing_122 (lt83 hs) (kk83 hs) ?_
        refine J.aload_n dX12_findRing_125 rfl rfl ?_
        refine J.iload_n dX12_findRing_126 rfl rfl ?_
        refine J.putI fw_X12_481 rfl dX12_findRing_127 (lt83 hs) (kk83 hs) ?_
        refine J.iconst (v := 0) dX12_findRing_130 (by decide) ?_
        refine J.istore (vs' := [some (.ref (eB E + 83)), some (.int x1), some (.int x2), some (.int x3), some (.int (-1)), some (.int 0)]) dX12_findRing_131 (by decide) rfl ?_
        exact hW
    · have hW := hW.2 hc2
      refine J.aload_n dX12_findRing_99 rfl rfl ?_
      refine J.iload_n dX12_findRing_100 rfl rfl ?_
      refine J.callV (M' := mX12_ringOf) (index := 487) (bc := 0) (bs := 0) (bc' := 0) (bs' := 0) (st := []) [.int x1] ml_X12_487 cv_X12_ringOf dX12_findRing_101 (lt83 hs) (kk83 hs) (by decide) rfl rfl rfl rfl (Nat.le_of_ble_eq_true rfl) (kqi hW (fun r5 I4 hW => ?_))
      refine J.goto 108 dX12_findRing_104 (by decide) ?_
      refine J.istore (vs' := [some (.ref (eB E + 83)), some (.int x1), some (.int x2), some (.int x3), some (.int r5), none]) dX12_findRing_108 (by decide) rfl ?_
      refine J.iload dX12_findRing_110 rfl ?_
      refine J.aload_n dX12_findRing_112 rfl rfl ?_
      refine J.getI (x := I4 83 79) fl_X12_484 rfl dX12_findRing_113 (lt83 hs) (kk83 hs) rfl ?_
      refine J.ic_le 159 dX12_findRing_116 (by decide) (fun hc6 => ?_) (fun hc6 => ?_)
      · have hW := hW.1 hc6
        refine J.iinc (v := x2 + 1) (vs' := [some (.ref (eB E + 83)), some (.int x1), some (.int (x2 + 1)), some (.int x3), some (.int r5), none]) dX12_findRing_159 rfl (by rfl) (by decide) rfl ?_
        refine J.goto 23 dX12_findRing_162 (by decide) ?_
        exact J.mask [true, true, true, false, false, false] rfl hW
      · have hW := hW.2 hc6
        refine J.aload_n dX12_findRing_119 rfl rfl ?_
        refine J.iload dX12_findRing_120 rfl ?_
        refine J.putI fw_X12_484 rfl dX12_findRing_122 (lt83 hs) (kk83 hs) ?_
        refine J.aload_n dX12_findRing_125 rfl rfl ?_
        refine J.iload_n dX12_findRing_126 rfl rfl ?_
        refine J.putI fw_X12_481 rfl dX12_findRing_127 (lt83 hs) (kk83 hs) ?_
        refine J.iconst (v := 0) dX12_findRing_130 (by decide) ?_
        refine J.istore (vs' := [some (.ref (eB E + 83)), some (.int x1), some (.int x2), some (.int x3), some (.int r5), some (.int 0)]) dX12_findRing_131 (by decide) rfl ?_
        exact hW
  · have hW := hW.2 hc1
    refine J.aload_n dX12_findRing_43 rfl rfl ?_
    refine J.getR (r := 145) fl_X12_196 rfl dX12_findRing_44 (lt83 hs) (kk83 hs) (rr83_81 hs) ?_
    refine J.iload dX12_findRing_47 rfl ?_
    refine J.iload_n dX12_findRing_49 rfl rfl ?_
    refine J.iconst (v := 3) dX12_findRing_50 (by decide) ?_
    refine J.iload_n dX12_findRing_51 rfl rfl ?_
    refine J.iconst (v := 1) dX12_findRing_52 (by decide) ?_
    refine J.isub dX12_findRing_53 ?_
    refine J.iload dX12_findRing_54 rfl ?_
    refine J.isub dX12_findRing_56 ?_
    refine J.imul dX12_findRing_57 ?_
    refine J.ishr dX12_findRing_58 ?_
    refine J.bipush (v := 7) dX12_findRing_59 (by decide) ?_
    refine J.iand dX12_findRing_61 ?_
    obtain ⟨hb7, hW⟩ := hW
    refine J.iast dX12_findRing_62 (lt145 hs) (kk145 hs) hb7 ?_
    refine J.iload_n dX12_findRing_63 rfl rfl ?_
    have hj : J E mX12_findRing (d + 7) Q 0 0 88 [some (.ref (eB E + 83)), some (.int x1), some (.int x2), some (.int x3), some (.int x4), none] [.int (bI (¬ (x3 = 0) ∧ (¬ ((I 90 0) ≤ ((x2 >>> ((3 * ((x1 - 1) - x4)) &&& 31)) &&& 7)))))] h (uI I 145 x4.toNatClampNeg ((x2 >>> ((3 * ((x1 - 1) - x4)) &&& 31)) &&& 7)) L := by
      refine J.istore_n (vs' := [some (.ref (eB E + 83)), some (.int x1), some (.int x2), some (.int (bI (¬ (x3 = 0) ∧ (¬ ((I 90 0) ≤ ((x2 >>> ((3 * ((x1 - 1) - x4)) &&& 31)) &&& 7)))))), some (.int x4), none]) dX12_findRing_88 rfl (by decide) rfl ?_
      refine J.iinc (v := x4 + 1) (vs' := [some (.ref (eB E + 83)), some (.int x1), some (.int x2), some (.int (bI (¬ (x3 = 0) ∧ (¬ ((I 90 0) ≤ ((x2 >>> ((3 * ((x1 - 1) - x4)) &&& 31)) &&& 7)))))), some (.int (x4 + 1)), none]) dX12_findRing_89 rfl (by rfl) (by decide) rfl ?_
      refine J.goto 37 dX12_findRing_92 (by decide) ?_
      exact hW
    refine J.if_eq 87 dX12_findRing_64 (by decide) (fun hc8 => ?_) (fun hc8 => ?_)
    · refine J.iconst (v := 0) dX12_findRing_87 (by decide) ?_
      rw [show bI (¬ (x3 = 0) ∧ (¬ ((I 90 0) ≤ ((x2 >>> ((3 * ((x1 - 1) - x4)) &&& 31)) &&& 7)))) = 0 from bI_f (by simp only [eq_true hc8, and_true, true_and, and_false, false_and, or_true, true_or, or_false, false_or, not_true_eq_false, not_false_eq_true])] at hj
      exact hj
    · refine J.aload_n dX12_findRing_67 rfl rfl ?_
      refine J.getR (r := 145) fl_X12_196 rfl dX12_findRing_68 (lt83 hs) (kk83 hs) (rr83_81 hs) ?_
      refine J.iload dX12_findRing_71 rfl ?_
      refine J.iald (x := (x2 >>> ((3 * ((x1 - 1) - x4)) &&& 31)) &&& 7) dX12_findRing_73 (lt145 hs) (kk145 hs) hb7 (by simp [uI]) ?_
      refine J.aload_n dX12_findRing_74 rfl rfl ?_
      refine J.getR (r := 90) fl_X12_29 rfl dX12_findRing_75 (lt83 hs) (kk83 hs) (rr83_7 hs) ?_
      refine J.iconst (v := 0) dX12_findRing_78 (by decide) ?_
      refine J.iald (x := I 90 0) dX12_findRing_79 (lt90 hs) (kk90 hs) (by unfold vp_in; decide) rfl ?_
      refine J.ic_ge 87 dX12_findRing_80 (by decide) (fun hc9 => ?_) (fun hc9 => ?_)
      · refine J.iconst (v := 0) dX12_findRing_87 (by decide) ?_
        rw [show bI (¬ (x3 = 0) ∧ (¬ ((I 90 0) ≤ ((x2 >>> ((3 * ((x1 - 1) - x4)) &&& 31)) &&& 7)))) = 0 from bI_f (by simp only [eq_false hc8, eq_true hc9, and_true, true_and, and_false, false_and, or_true, true_or, or_false, false_or, not_true_eq_false, not_false_eq_true])] at hj
        exact hj
      · refine J.iconst (v := 1) dX12_findRing_83 (by decide) ?_
        refine J.goto 88 dX12_findRing_84 (by decide) ?_
        rw [show bI (¬ (x3 = 0) ∧ (¬ ((I 90 0) ≤ ((x2 >>> ((3 * ((x1 - 1) - x4)) &&& 31)) &&& 7)))) = 1 from bI_t (by simp only [eq_false hc8, eq_false hc9, and_true, true_and, and_false, false_and, or_true, true_or, or_false, false_or, not_true_eq_false, not_false_eq_true])] at hj
        exact hj
set_option maxRecDepth 100000 in
set_option maxHeartbeats 4000000 in
theorem w_X12_findRing_133 {E : Envt} {d : Nat} {Q : Pst} {h : mS} {I : mI} {L : mL} (hs : SL h)    (x1 : Int32) (x2 : Int32) (x3 : Int32) (x4 : Int32) (x5 : Int32)
    (hW : (((x1 ≤ x5) → J E mX12_findRing (d + 7) Q 0 0 23 [some (.ref (eB E + 83)), some (.int x1), some (.int (x2 + 1)), none, none, none] [] h I L) ∧ (¬ (x1 ≤ x5) → (vp_in x5 4 ∧ J E mX12_findRing (d + 7) Q 0 0 133 [some (.ref (eB E + 83)), some (.int x1), some (.int x2), some (.int x3), some (.int x4), some (.int (x5 + 1))] [] h (uI I 144 x5.toNatClampNeg (I 145 x5.toNatClampNeg)) L)))) :
    J E mX12_findRing (d + 7) Q 0 0 133 [some (.ref (eB E + 83)), some (.int x1), some (.int x2), some (.int x3), some (.int x4), some (.int x5)] [] h I L := by
  refine J.iload dX12_findRing_133 rfl ?_
  refine J.iload_n dX12_findRing_135 rfl rfl ?_
  refine J.ic_ge 159 dX12_findRing_136 (by decide) (fun hc1 => ?_) (fun hc1 => ?_)
  · have hW := hW.1 hc1
    refine J.iinc (v := x2 + 1) (vs' := [some (.ref (eB E + 83)), some (.int x1), some (.int (x2 + 1)), some (.int x3), some (.int x4), some (.int x5)]) dX12_findRing_159 rfl (by rfl) (by decide) rfl ?_
    refine J.goto 23 dX12_findRing_162 (by decide) ?_
    exact J.mask [true, true, true, false, false, false] rfl hW
  · have hW := hW.2 hc1
    refine J.aload_n dX12_findRing_139 rfl rfl ?_
    refine J.getR (r := 144) fl_X12_193 rfl dX12_findRing_140 (lt83 hs) (kk83 hs) (rr83_80 hs) ?_
    refine J.iload dX12_findRing_143 rfl ?_
    refine J.aload_n dX12_findRing_145 rfl rfl ?_
    refine J.getR (r := 145) fl_X12_196 rfl dX12_findRing_146 (lt83 hs) (kk83 hs) (rr83_81 hs) ?_
    refine J.iload dX12_findRing_149 rfl ?_
    obtain ⟨hb2, hW⟩ := hW
    refine J.iald (x := I 145 x5.toNatClampNeg) dX12_findRing_151 (lt145 hs) (kk145 hs) hb2 rfl ?_
    refine J.iast dX12_findRing_152 (lt144 hs) (kk144 hs) hb2 ?_
    refine J.iinc (v := x5 + 1) (vs' := [some (.ref (eB E + 83)), some (.int x1), some (.int x2), some (.int x3), some (.int x4), some (.int (x5 + 1))]) dX12_findRing_153 rfl (by rfl) (by decide) rfl ?_
    refine J.goto 133 dX12_findRing_156 (by decide) ?_
    exact hW
set_option maxRecDepth 100000 in
set_option maxHeartbeats 4000000 in
theorem w_X12_ring {E : Envt} {d : Nat} {Q : Pst} {h : mS} {I : mI} {L : mL} (hs : SL h) (x1 : Int32) 
    (hW : (((¬ (x1 < 0) ∧ (¬ (1 < x1))) → (CT E mX12_findRing (d + 7) 0 0 [.ref (eB E + 83)] h (uI I 83 0 0) L (qv h L fun I4 => Q (some (.int (if (I4 83 78) = 0 then (-1) else if x1 = 0 then I4 83 78 else I4 83 79 : Int32))) h I4 L))) ∧ (¬ (¬ (x1 < 0) ∧ (¬ (1 < x1))) → Q (some (.int (-1))) h (uI I 83 0 0) L))) :
    CT E mX12_ring (d + 8) 0 0 [.ref (eB E + 83), .int x1] h I L Q := by
  refine CT.of (by decide) [some (.ref (eB E + 83)), some (.int x1)] rfl (Nat.le_of_ble_eq_true rfl) ?_
  refine J.aload_n dX12_ring_0 rfl rfl ?_
  refine J.iconst (v := 0) dX12_ring_1 (by decide) ?_
  refine J.putI fw_X12_202 rfl dX12_ring_2 (lt83 hs) (kk83 hs) ?_
  refine J.iload_n dX12_ring_5 rfl rfl ?_
  refine J.iconst (v := 0) dX12_ring_6 (by decide) ?_
  refine J.iconst (v := 1) dX12_ring_7 (by decide) ?_
  refine J.callS (M' := mX12_in) (index := 218) (bc := 0) (bs := 0) (bc' := 0) (bs' := 0) (st := []) [.int x1, .int 0, .int 1] ml_X12_218 cv_X12_in dX12_ring_8 rfl rfl (Nat.le_of_ble_eq_true rfl) (kqi (w_X12_in (d := d + 7) (Q := qi h L (fun v I' => I' = (uI I 83 0 0) ∧ v = bI (¬ (x1 < 0) ∧ (¬ (1 < x1))))) hs x1 0 1 ⟨rfl, rfl, _, rfl, rfl, rfl⟩) (fun v1 I2 hv => ?_))
  rw [hv.1, hv.2]
  refine J.if_ne 16 dX12_ring_11 (by decide) (fun hc3 => ?_) (fun hc3 => ?_)
  · have hc3 := bI_n0.mp hc3
    have hW := hW.1 hc3
    refine J.aload_n dX12_ring_16 rfl rfl ?_
    refine J.callV (M' := mX12_findRing) (index := 490) (bc := 0) (bs := 0) (bc' := 0) (bs' := 0) (st := []) [] ml_X12_490 cv_X12_findRing dX12_ring_17 (lt83 hs) (kk83 hs) (by decide) rfl rfl rfl rfl (Nat.le_of_ble_eq_true rfl) (kqv hW (fun I4 hW => ?_))
    refine J.aload_n dX12_ring_20 rfl rfl ?_
    refine J.getI (x := I4 83 78) fl_X12_481 rfl dX12_ring_21 (lt83 hs) (kk83 hs) rfl ?_
    have hj : J E mX12_ring (d + 8) Q 0 0 46 [some (.ref (eB E + 83)), some (.int x1)] [.int (if (I4 83 78) = 0 then (-1) else if x1 = 0 then I4 83 78 else I4 83 79 : Int32)] h I4 L := by
      exact J.reti dX12_ring_46 rfl rfl hW
    refine J.if_ne 31 dX12_ring_24 (by decide) (fun hc5 => ?_) (fun hc5 => ?_)
    · refine J.iload_n dX12_ring_31 rfl rfl ?_
      refine J.if_ne 42 dX12_ring_32 (by decide) (fun hc6 => ?_) (fun hc6 => ?_)
      · refine J.aload_n dX12_ring_42 rfl rfl ?_
        refine J.getI (x := I4 83 79) fl_X12_484 rfl dX12_ring_43 (lt83 hs) (kk83 hs) rfl ?_
        rw [show ((if (I4 83 78) = 0 then (-1) else if x1 = 0 then I4 83 78 else I4 83 79 : Int32) = I4 83 79) from by simp only [eq_false hc5, eq_false hc6, if_true, if_false, bI_true, bI_false, and_true, true_and, and_false, false_and, or_true, true_or, or_false, false_or, not_true_eq_false, not_false_eq_true]] at hj
        exact hj
      · refine J.aload_n dX12_ring_35 rfl rfl ?_
        refine J.getI (x := I4 83 78) fl_X12_481 rfl dX12_ring_36 (lt83 hs) (kk83 hs) rfl ?_
        refine J.goto 46 dX12_ring_39 (by decide) ?_
        rw [show ((if (I4 83 78) = 0 then (-1) else if x1 = 0 then I4 83 78 else I4 83 79 : Int32) = I4 83 78) from by simp only [eq_false hc5, eq_true hc6, if_true, if_false, bI_true, bI_false, and_true, true_and, and_false, false_and, or_true, true_or, or_false, false_or, not_true_eq_false, not_false_eq_true]] at hj
        exact hj
    · refine J.iconst (v := (-1)) dX12_ring_27 (by decide) ?_
      refine J.goto 46 dX12_ring_28 (by decide) ?_
      rw [show ((if (I4 83 78) = 0 then (-1) else if x1 = 0 then I4 83 78 else I4 83 79 : Int32) = (-1)) from by simp only [eq_true hc5, if_true, if_false, bI_true, bI_false, and_true, true_and, and_false, false_and, or_true, true_or, or_false, false_or, not_true_eq_false, not_false_eq_true]] at hj
      exact hj
  · have hc3 := bI_0.mp hc3
    have hW := hW.2 hc3
    refine J.iconst (v := (-1)) dX12_ring_14 (by decide) ?_
    exact J.reti dX12_ring_15 rfl rfl hW
set_option maxRecDepth 100000 in
set_option maxHeartbeats 4000000 in
theorem w_X12_ringed {E : Envt} {d : Nat} {Q : Pst} {h : mS} {I : mI} {L : mL} (hs : SL h) (x1 : Int32) (x2 : Int32) 
    (hW : (((¬ (x2 < 0) ∧ (¬ (2 < x2))) → (CT E mX12_findRing (d + 7) 0 0 [.ref (eB E + 83)] h (uI I 83 0 0) L (qv h L fun I4 => (((¬ (x1 < 0) ∧ (¬ (((I4 83 78) - 1) < x1))) → (vp_in x1 4 ∧ ((¬ (I4 83 78) = 0) ∧ (vp_in ((x1 + 1) - (x1 + 1) / (I4 83 78) * (I4 83 78)) 4 ∧ (∀ y10 : Int32, y10 = (8 * (I4 144 x1.toNatClampNeg)) + (I4 144 (((x1 + 1) - (x1 + 1) / (I4 83 78) * (I4 83 78)).toNatClampNeg)) → ((¬ (x2 = 0) → ¬ (x2 = 1) → vp_in y10 64) ∧ ((¬ (x2 = 0) → (x2 = 1) → vp_in y10 64) ∧ (∀ y17 : Int32, y17 = (if x2 = 0 then I4 144 x1.toNatClampNeg else if x2 = 1 then I4 141 y10.toNatClampNeg else I4 142 y10.toNatClampNeg) → Q (some (.int y17)) h I4 L)))))))) ∧ (¬ (¬ (x1 < 0) ∧ (¬ (((I4 83 78) - 1) < x1))) → Q (some (.int (-1))) h I4 L))))) ∧ (¬ (¬ (x2 < 0) ∧ (¬ (2 < x2))) → Q (some (.int (-1))) h (uI I 83 0 0) L))) :
    CT E mX12_ringed (d + 8) 0 0 [.ref (eB E + 83), .int x1, .int x2] h I L Q := by
  refine CT.of (by decide) [some (.ref (eB E + 83)), some (.int x1), some (.int x2), none] rfl (Nat.le_of_ble_eq_true rfl) ?_
  refine J.aload_n dX12_ringed_0 rfl rfl ?_
  refine J.iconst (v := 0) dX12_ringed_1 (by decide) ?_
  refine J.putI fw_X12_202 rfl dX12_ringed_2 (lt83 hs) (kk83 hs) ?_
  refine J.iload_n dX12_ringed_5 rfl rfl ?_
  refine J.iconst (v := 0) dX12_ringed_6 (by decide) ?_
  refine J.iconst (v := 2) dX12_ringed_7 (by decide) ?_
  refine J.callS (M' := mX12_in) (index := 218) (bc := 0) (bs := 0) (bc' := 0) (bs' := 0) (st := []) [.int x2, .int 0, .int 2] ml_X12_218 cv_X12_in dX12_ringed_8 rfl rfl (Nat.le_of_ble_eq_true rfl) (kqi (w_X12_in (d := d + 7) (Q := qi h L (fun v I' => I' = (uI I 83 0 0) ∧ v = bI (¬ (x2 < 0) ∧ (¬ (2 < x2))))) hs x2 0 2 ⟨rfl, rfl, _, rfl, rfl, rfl⟩) (fun v1 I2 hv => ?_))
  rw [hv.1, hv.2]
  refine J.if_ne 16 dX12_ringed_11 (by decide) (fun hc3 => ?_) (fun hc3 => ?_)
  · have hc3 := bI_n0.mp hc3
    have hW := hW.1 hc3
    refine J.aload_n dX12_ringed_16 rfl rfl ?_
    refine J.callV (M' := mX12_findRing) (index := 490) (bc := 0) (bs := 0) (bc' := 0) (bs' := 0) (st := []) [] ml_X12_490 cv_X12_findRing dX12_ringed_17 (lt83 hs) (kk83 hs) (by decide) rfl rfl rfl rfl (Nat.le_of_ble_eq_true rfl) (kqv hW (fun I4 hW => ?_))
    refine J.iload_n dX12_ringed_20 rfl rfl ?_
    refine J.iconst (v := 0) dX12_ringed_21 (by decide) ?_
    refine J.aload_n dX12_ringed_22 rfl rfl ?_
    refine J.getI (x := I4 83 78) fl_X12_481 rfl dX12_ringed_23 (lt83 hs) (kk83 hs) rfl ?_
    refine J.iconst (v := 1) dX12_ringed_26 (by decide) ?_
    refine J.isub dX12_ringed_27 ?_
    refine J.callS (M' := mX12_in) (index := 218) (bc := 0) (bs := 0) (bc' := 0) (bs' := 0) (st := []) [.int x1, .int 0, .int ((I4 83 78) - 1)] ml_X12_218 cv_X12_in dX12_ringed_28 rfl rfl (Nat.le_of_ble_eq_true rfl) (kqi (w_X12_in (d := d + 7) (Q := qi h L (fun v I' => I' = I4 ∧ v = bI (¬ (x1 < 0) ∧ (¬ (((I4 83 78) - 1) < x1))))) hs x1 0 ((I4 83 78) - 1) ⟨rfl, rfl, _, rfl, rfl, rfl⟩) (fun v5 I6 hv => ?_))
    rw [hv.1, hv.2]
    refine J.if_ne 36 dX12_ringed_31 (by decide) (fun hc7 => ?_) (fun hc7 => ?_)
    · have hc7 := bI_n0.mp hc7
      have hW := hW.1 hc7
      refine J.bipush (v := 8) dX12_ringed_36 (by decide) ?_
      refine J.aload_n dX12_ringed_38 rfl rfl ?_
      refine J.getR (r := 144) fl_X12_193 rfl dX12_ringed_39 (lt83 hs) (kk83 hs) (rr83_80 hs) ?_
      refine J.iload_n dX12_ringed_42 rfl rfl ?_
      obtain ⟨hb8, hW⟩ := hW
      refine J.iald (x := I4 144 x1.toNatClampNeg) dX12_ringed_43 (lt144 hs) (kk144 hs) hb8 rfl ?_
      refine J.imul dX12_ringed_44 ?_
      refine J.aload_n dX12_ringed_45 rfl rfl ?_
      refine J.getR (r := 144) fl_X12_193 rfl dX12_ringed_46 (lt83 hs) (kk83 hs) (rr83_80 hs) ?_
      refine J.iload_n dX12_ringed_49 rfl rfl ?_
      refine J.iconst (v := 1) dX12_ringed_50 (by decide) ?_
      refine J.iadd dX12_ringed_51 ?_
      refine J.aload_n dX12_ringed_52 rfl rfl ?_
      refine J.getI (x := I4 83 78) fl_X12_481 rfl dX12_ringed_53 (lt83 hs) (kk83 hs) rfl ?_
      obtain ⟨hdz, hW⟩ := hW
      refine J.irem dX12_ringed_56 hdz ?_
      obtain ⟨hb9, hW⟩ := hW
      refine J.iald (x := I4 144 (((x1 + 1) - (x1 + 1) / (I4 83 78) * (I4 83 78)).toNatClampNeg)) dX12_ringed_57 (lt144 hs) (kk144 hs) hb9 rfl ?_
      refine J.iadd dX12_ringed_58 ?_
      refine J.topi (fun y10 hyy10 => ?_)
      have hW := hW y10 hyy10
      refine J.istore_n (vs' := [some (.ref (eB E + 83)), some (.int x1), some (.int x2), some (.int y10)]) dX12_ringed_59 rfl (by decide) rfl ?_
      refine J.iload_n dX12_ringed_60 rfl rfl ?_
      obtain ⟨hq14, hW⟩ := hW
      obtain ⟨hq16, hW⟩ := hW
      obtain ⟨y17, hyy17⟩ : ∃ y17 : Int32, y17 = (if x2 = 0 then I4 144 x1.toNatClampNeg else if x2 = 1 then I4 141 y10.toNatClampNeg else I4 142 y10.toNatClampNeg) := ⟨_, rfl⟩
      have hW := hW y17 hyy17
      have hj : J E mX12_ringed (d + 8) Q 0 0 93 [some (.ref (eB E + 83)), some (.int x1), some (.int x2), some (.int y10)] [.int y17] h I4 L := by
        exact J.reti dX12_ringed_93 rfl rfl hW
      refine J.if_ne 73 dX12_ringed_61 (by decide) (fun hc11 => ?_) (fun hc11 => ?_)
      · refine J.iload_n dX12_ringed_73 rfl rfl ?_
        refine J.iconst (v := 1) dX12_ringed_74 (by decide) ?_
        refine J.ic_ne 87 dX12_ringed_75 (by decide) (fun hc12 => ?_) (fun hc12 => ?_)
        · refine J.aload_n dX12_ringed_87 rfl rfl ?_
          refine J.getR (r := 142) fl_X12_187 rfl dX12_ringed_88 (lt83 hs) (kk83 hs) (rr83_76 hs) ?_
          refine J.iload_n dX12_ringed_91 rfl rfl ?_
          have hb13 := hq14 hc11 hc12
          refine J.iald (x := I4 142 y10.toNatClampNeg) dX12_ringed_92 (lt142 hs) (kk142 hs) hb13 rfl ?_
          rw [show y17 = I4 142 y10.toNatClampNeg from by simp only [hyy17, eq_false hc11, eq_false hc12, if_true, if_false, bI_true, bI_false, and_true, true_and, and_false, false_and, or_true, true_or, or_false, false_or, not_true_eq_false, not_false_eq_true]] at hj
          exact hj
        · refine J.aload_n dX12_ringed_78 rfl rfl ?_
          refine J.getR (r := 141) fl_X12_184 rfl dX12_ringed_79 (lt83 hs) (kk83 hs) (rr83_75 hs) ?_
          refine J.iload_n dX12_ringed_82 rfl rfl ?_
          have hb15 := hq16 hc11 hc12
          refine J.iald (x := I4 141 y10.toNatClampNeg) dX12_ringed_83 (lt141 hs) (kk141 hs) hb15 rfl ?_
          refine J.goto 93 dX12_ringed_84 (by decide) ?_
          rw [show y17 = I4 141 y10.toNatClampNeg from by simp only [hyy17, eq_false hc11, eq_true hc12, if_true, if_false, bI_true, bI_false, and_true, true_and, and_false, false_and, or_true, true_or, or_false, false_or, not_true_eq_false, not_false_eq_true]] at hj
          exact hj
      · refine J.aload_n dX12_ringed_64 rfl rfl ?_
        refine J.getR (r := 144) fl_X12_193 rfl dX12_ringed_65 (lt83 hs) (kk83 hs) (rr83_80 hs) ?_
        refine J.iload_n dX12_ringed_68 rfl rfl ?_
        refine J.iald (x := I4 144 x1.toNatClampNeg) dX12_ringed_69 (lt144 hs) (kk144 hs) hb8 rfl ?_
        refine J.goto 93 dX12_ringed_70 (by decide) ?_
        rw [show y17 = I4 144 x1.toNatClampNeg from by simp only [hyy17, eq_true hc11, if_true, if_false, bI_true, bI_false, and_true, true_and, and_false, false_and, or_true, true_or, or_false, false_or, not_true_eq_false, not_false_eq_true]] at hj
        exact hj
    · have hc7 := bI_0.mp hc7
      have hW := hW.2 hc7
      refine J.iconst (v := (-1)) dX12_ringed_34 (by decide) ?_
      exact J.reti dX12_ringed_35 rfl rfl hW
  · have hc3 := bI_0.mp hc3
    have hW := hW.2 hc3
    refine J.iconst (v := (-1)) dX12_ringed_14 (by decide) ?_
    exact J.reti dX12_ringed_15 rfl rfl hW
set_option maxRecDepth 100000 in
set_option maxHeartbeats 4000000 in
theorem w_X12_count {E : Envt} {d : Nat} {Q : Pst} {h : mS} {I : mI} {L : mL} (hs : SL h) (x1 : Int32) 
    (hW : ((x1 = 0 → Q (some (.int (I 90 0))) h (uI I 83 0 0) L) ∧ (x1 = 1 → Q (some (.int (I 95 0))) h (uI I 83 0 0) L) ∧ (x1 = 2 → Q (some (.int (I 104 0))) h (uI I 83 0 0) L) ∧ (x1 = 3 → Q (some (.int (I 88 0))) h (uI I 83 0 0) L) ∧ (x1 = 4 → Q (some (.int (I 106 0))) h (uI I 83 0 0) L) ∧ (x1 = 5 → J E mX12_count (d + 4) Q 0 0 109 [some (.ref (eB E + 83)), some (.int x1), some (.int 0), some (.int 0), none] [] h (uI I 83 0 0) L) ∧ (x1 = 6 → J E mX12_count (d + 4) Q 0 0 109 [some (.ref (eB E + 83)), some (.int x1), some (.int 0), some (.int 0), none] [] h (uI I 83 0 0) L) ∧ (x1 = 7 → J E mX12_count (d + 4) Q 0 0 186 [some (.ref (eB E + 83)), some (.int x1), some (.int 0), some (.int 0), none] [] h (uI I 83 0 0) L) ∧ (x1 = 8 → J E mX12_count (d + 4) Q 0 0 239 [some (.ref (eB E + 83)), some (.int x1), some (.int 0), some (.int 0), none] [] h (uI I 83 0 0) L) ∧ (x1 = 9 → J E mX12_count (d + 4) Q 0 0 268 [some (.ref (eB E + 83)), some (.int x1), some (.int 0), some (.int 0), none] [] h (uI I 83 0 0) L) ∧ (x1 = 10 → J E mX12_count (d + 4) Q 0 0 268 [some (.ref (eB E + 83)), some (.int x1), some (.int 0), some (.int 0), none] [] h (uI I 83 0 0) L) ∧ (x1 = 11 → J E mX12_count (d + 4) Q 0 0 109 [some (.ref (eB E + 83)), some (.int x1), some (.int 0), some (.int 0), none] [] h (uI I 83 0 0) L) ∧ (¬ x1 = 0 → ¬ x1 = 1 → ¬ x1 = 2 → ¬ x1 = 3 → ¬ x1 = 4 → ¬ x1 = 5 → ¬ x1 = 6 → ¬ x1 = 7 → ¬ x1 = 8 → ¬ x1 = 9 → ¬ x1 = 10 → ¬ x1 = 11 → Q (some (.int (-100))) h (uI I 83 0 0) L))) :
    CT E mX12_count (d + 4) 0 0 [.ref (eB E + 83), .int x1] h I L Q := by
  refine CT.of (by decide) [some (.ref (eB E + 83)), some (.int x1), none, none, none] rfl (Nat.le_of_ble_eq_true rfl) ?_
  refine J.aload_n dX12_count_0 rfl rfl ?_
  refine J.iconst (v := 0) dX12_count_1 (by decide) ?_
  refine J.putI fw_X12_202 rfl dX12_count_2 (lt83 hs) (kk83 hs) ?_
  refine J.iconst (v := 0) dX12_count_5 (by decide) ?_
  refine J.istore_n (vs' := [some (.ref (eB E + 83)), some (.int x1), some (.int 0), none, none]) dX12_count_6 rfl (by decide) rfl ?_
  refine J.iload_n dX12_count_7 rfl rfl ?_
  by_cases hk1 : x1 = 0
  · have hW := hW.1 hk1
    refine J.tableIn (off := 64) 72 dX12_count_8 (by rw [hk1] <;> decide) (by rw [hk1] <;> decide) (by rw [hk1] <;> rfl) (by decide) ?_
    refine J.aload_n dX12_count_72 rfl rfl ?_
    refine J.getR (r := 90) fl_X12_29 rfl dX12_count_73 (lt83 hs) (kk83 hs) (rr83_7 hs) ?_
    refine J.iconst (v := 0) dX12_count_76 (by decide) ?_
    refine J.iald (x := I 90 0) dX12_count_77 (lt90 hs) (kk90 hs) (by unfold vp_in; decide) rfl ?_
    exact J.reti dX12_count_78 rfl rfl hW
  by_cases hk2 : x1 = 1
  · have hW := hW.2.1 hk2
    refine J.tableIn (off := 71) 79 dX12_count_8 (by rw [hk2] <;> decide) (by rw [hk2] <;> decide) (by rw [hk2] <;> rfl) (by decide) ?_
    refine J.aload_n dX12_count_79 rfl rfl ?_
    refine J.getR (r := 95) fl_X12_44 rfl dX12_count_80 (lt83 hs) (kk83 hs) (rr83_12 hs) ?_
    refine J.iconst (v := 0) dX12_count_83 (by decide) ?_
    refine J.iald (x := I 95 0) dX12_count_84 (lt95 hs) (kk95 hs) (by unfold vp_in; decide) rfl ?_
    exact J.reti dX12_count_85 rfl rfl hW
  by_cases hk3 : x1 = 2
  · have hW := hW.2.2.1 hk3
    refine J.tableIn (off := 78) 86 dX12_count_8 (by rw [hk3] <;> decide) (by rw [hk3] <;> decide) (by rw [hk3] <;> rfl) (by decide) ?_
    refine J.aload_n dX12_count_86 rfl rfl ?_
    refine J.getR (r := 104) fl_X12_72 rfl dX12_count_87 (lt83 hs) (kk83 hs) (rr83_21 hs) ?_
    refine J.iconst (v := 0) dX12_count_90 (by decide) ?_
    refine J.iald (x := I 104 0) dX12_count_91 (lt104 hs) (kk104 hs) (by unfold vp_in; decide) rfl ?_
    exact J.reti dX12_count_92 rfl rfl hW
  by_cases hk4 : x1 = 3
  · have hW := hW.2.2.2.1 hk4
    refine J.tableIn (off := 85) 93 dX12_count_8 (by rw [hk4] <;> decide) (by rw [hk4] <;> decide) (by rw [hk4] <;> rfl) (by decide) ?_
    refine J.aload_n dX12_count_93 rfl rfl ?_
    refine J.getR (r := 88) fl_X12_23 rfl dX12_count_94 (lt83 hs) (kk83 hs) (rr83_5 hs) ?_
    refine J.iconst (v := 0) dX12_count_97 (by decide) ?_
    refine J.iald (x := I 88 0) dX12_count_98 (lt88 hs) (kk88 hs) (by unfold vp_in; decide) rfl ?_
    exact J.reti dX12_count_99 rfl rfl hW
  by_cases hk5 : x1 = 4
  · have hW := hW.2.2.2.2.1 hk5
    refine J.tableIn (off := 92) 100 dX12_count_8 (by rw [hk5] <;> decide) (by rw [hk5] <;> decide) (by rw [hk5] <;> rfl) (by decide) ?_
    refine J.aload_n dX12_count_100 rfl rfl ?_
    refine J.getR (r := 106) fl_X12_78 rfl dX12_count_101 (lt83 hs) (kk83 hs) (rr83_23 hs) ?_
    refine J.iconst (v := 0) dX12_count_104 (by decide) ?_
    refine J.iald (x := I 106 0) dX12_count_105 (lt106 hs) (kk106 hs) (by unfold vp_in; decide) rfl ?_
    exact J.reti dX12_count_106 rfl rfl hW
  by_cases hk6 : x1 = 5
  · have hW := hW.2.2.2.2.2.1 hk6
    refine J.tableIn (off := 99) 107 dX12_count_8 (by rw [hk6] <;> decide) (by rw [hk6] <;> decide) (by rw [hk6] <;> rfl) (by decide) ?_
    refine J.iconst (v := 0) dX12_count_107 (by decide) ?_
    refine J.istore_n (vs' := [some (.ref (eB E + 83)), some (.int x1), some (.int 0), some (.int 0), none]) dX12_count_108 rfl (by decide) rfl ?_
    exact hW
  by_cases hk7 : x1 = 6
  · have hW := hW.2.2.2.2.2.2.1 hk7
    refine J.tableIn (off := 99) 107 dX12_count_8 (by rw [hk7] <;> decide) (by rw [hk7] <;> decide) (by rw [hk7] <;> rfl) (by decide) ?_
    refine J.iconst (v := 0) dX12_count_107 (by decide) ?_
    refine J.istore_n (vs' := [some (.ref (eB E + 83)), some (.int x1), some (.int 0), some (.int 0), none]) dX12_count_108 rfl (by decide) rfl ?_
    exact hW
  by_cases hk8 : x1 = 7
  · have hW := hW.2.2.2.2.2.2.2.1 hk8
    refine J.tableIn (off := 176) 184 dX12_count_8 (by rw [hk8] <;> decide) (by rw [hk8] <;> decide) (by rw [hk8] <;> rfl) (by decide) ?_
    refine J.iconst (v := 0) dX12_count_184 (by decide) ?_
    refine J.istore_n (vs' := [some (.ref (eB E + 83)), some (.int x1), some (.int 0), some (.int 0), none]) dX12_count_185 rfl (by decide) rfl ?_
    exact hW
  by_cases hk9 : x1 = 8
  · have hW := hW.2.2.2.2.2.2.2.2.1 hk9
    refine J.tableIn (off := 229) 237 dX12_count_8 (by rw [hk9] <;> decide) (by rw [hk9] <;> decide) (by rw [hk9] <;> rfl) (by decide) ?_
    refine J.iconst (v := 0) dX12_count_237 (by decide) ?_
    refine J.istore_n (vs' := [some (.ref (eB E + 83)), some (.int x1), some (.int 0), some (.int 0), none]) dX12_count_238 rfl (by decide) rfl ?_
    exact hW
  by_cases hk10 : x1 = 9
  · have hW := hW.2.2.2.2.2.2.2.2.2.1 hk10
    refine J.tableIn (off := 258) 266 dX12_count_8 (by rw [hk10] <;> decide) (by rw [hk10] <;> decide) (by rw [hk10] <;> rfl) (by decide) ?_
    refine J.iconst (v := 0) dX12_count_266 (by decide) ?_
    refine J.istore_n (vs' := [some (.ref (eB E + 83)), some (.int x1), some (.int 0), some (.int 0), none]) dX12_count_267 rfl (by decide) rfl ?_
    exact hW
  by_cases hk11 : x1 = 10
  · have hW := hW.2.2.2.2.2.2.2.2.2.2.1 hk11
    refine J.tableIn (off := 258) 266 dX12_count_8 (by rw [hk11] <;> decide) (by rw [hk11] <;> decide) (by rw [hk11] <;> rfl) (by decide) ?_
    refine J.iconst (v := 0) dX12_count_266 (by decide) ?_
    refine J.istore_n (vs' := [some (.ref (eB E + 83)), some (.int x1), some (.int 0), some (.int 0), none]) dX12_count_267 rfl (by decide) rfl ?_
    exact hW
  by_cases hk12 : x1 = 11
  · have hW := hW.2.2.2.2.2.2.2.2.2.2.2.1 hk12
    refine J.tableIn (off := 99) 107 dX12_count_8 (by rw [hk12] <;> decide) (by rw [hk12] <;> decide) (by rw [hk12] <;> rfl) (by decide) ?_
    refine J.iconst (v := 0) dX12_count_107 (by decide) ?_
    refine J.istore_n (vs' := [some (.ref (eB E + 83)), some (.int x1), some (.int 0), some (.int 0), none]) dX12_count_108 rfl (by decide) rfl ?_
    exact hW
  have hW := hW.2.2.2.2.2.2.2.2.2.2.2.2 hk1 hk2 hk3 hk4 hk5 hk6 hk7 hk8 hk9 hk10 hk11 hk12
  refine J.tableOut 315 dX12_count_8 (by have := toInt_ne (k := 0) (by decide) hk1; have := toInt_ne (k := 1) (by decide) hk2; have := toInt_ne (k := 2) (by decide) hk3; have := toInt_ne (k := 3) (by decide) hk4; have := toInt_ne (k := 4) (by decide) hk5; have := toInt_ne (k := 5) (by decide) hk6; have := toInt_ne (k := 6) (by decide) hk7; have := toInt_ne (k := 7) (by decide) hk8; have := toInt_ne (k := 8) (by decide) hk9; have := toInt_ne (k := 9) (by decide) hk10; have := toInt_ne (k := 10) (by decide) hk11; have := toInt_ne (k := 11) (by decide) hk12; omega) (by decide) ?_
  refine J.bipush (v := (-100)) dX12_count_315 (by decide) ?_
  exact J.reti dX12_count_317 rfl rfl hW
set_option maxRecDepth 100000 in
set_option maxHeartbeats 4000000 in
theorem w_X12_count_109 {E : Envt} {d : Nat} {Q : Pst} {h : mS} {I : mI} {L : mL} (hs : SL h)    (x1 : Int32) (x2 : Int32) (x3 : Int32)
    (hW : ((((I 106 0) ≤ x3) → Q (some (.int x2)) h I L) ∧ (¬ ((I 106 0) ≤ x3) → (((x1 = 5) → ((vp_in x3 120) ∧ (∀ y16 : Int32, y16 = (bI (((I 109 x3.toNatClampNeg) = 0) ∨ ((I 109 x3.toNatClampNeg) = 1))) → J E mX12_count (d + 4) Q 0 0 109 [some (.ref (eB E + 83)), some (.int x1), some (.int (x2 + y16)), some (.int (x3 + 1)), none] [] h I L))) ∧ (¬ (x1 = 5) → (((x1 = 6) → (vp_in x3 120 ∧ (∀ y11 : Int32, y11 = (bI ((I 109 x3.toNatClampNeg) = 2)) → J E mX12_count (d + 4) Q 0 0 109 [some (.ref (eB E + 83)), some (.int x1), some (.int (x2 + y11)), some (.int (x3 + 1)), none] [] h I L))) ∧ (¬ (x1 = 6) → (CT E mX12_isLate (d + 3) 0 0 [.ref (eB E + 83), .int x3] h I L (qi h L fun r5 I4 => (∀ y7 : Int32, y7 = x2 + (bI (¬ (r5 = 0))) → J E mX12_count (d + 4) Q 0 0 109 [some (.ref (eB E + 83)), some (.int x1), some (.int y7), some (.int (x3 + 1)), none] [] h I4 L)))))))))) :
    J E mX12_count (d + 4) Q 0 0 109 [some (.ref (eB E + 83)), some (.int x1), some (.int x2), some (.int x3), none] [] h I L := by
  refine J.iload_n dX12_count_109 rfl rfl ?_
  refine J.aload_n dX12_count_110 rfl rfl ?_
  refine J.getR (r := 106) fl_X12_78 rfl dX12_count_111 (lt83 hs) (kk83 hs) (rr83_23 hs) ?_
  refine J.iconst (v := 0) dX12_count_114 (by decide) ?_
  refine J.iald (x := I 106 0) dX12_count_115 (lt106 hs) (kk106 hs) (by unfold vp_in; decide) rfl ?_
  refine J.ic_ge 182 dX12_count_116 (by decide) (fun hc1 => ?_) (fun hc1 => ?_)
  · have hW := hW.1 hc1
    refine J.iload_n dX12_count_182 rfl rfl ?_
    exact J.reti dX12_count_183 rfl rfl hW
  · have hW := hW.2 hc1
    refine J.iload_n dX12_count_119 rfl rfl ?_
    refine J.iconst (v := 5) dX12_count_120 (by decide) ?_
    refine J.ic_ne 132 dX12_count_121 (by decide) (fun hc2 => ?_) (fun hc2 => ?_)
    · have hW := hW.2 hc2
      refine J.iload_n dX12_count_132 rfl rfl ?_
      refine J.bipush (v := 6) dX12_count_133 (by decide) ?_
      refine J.ic_ne 156 dX12_count_135 (by decide) (fun hc3 => ?_) (fun hc3 => ?_)
      · have hW := hW.2 hc3
        refine J.aload_n dX12_count_156 rfl rfl ?_
        refine J.iload_n dX12_count_157 rfl rfl ?_
        refine J.callV (M' := mX12_isLate) (index := 444) (bc := 0) (bs := 0) (bc' := 0) (bs' := 0) (st := []) [.int x3] ml_X12_444 cv_X12_isLate dX12_count_158 (lt83 hs) (kk83 hs) (by decide) rfl rfl rfl rfl (Nat.le_of_ble_eq_true rfl) (kqi hW (fun r5 I4 hW => ?_))
        refine J.istore (vs' := [some (.ref (eB E + 83)), some (.int x1), some (.int x2), some (.int x3), some (.int r5)]) dX12_count_161 (by decide) rfl ?_
        refine J.iload_n dX12_count_163 rfl rfl ?_
        refine J.iload dX12_count_164 rfl ?_
        have hj : J E mX12_count (d + 4) Q 0 0 174 [some (.ref (eB E + 83)), some (.int x1), some (.int x2), some (.int x3), some (.int r5)] [.int (bI (¬ (r5 = 0))), .int x2] h I4 L := by
          refine J.iadd dX12_count_174 ?_
          refine J.topi (fun y7 hyy7 => ?_)
          have hW := hW y7 hyy7
          refine J.istore_n (vs' := [some (.ref (eB E + 83)), some (.int x1), some (.int y7), some (.int x3), some (.int r5)]) dX12_count_175 rfl (by decide) rfl ?_
          refine J.iinc (v := x3 + 1) (vs' := [some (.ref (eB E + 83)), some (.int x1), some (.int y7), some (.int (x3 + 1)), some (.int r5)]) dX12_count_176 rfl (by rfl) (by decide) rfl ?_
          refine J.goto 109 dX12_count_179 (by decide) ?_
          exact J.mask [true, true, true, true, false] rfl hW
        refine J.if_eq 173 dX12_count_166 (by decide) (fun hc6 => ?_) (fun hc6 => ?_)
        · refine J.iconst (v := 0) dX12_count_173 (by decide) ?_
          rw [show bI (¬ (r5 = 0)) = 0 from bI_f (by simp only [eq_true hc6, and_true, true_and, and_false, false_and, or_true, true_or, or_false, false_or, not_true_eq_false, not_false_eq_true])] at hj
          exact hj
        · refine J.iconst (v := 1) dX12_count_169 (by decide) ?_
          refine J.goto 174 dX12_count_170 (by decide) ?_
          rw [show bI (¬ (r5 = 0)) = 1 from bI_t (by simp only [eq_false hc6, and_true, true_and, and_false, false_and, or_true, true_or, or_false, false_or, not_true_eq_false, not_false_eq_true])] at hj
          exact hj
      · have hW := hW.1 hc3
        refine J.aload_n dX12_count_138 rfl rfl ?_
        refine J.getR (r := 109) fl_X12_87 rfl dX12_count_139 (lt83 hs) (kk83 hs) (rr83_26 hs) ?_
        refine J.iload_n dX12_count_142 rfl rfl ?_
        obtain ⟨hb8, hW⟩ := hW
        refine J.iald (x := I 109 x3.toNatClampNeg) dX12_count_143 (lt109 hs) (kk109 hs) hb8 rfl ?_
        refine J.iconst (v := 2) dX12_count_144 (by decide) ?_
        have hj : J E mX12_count (d + 4) Q 0 0 161 [some (.ref (eB E + 83)), some (.int x1), some (.int x2), some (.int x3), none] [.int (bI ((I 109 x3.toNatClampNeg) = 2))] h I L := by
          refine J.istore (vs' := [some (.ref (eB E + 83)), some (.int x1), some (.int x2), some (.int x3), some (.int (bI ((I 109 x3.toNatClampNeg) = 2)))]) dX12_count_161 (by decide) rfl ?_
          refine J.iload_n dX12_count_163 rfl rfl ?_
          refine J.iload dX12_count_164 rfl ?_
          obtain ⟨y11, hyy11⟩ : ∃ y11 : Int32, y11 = (bI ((I 109 x3.toNatClampNeg) = 2)) := ⟨_, rfl⟩
          have hW := hW y11 hyy11
          have hj : J E mX12_count (d + 4) Q 0 0 174 [some (.ref (eB E + 83)), some (.int x1), some (.int x2), some (.int x3), some (.int (bI ((I 109 x3.toNatClampNeg) = 2)))] [.int y11, .int x2] h I L := by
            refine J.iadd dX12_count_174 ?_
            refine J.istore_n (vs' := [some (.ref (eB E + 83)), some (.int x1), some (.int (x2 + y11)), some (.int x3), some (.int (bI ((I 109 x3.toNatClampNeg) = 2)))]) dX12_count_175 rfl (by decide) rfl ?_
            refine J.iinc (v := x3 + 1) (vs' := [some (.ref (eB E + 83)), some (.int x1), some (.int (x2 + y11)), some (.int (x3 + 1)), some (.int (bI ((I 109 x3.toNatClampNeg) = 2)))]) dX12_count_176 rfl (by rfl) (by decide) rfl ?_
            refine J.goto 109 dX12_count_179 (by decide) ?_
            exact J.mask [true, true, true, true, false] rfl hW
          refine J.if_eq 173 dX12_count_166 (by decide) (fun hc10 => ?_) (fun hc10 => ?_)
          · have hc10 := bI_0.mp hc10
            refine J.iconst (v := 0) dX12_count_173 (by decide) ?_
            rw [show y11 = 0 from by simp only [hyy11, eq_false hc10, if_true, if_false, bI_true, bI_false, and_true, true_and, and_false, false_and, or_true, true_or, or_false, false_or, not_true_eq_false, not_false_eq_true]] at hj
            exact hj
          · have hc10 := bI_n0.mp hc10
            refine J.iconst (v := 1) dX12_count_169 (by decide) ?_
            refine J.goto 174 dX12_count_170 (by decide) ?_
            rw [show y11 = 1 from by simp only [hyy11, eq_true hc10, if_true, if_false, bI_true, bI_false, and_true, true_and, and_false, false_and, or_true, true_or, or_false, false_or, not_true_eq_false, not_false_eq_true]] at hj
            exact hj
        refine J.ic_ne 152 dX12_count_145 (by decide) (fun hc9 => ?_) (fun hc9 => ?_)
        · refine J.iconst (v := 0) dX12_count_152 (by decide) ?_
          refine J.goto 161 dX12_count_153 (by decide) ?_
          rw [show bI ((I 109 x3.toNatClampNeg) = 2) = 0 from bI_f (by simp only [eq_false hc9, and_true, true_and, and_false, false_and, or_true, true_or, or_false, false_or, not_true_eq_false, not_false_eq_true])] at hj
          exact hj
        · refine J.iconst (v := 1) dX12_count_148 (by decide) ?_
          refine J.goto 161 dX12_count_149 (by decide) ?_
          rw [show bI ((I 109 x3.toNatClampNeg) = 2) = 1 from bI_t (by simp only [eq_true hc9, and_true, true_and, and_false, false_and, or_true, true_or, or_false, false_or, not_true_eq_false, not_false_eq_true])] at hj
          exact hj
    · have hW := hW.1 hc2
      refine J.aload_n dX12_count_124 rfl rfl ?_
      refine J.iload_n dX12_count_125 rfl rfl ?_
      obtain ⟨hb12, hW⟩ := hW
      refine J.callV (M' := mX12_isOpen) (index := 272) (bc := 0) (bs := 0) (bc' := 0) (bs' := 0) (st := []) [.int x3] ml_X12_272 cv_X12_isOpen dX12_count_126 (lt83 hs) (kk83 hs) (by decide) rfl rfl rfl rfl (Nat.le_of_ble_eq_true rfl) (kqi (w_X12_isOpen (d := d + 3) (Q := qi h L (fun v I' => I' = I ∧ v = bI (((I 109 x3.toNatClampNeg) = 0) ∨ ((I 109 x3.toNatClampNeg) = 1)))) hs x3 ⟨hb12, rfl, rfl, _, rfl, rfl, rfl⟩) (fun v13 I14 hv => ?_))
      rw [hv.1, hv.2]
      refine J.goto 161 dX12_count_129 (by decide) ?_
      refine J.istore (vs' := [some (.ref (eB E + 83)), some (.int x1), some (.int x2), some (.int x3), some (.int (bI (((I 109 x3.toNatClampNeg) = 0) ∨ ((I 109 x3.toNatClampNeg) = 1))))]) dX12_count_161 (by decide) rfl ?_
      refine J.iload_n dX12_count_163 rfl rfl ?_
      refine J.iload dX12_count_164 rfl ?_
      obtain ⟨y16, hyy16⟩ : ∃ y16 : Int32, y16 = (bI (((I 109 x3.toNatClampNeg) = 0) ∨ ((I 109 x3.toNatClampNeg) = 1))) := ⟨_, rfl⟩
      have hW := hW y16 hyy16
      have hj : J E mX12_count (d + 4) Q 0 0 174 [some (.ref (eB E + 83)), some (.int x1), some (.int x2), some (.int x3), some (.int (bI (((I 109 x3.toNatClampNeg) = 0) ∨ ((I 109 x3.toNatClampNeg) = 1))))] [.int y16, .int x2] h I L := by
        refine J.iadd dX12_count_174 ?_
        refine J.istore_n (vs' := [some (.ref (eB E + 83)), some (.int x1), some (.int (x2 + y16)), some (.int x3), some (.int (bI (((I 109 x3.toNatClampNeg) = 0) ∨ ((I 109 x3.toNatClampNeg) = 1))))]) dX12_count_175 rfl (by decide) rfl ?_
        refine J.iinc (v := x3 + 1) (vs' := [some (.ref (eB E + 83)), some (.int x1), some (.int (x2 + y16)), some (.int (x3 + 1)), some (.int (bI (((I 109 x3.toNatClampNeg) = 0) ∨ ((I 109 x3.toNatClampNeg) = 1))))]) dX12_count_176 rfl (by rfl) (by decide) rfl ?_
        refine J.goto 109 dX12_count_179 (by decide) ?_
        exact J.mask [true, true, true, true, false] rfl hW
      refine J.if_eq 173 dX12_count_166 (by decide) (fun hc15 => ?_) (fun hc15 => ?_)
      · have hc15 := bI_0.mp hc15
        refine J.iconst (v := 0) dX12_count_173 (by decide) ?_
        rw [show y16 = 0 from by simp only [hyy16, eq_false hc15, if_true, if_false, bI_true, bI_false, and_true, true_and, and_false, false_and, or_true, true_or, or_false, false_or, not_true_eq_false, not_false_eq_true]] at hj
        exact hj
      · have hc15 := bI_n0.mp hc15
        refine J.iconst (v := 1) dX12_count_169 (by decide) ?_
        refine J.goto 174 dX12_count_170 (by decide) ?_
        rw [show y16 = 1 from by simp only [hyy16, eq_true hc15, if_true, if_false, bI_true, bI_false, and_true, true_and, and_false, false_and, or_true, true_or, or_false, false_or, not_true_eq_false, not_false_eq_true]] at hj
        exact hj
set_option maxRecDepth 100000 in
set_option maxHeartbeats 4000000 in
theorem w_X12_count_186 {E : Envt} {d : Nat} {Q : Pst} {h : mS} {I : mI} {L : mL} (hs : SL h)    (x1 : Int32) (x2 : Int32) (x3 : Int32)
    (hW : ((((I 90 0) ≤ x3) → Q (some (.int x2)) h I L) ∧ (¬ ((I 90 0) ≤ x3) → J E mX12_count (d + 4) Q 0 0 199 [some (.ref (eB E + 83)), some (.int x1), some (.int x2), some (.int x3), some (.int 0)] [] h I L))) :
    J E mX12_count (d + 4) Q 0 0 186 [some (.ref (eB E + 83)), some (.int x1), some (.int x2), some (.int x3), none] [] h I L := by
  refine J.iload_n dX12_count_186 rfl rfl ?_
  refine J.aload_n dX12_count_187 rfl rfl ?_
  refine J.getR (r := 90) fl_X12_29 rfl dX12_count_188 (lt83 hs) (kk83 hs) (rr83_7 hs) ?_
  refine J.iconst (v := 0) dX12_count_191 (by decide) ?_
  refine J.iald (x := I 90 0) dX12_count_192 (lt90 hs) (kk90 hs) (by unfold vp_in; decide) rfl ?_
  refine J.ic_ge 235 dX12_count_193 (by decide) (fun hc1 => ?_) (fun hc1 => ?_)
  · have hW := hW.1 hc1
    refine J.iload_n dX12_count_235 rfl rfl ?_
    exact J.reti dX12_count_236 rfl rfl hW
  · have hW := hW.2 hc1
    refine J.iconst (v := 0) dX12_count_196 (by decide) ?_
    refine J.istore (vs' := [some (.ref (eB E + 83)), some (.int x1), some (.int x2), some (.int x3), some (.int 0)]) dX12_count_197 (by decide) rfl ?_
    exact hW
set_option maxRecDepth 100000 in
set_option maxHeartbeats 4000000 in
theorem w_X12_count_199 {E : Envt} {d : Nat} {Q : Pst} {h : mS} {I : mI} {L : mL} (hs : SL h)    (x1 : Int32) (x2 : Int32) (x3 : Int32) (x4 : Int32)
    (hW : (((x3 ≤ x4) → J E mX12_count (d + 4) Q 0 0 186 [some (.ref (eB E + 83)), some (.int x1), some (.int x2), some (.int (x3 + 1)), none] [] h I L) ∧ (¬ (x3 ≤ x4) → ((vp_in x3 32) ∧ (∀ y6 : Int32, y6 = x2 + (bI (¬ ((((I 94 x3.toNatClampNeg) >>> (x4 &&& 31)) &&& 1) = 0))) → J E mX12_count (d + 4) Q 0 0 199 [some (.ref (eB E + 83)), some (.int x1), some (.int y6), some (.int x3), some (.int (x4 + 1))] [] h I L))))) :
    J E mX12_count (d + 4) Q 0 0 199 [some (.ref (eB E + 83)), some (.int x1), some (.int x2), some (.int x3), some (.int x4)] [] h I L := by
  refine J.iload dX12_count_199 rfl ?_
  refine J.iload_n dX12_count_201 rfl rfl ?_
  refine J.ic_ge 229 dX12_count_202 (by decide) (fun hc1 => ?_) (fun hc1 => ?_)
  · have hW := hW.1 hc1
    refine J.iinc (v := x3 + 1) (vs' := [some (.ref (eB E + 83)), some (.int x1), some (.int x2), some (.int (x3 + 1)), some (.int x4)]) dX12_count_229 rfl (by rfl) (by decide) rfl ?_
    refine J.goto 186 dX12_count_232 (by decide) ?_
    exact J.mask [true, true, true, true, false] rfl hW
  · have hW := hW.2 hc1
    refine J.iload_n dX12_count_205 rfl rfl ?_
    refine J.aload_n dX12_count_206 rfl rfl ?_
    refine J.iload_n dX12_count_207 rfl rfl ?_
    refine J.iload dX12_count_208 rfl ?_
    obtain ⟨hb2, hW⟩ := hW
    refine J.callV (M' := mX12_areFeuding) (index := 233) (bc := 0) (bs := 0) (bc' := 0) (bs' := 0) (st := [.int x2]) [.int x3, .int x4] ml_X12_233 cv_X12_areFeuding dX12_count_210 (lt83 hs) (kk83 hs) (by decide) rfl rfl rfl rfl (Nat.le_of_ble_eq_true rfl) (kqi (w_X12_areFeuding (d := d + 3) (Q := qi h L (fun v I' => I' = I ∧ v = bI (¬ ((((I 94 x3.toNatClampNeg) >>> (x4 &&& 31)) &&& 1) = 0)))) hs x3 x4 ⟨hb2, rfl, rfl, _, rfl, rfl, rfl⟩) (fun v3 I4 hv => ?_))
    rw [hv.1, hv.2]
    have hj : J E mX12_count (d + 4) Q 0 0 221 [some (.ref (eB E + 83)), some (.int x1), some (.int x2), some (.int x3), some (.int x4)] [.int (bI (¬ ((((I 94 x3.toNatClampNeg) >>> (x4 &&& 31)) &&& 1) = 0))), .int x2] h I L := by
      refine J.iadd dX12_count_221 ?_
      refine J.topi (fun y6 hyy6 => ?_)
      have hW := hW y6 hyy6
      refine J.istore_n (vs' := [some (.ref (eB E + 83)), some (.int x1), some (.int y6), some (.int x3), some (.int x4)]) dX12_count_222 rfl (by decide) rfl ?_
      refine J.iinc (v := x4 + 1) (vs' := [some (.ref (eB E + 83)), some (.int x1), some (.int y6), some (.int x3), some (.int (x4 + 1))]) dX12_count_223 rfl (by rfl) (by decide) rfl ?_
      refine J.goto 199 dX12_count_226 (by decide) ?_
      exact hW
    refine J.if_eq 220 dX12_count_213 (by decide) (fun hc5 => ?_) (fun hc5 => ?_)
    · have hc5 := bI_0.mp hc5
      refine J.iconst (v := 0) dX12_count_220 (by decide) ?_
      rw [show bI (¬ ((((I 94 x3.toNatClampNeg) >>> (x4 &&& 31)) &&& 1) = 0)) = 0 from bI_f (by simp only [eq_false hc5, and_true, true_and, and_false, false_and, or_true, true_or, or_false, false_or, not_true_eq_false, not_false_eq_true])] at hj
      exact hj
    · have hc5 := bI_n0.mp hc5
      refine J.iconst (v := 1) dX12_count_216 (by decide) ?_
      refine J.goto 221 dX12_count_217 (by decide) ?_
      rw [show bI (¬ ((((I 94 x3.toNatClampNeg) >>> (x4 &&& 31)) &&& 1) = 0)) = 1 from bI_t (by simp only [eq_true hc5, and_true, true_and, and_false, false_and, or_true, true_or, or_false, false_or, not_true_eq_false, not_false_eq_true])] at hj
      exact hj
set_option maxRecDepth 100000 in
set_option maxHeartbeats 4000000 in
theorem w_X12_count_239 {E : Envt} {d : Nat} {Q : Pst} {h : mS} {I : mI} {L : mL} (hs : SL h)    (x1 : Int32) (x2 : Int32) (x3 : Int32)
    (hW : ((((I 90 0) ≤ x3) → Q (some (.int x2)) h I L) ∧ (¬ ((I 90 0) ≤ x3) → (vp_in x3 32 ∧ (∀ y3 : Int32, y3 = x2 + (I 93 x3.toNatClampNeg) → J E mX12_count (d + 4) Q 0 0 239 [some (.ref (eB E + 83)), some (.int x1), some (.int y3), some (.int (x3 + 1)), none] [] h I L))))) :
    J E mX12_count (d + 4) Q 0 0 239 [some (.ref (eB E + 83)), some (.int x1), some (.int x2), some (.int x3), none] [] h I L := by
  refine J.iload_n dX12_count_239 rfl rfl ?_
  refine J.aload_n dX12_count_240 rfl rfl ?_
  refine J.getR (r := 90) fl_X12_29 rfl dX12_count_241 (lt83 hs) (kk83 hs) (rr83_7 hs) ?_
  refine J.iconst (v := 0) dX12_count_244 (by decide) ?_
  refine J.iald (x := I 90 0) dX12_count_245 (lt90 hs) (kk90 hs) (by unfold vp_in; decide) rfl ?_
  refine J.ic_ge 264 dX12_count_246 (by decide) (fun hc1 => ?_) (fun hc1 => ?_)
  · have hW := hW.1 hc1
    refine J.iload_n dX12_count_264 rfl rfl ?_
    exact J.reti dX12_count_265 rfl rfl hW
  · have hW := hW.2 hc1
    refine J.iload_n dX12_count_249 rfl rfl ?_
    refine J.aload_n dX12_count_250 rfl rfl ?_
    refine J.getR (r := 93) fl_X12_38 rfl dX12_count_251 (lt83 hs) (kk83 hs) (rr83_10 hs) ?_
    refine J.iload_n dX12_count_254 rfl rfl ?_
    obtain ⟨hb2, hW⟩ := hW
    refine J.iald (x := I 93 x3.toNatClampNeg) dX12_count_255 (lt93 hs) (kk93 hs) hb2 rfl ?_
    refine J.iadd dX12_count_256 ?_
    refine J.topi (fun y3 hyy3 => ?_)
    have hW := hW y3 hyy3
    refine J.istore_n (vs' := [some (.ref (eB E + 83)), some (.int x1), some (.int y3), some (.int x3), none]) dX12_count_257 rfl (by decide) rfl ?_
    refine J.iinc (v := x3 + 1) (vs' := [some (.ref (eB E + 83)), some (.int x1), some (.int y3), some (.int (x3 + 1)), none]) dX12_count_258 rfl (by rfl) (by decide) rfl ?_
    refine J.goto 239 dX12_count_261 (by decide) ?_
    exact hW
set_option maxRecDepth 100000 in
set_option maxHeartbeats 4000000 in
theorem w_X12_count_268 {E : Envt} {d : Nat} {Q : Pst} {h : mS} {I : mI} {L : mL} (hs : SL h)    (x1 : Int32) (x2 : Int32) (x3 : Int32)
    (hW : ((((I 95 0) ≤ x3) → Q (some (.int x2)) h I L) ∧ (¬ ((I 95 0) ≤ x3) → (vp_in x3 80 ∧ ((((I 97 x3.toNatClampNeg) = (x1 - 9)) → (CT E mX12_isFree (d + 3) 0 0 [.ref (eB E + 83), .int x3] h I L (qi h L fun r5 I4 => (∀ y7 : Int32, y7 = x2 + (bI (¬ (r5 = 0))) → J E mX12_count (d + 4) Q 0 0 268 [some (.ref (eB E + 83)), some (.int x1), some (.int y7), some (.int (x3 + 1)), none] [] h I4 L)))) ∧ (¬ ((I 97 x3.toNatClampNeg) = (x1 - 9)) → J E mX12_count (d + 4) Q 0 0 268 [some (.ref (eB E + 83)), some (.int x1), some (.int (x2 + 0)), some (.int (x3 + 1)), none] [] h I L)))))) :
    J E mX12_count (d + 4) Q 0 0 268 [some (.ref (eB E + 83)), some (.int x1), some (.int x2), some (.int x3), none] [] h I L := by
  refine J.iload_n dX12_count_268 rfl rfl ?_
  refine J.aload_n dX12_count_269 rfl rfl ?_
  refine J.getR (r := 95) fl_X12_44 rfl dX12_count_270 (lt83 hs) (kk83 hs) (rr83_12 hs) ?_
  refine J.iconst (v := 0) dX12_count_273 (by decide) ?_
  refine J.iald (x := I 95 0) dX12_count_274 (lt95 hs) (kk95 hs) (by unfold vp_in; decide) rfl ?_
  refine J.ic_ge 313 dX12_count_275 (by decide) (fun hc1 => ?_) (fun hc1 => ?_)
  · have hW := hW.1 hc1
    refine J.iload_n dX12_count_313 rfl rfl ?_
    exact J.reti dX12_count_314 rfl rfl hW
  · have hW := hW.2 hc1
    refine J.iload_n dX12_count_278 rfl rfl ?_
    refine J.aload_n dX12_count_279 rfl rfl ?_
    refine J.getR (r := 97) fl_X12_50 rfl dX12_count_280 (lt83 hs) (kk83 hs) (rr83_14 hs) ?_
    refine J.iload_n dX12_count_283 rfl rfl ?_
    obtain ⟨hb2, hW⟩ := hW
    refine J.iald (x := I 97 x3.toNatClampNeg) dX12_count_284 (lt97 hs) (kk97 hs) hb2 rfl ?_
    refine J.iload_n dX12_count_285 rfl rfl ?_
    refine J.bipush (v := 9) dX12_count_286 (by decide) ?_
    refine J.isub dX12_count_288 ?_
    refine J.ic_ne 304 dX12_count_289 (by decide) (fun hc3 => ?_) (fun hc3 => ?_)
    · have hW := hW.2 hc3
      refine J.iconst (v := 0) dX12_count_304 (by decide) ?_
      refine J.iadd dX12_count_305 ?_
      refine J.istore_n (vs' := [some (.ref (eB E + 83)), some (.int x1), some (.int (x2 + 0)), some (.int x3), none]) dX12_count_306 rfl (by decide) rfl ?_
      refine J.iinc (v := x3 + 1) (vs' := [some (.ref (eB E + 83)), some (.int x1), some (.int (x2 + 0)), some (.int (x3 + 1)), none]) dX12_count_307 rfl (by rfl) (by decide) rfl ?_
      refine J.goto 268 dX12_count_310 (by decide) ?_
      exact hW
    · have hW := hW.1 hc3
      refine J.aload_n dX12_count_292 rfl rfl ?_
      refine J.iload_n dX12_count_293 rfl rfl ?_
      refine J.callV (M' := mX12_isFree) (index := 278) (bc := 0) (bs := 0) (bc' := 0) (bs' := 0) (st := [.int x2]) [.int x3] ml_X12_278 cv_X12_isFree dX12_count_294 (lt83 hs) (kk83 hs) (by decide) rfl rfl rfl rfl (Nat.le_of_ble_eq_true rfl) (kqi hW (fun r5 I4 hW => ?_))
      have hj : J E mX12_count (d + 4) Q 0 0 305 [some (.ref (eB E + 83)), some (.int x1), some (.int x2), some (.int x3), none] [.int (bI (¬ (r5 = 0))), .int x2] h I4 L := by
        refine J.iadd dX12_count_305 ?_
        refine J.topi (fun y7 hyy7 => ?_)
        have hW := hW y7 hyy7
        refine J.istore_n (vs' := [some (.ref (eB E + 83)), some (.int x1), some (.int y7), some (.int x3), none]) dX12_count_306 rfl (by decide) rfl ?_
        refine J.iinc (v := x3 + 1) (vs' := [some (.ref (eB E + 83)), some (.int x1), some (.int y7), some (.int (x3 + 1)), none]) dX12_count_307 rfl (by rfl) (by decide) rfl ?_
        refine J.goto 268 dX12_count_310 (by decide) ?_
        exact hW
      refine J.if_eq 304 dX12_count_297 (by decide) (fun hc6 => ?_) (fun hc6 => ?_)
      · refine J.iconst (v := 0) dX12_count_304 (by decide) ?_
        rw [show bI (¬ (r5 = 0)) = 0 from bI_f (by simp only [eq_true hc6, and_true, true_and, and_false, false_and, or_true, true_or, or_false, false_or, not_true_eq_false, not_false_eq_true])] at hj
        exact hj
      · refine J.iconst (v := 1) dX12_count_300 (by decide) ?_
        refine J.goto 305 dX12_count_301 (by decide) ?_
        rw [show bI (¬ (r5 = 0)) = 1 from bI_t (by simp only [eq_false hc6, and_true, true_and, and_false, false_and, or_true, true_or, or_false, false_or, not_true_eq_false, not_false_eq_true])] at hj
        exact hj
