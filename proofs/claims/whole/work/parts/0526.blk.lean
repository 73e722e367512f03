set_option maxRecDepth 100000 in
set_option maxHeartbeats 4000000 in
theorem w_X12_withWhom {E : Envt} {d : Nat} {Q : Pst} {h : mS} {I : mI} {L : mL} (hs : SL h) (x1 : Int32) 
    (hW : J E mX12_withWhom d Q 0 0 2 [some (.ref (eB E + 83)), some (.int x1), some (.int 0)] [] h I L) :
    CT E mX12_withWhom d 0 0 [.ref (eB E + 83), .int x1] h I L Q := by
  refine CT.of (by decide) [some (.ref (eB E + 83)), some (.int x1), none] rfl (Nat.le_of_ble_eq_true rfl) ?_
  refine J.iconst (v := 0) dX12_withWhom_0 (by decide) ?_
  refine J.istore_n (vs' := [some (.ref (eB E + 83)), some (.int x1), some (.int 0)]) dX12_withWhom_1 rfl (by decide) rfl ?_
  exact hW
set_option maxRecDepth 100000 in
set_option maxHeartbeats 4000000 in
theorem w_X12_withWhom_2 {E : Envt} {d : Nat} {Q : Pst} {h : mS} {I : mI} {L : mL} (hs : SL h)    (x1 : Int32) (x2 : Int32)
    (hW : ((((I 134 0) ≤ x2) → Q (some (.int (-1))) h I L) ∧ (¬ ((I 134 0) ≤ x2) → (vp_in x2 8 ∧ ((((I 139 x2.toNatClampNeg) = (-1)) → J E mX12_withWhom d Q 0 0 44 [some (.ref (eB E + 83)), some (.int x1), some (.int x2)] [] h I L) ∧ (¬ ((I 139 x2.toNatClampNeg) = (-1)) → ((((I 135 x2.toNatClampNeg) = x1) → (vp_in (I 139 x2.toNatClampNeg) 8 ∧ Q (some (.int (I 136 ((I 139 x2.toNatClampNeg).toNatClampNeg)))) h I L)) ∧ (¬ ((I 135 x2.toNatClampNeg) = x1) → J E mX12_withWhom d Q 0 0 44 [some (.ref (eB E + 83)), some (.int x1), some (.int x2)] [] h I L)))))))) :
    J E mX12_withWhom d Q 0 0 2 [some (.ref (eB E + 83)), some (.int x1), some (.int x2)] [] h I L := by
  refine J.iload_n dX12_withWhom_2 rfl rfl ?_
  refine J.aload_n dX12_withWhom_3 rfl rfl ?_
  refine J.getR (r := 134) fl_X12_162 rfl dX12_withWhom_4 (lt83 hs) (kk83 hs) (rr83_68 hs) ?_
  refine J.iconst (v := 0) dX12_withWhom_7 (by decide) ?_
  refine J.iald (x := I 134 0) dX12_withWhom_8 (lt134 hs) (kk134 hs) (by unfold vp_in; decide) rfl ?_
  refine J.ic_ge 82 dX12_withWhom_9 (by decide) (fun hc1 => ?_) (fun hc1 => ?_)
  · have hW := hW.1 hc1
    refine J.iconst (v := (-1)) dX12_withWhom_82 (by decide) ?_
    exact J.reti dX12_withWhom_83 rfl rfl hW
  · have hW := hW.2 hc1
    refine J.aload_n dX12_withWhom_12 rfl rfl ?_
    refine J.getR (r := 139) fl_X12_178 rfl dX12_withWhom_13 (lt83 hs) (kk83 hs) (rr83_73 hs) ?_
    refine J.iload_n dX12_withWhom_16 rfl rfl ?_
    obtain ⟨hb2, hW⟩ := hW
    refine J.iald (x := I 139 x2.toNatClampNeg) dX12_withWhom_17 (lt139 hs) (kk139 hs) hb2 rfl ?_
    refine J.iconst (v := (-1)) dX12_withWhom_18 (by decide) ?_
    refine J.ic_eq 44 dX12_withWhom_19 (by decide) (fun hc3 => ?_) (fun hc3 => ?_)
    · have hW := hW.1 hc3
      exact hW
    · have hW := hW.2 hc3
      refine J.aload_n dX12_withWhom_22 rfl rfl ?_
      refine J.getR (r := 135) fl_X12_165 rfl dX12_withWhom_23 (lt83 hs) (kk83 hs) (rr83_69 hs) ?_
      refine J.iload_n dX12_withWhom_26 rfl rfl ?_
      refine J.iald (x := I 135 x2.toNatClampNeg) dX12_withWhom_27 (lt135 hs) (kk135 hs) hb2 rfl ?_
      refine J.iload_n dX12_withWhom_28 rfl rfl ?_
      refine J.ic_ne 44 dX12_withWhom_29 (by decide) (fun hc4 => ?_) (fun hc4 => ?_)
      · have hW := hW.2 hc4
        exact hW
      · have hW := hW.1 hc4
        refine J.aload_n dX12_withWhom_32 rfl rfl ?_
        refine J.getR (r := 136) fl_X12_168 rfl dX12_withWhom_33 (lt83 hs) (kk83 hs) (rr83_70 hs) ?_
        refine J.aload_n dX12_withWhom_36 rfl rfl ?_
        refine J.getR (r := 139) fl_X12_178 rfl dX12_withWhom_37 (lt83 hs) (kk83 hs) (rr83_73 hs) ?_
        refine J.iload_n dX12_withWhom_40 rfl rfl ?_
        refine J.iald (x := I 139 x2.toNatClampNeg) dX12_withWhom_41 (lt139 hs) (kk139 hs) hb2 rfl ?_
        obtain ⟨hb5, hW⟩ := hW
        refine J.iald (x := I 136 ((I 139 x2.toNatClampNeg).toNatClampNeg)) dX12_withWhom_42 (lt136 hs) (kk136 hs) hb5 rfl ?_
        exact J.reti dX12_withWhom_43 rfl rfl hW
set_option maxRecDepth 100000 in
set_option maxHeartbeats 4000000 in
theorem w_X12_withWhom_44 {E : Envt} {d : Nat} {Q : Pst} {h : mS} {I : mI} {L : mL} (hs : SL h)    (x1 : Int32) (x2 : Int32)
    (hW : (vp_in x2 8 ∧ ((((I 139 x2.toNatClampNeg) = (-1)) → J E mX12_withWhom d Q 0 0 2 [some (.ref (eB E + 83)), some (.int x1), some (.int (x2 + 1))] [] h I L) ∧ (¬ ((I 139 x2.toNatClampNeg) = (-1)) → (vp_in (I 139 x2.toNatClampNeg) 8 ∧ ((((I 136 ((I 139 x2.toNatClampNeg).toNatClampNeg)) = x1) → Q (some (.int (I 135 x2.toNatClampNeg))) h I L) ∧ (¬ ((I 136 ((I 139 x2.toNatClampNeg).toNatClampNeg)) = x1) → J E mX12_withWhom d Q 0 0 2 [some (.ref (eB E + 83)), some (.int x1), some (.int (x2 + 1))] [] h I L))))))) :
    J E mX12_withWhom d Q 0 0 44 [some (.ref (eB E + 83)), some (.int x1), some (.int x2)] [] h I L := by
  refine J.aload_n dX12_withWhom_44 rfl rfl ?_
  refine J.getR (r := 139) fl_X12_178 rfl dX12_withWhom_45 (lt83 hs) (kk83 hs) (rr83_73 hs) ?_
  refine J.iload_n dX12_withWhom_48 rfl rfl ?_
  obtain ⟨hb1, hW⟩ := hW
  refine J.iald (x := I 139 x2.toNatClampNeg) dX12_withWhom_49 (lt139 hs) (kk139 hs) hb1 rfl ?_
  refine J.iconst (v := (-1)) dX12_withWhom_50 (by decide) ?_
  refine J.ic_eq 76 dX12_withWhom_51 (by decide) (fun hc2 => ?_) (fun hc2 => ?_)
  · have hW := hW.1 hc2
    refine J.iinc (v := x2 + 1) (vs' := [some (.ref (eB E + 83)), some (.int x1), some (.int (x2 + 1))]) dX12_withWhom_76 rfl (by rfl) (by decide) rfl ?_
    refine J.goto 2 dX12_withWhom_79 (by decide) ?_
    exact hW
  · have hW := hW.2 hc2
    refine J.aload_n dX12_withWhom_54 rfl rfl ?_
    refine J.getR (r := 136) fl_X12_168 rfl dX12_withWhom_55 (lt83 hs) (kk83 hs) (rr83_70 hs) ?_
    refine J.aload_n dX12_withWhom_58 rfl rfl ?_
    refine J.getR (r := 139) fl_X12_178 rfl dX12_withWhom_59 (lt83 hs) (kk83 hs) (rr83_73 hs) ?_
    refine J.iload_n dX12_withWhom_62 rfl rfl ?_
    refine J.iald (x := I 139 x2.toNatClampNeg) dX12_withWhom_63 (lt139 hs) (kk139 hs) hb1 rfl ?_
    obtain ⟨hb3, hW⟩ := hW
    refine J.iald (x := I 136 ((I 139 x2.toNatClampNeg).toNatClampNeg)) dX12_withWhom_64 (lt136 hs) (kk136 hs) hb3 rfl ?_
    refine J.iload_n dX12_withWhom_65 rfl rfl ?_
    refine J.ic_ne 76 dX12_withWhom_66 (by decide) (fun hc4 => ?_) (fun hc4 => ?_)
    · have hW := hW.2 hc4
      refine J.iinc (v := x2 + 1) (vs' := [some (.ref (eB E + 83)), some (.int x1), some (.int (x2 + 1))]) dX12_withWhom_76 rfl (by rfl) (by decide) rfl ?_
      refine J.goto 2 dX12_withWhom_79 (by decide) ?_
      exact hW
    · have hW := hW.1 hc4
      refine J.aload_n dX12_withWhom_69 rfl rfl ?_
      refine J.getR (r := 135) fl_X12_165 rfl dX12_withWhom_70 (lt83 hs) (kk83 hs) (rr83_69 hs) ?_
      refine J.iload_n dX12_withWhom_73 rfl rfl ?_
      refine J.iald (x := I 135 x2.toNatClampNeg) dX12_withWhom_74 (lt135 hs) (kk135 hs) hb1 rfl ?_
      exact J.reti dX12_withWhom_75 rfl rfl hW
set_option maxRecDepth 100000 in
set_option maxHeartbeats 4000000 in
theorem w_X12_bestFor {E : Envt} {d : Nat} {Q : Pst} {h : mS} {I : mI} {L : mL} (hs : SL h) (x1 : Int32) 
    (hW : (((¬ (x1 < 0) ∧ (¬ ((((uI I 83 0 0) 95 0) - 1) < x1))) → (CT E mX12_findBest (d + 6) 0 0 [.ref (eB E + 83)] h (uI I 83 0 0) L (qvL h fun I4 L5 => (CT E mX12_withWhom (d + 6) 0 0 [.ref (eB E + 83), .int x1] h I4 L5 (qi h L5 fun r7 I6 => Q (some (.int r7)) h I6 L5))))) ∧ (¬ (¬ (x1 < 0) ∧ (¬ ((((uI I 83 0 0) 95 0) - 1) < x1))) → Q (some (.int (-1))) h (uI I 83 0 0) L))) :
    CT E mX12_bestFor (d + 7) 0 0 [.ref (eB E + 83), .int x1] h I L Q := by
  refine CT.of (by decide) [some (.ref (eB E + 83)), some (.int x1)] rfl (Nat.le_of_ble_eq_true rfl) ?_
  refine J.aload_n dX12_bestFor_0 rfl rfl ?_
  refine J.iconst (v := 0) dX12_bestFor_1 (by decide) ?_
  refine J.putI fw_X12_202 rfl dX12_bestFor_2 (lt83 hs) (kk83 hs) ?_
  refine J.aload_n dX12_bestFor_5 rfl rfl ?_
  refine J.iload_n dX12_bestFor_6 rfl rfl ?_
  refine J.callV (M' := mX12_isPerson) (index := 222) (bc := 0) (bs := 0) (bc' := 0) (bs' := 0) (st := []) [.int x1] ml_X12_222 cv_X12_isPerson dX12_bestFor_7 (lt83 hs) (kk83 hs) (by decide) rfl rfl rfl rfl (Nat.le_of_ble_eq_true rfl) (kqi (w_X12_isPerson (d := d + 5) (Q := qi h L (fun v I' => I' = (uI I 83 0 0) ∧ v = bI (¬ (x1 < 0) ∧ (¬ ((((uI I 83 0 0) 95 0) - 1) < x1))))) hs x1 ⟨rfl, rfl, _, rfl, rfl, rfl⟩) (fun v1 I2 hv => ?_))
  rw [hv.1, hv.2]
  refine J.if_ne 15 dX12_bestFor_10 (by decide) (fun hc3 => ?_) (fun hc3 => ?_)
  · have hc3 := bI_n0.mp hc3
    have hW := hW.1 hc3
    refine J.aload_n dX12_bestFor_15 rfl rfl ?_
    refine J.callV (M' := mX12_findBest) (index := 463) (bc := 0) (bs := 0) (bc' := 0) (bs' := 0) (st := []) [] ml_X12_463 cv_X12_findBest dX12_bestFor_16 (lt83 hs) (kk83 hs) (by decide) rfl rfl rfl rfl (Nat.le_of_ble_eq_true rfl) (kqvL hW (fun I4 L5 hW => ?_))
    refine J.aload_n dX12_bestFor_19 rfl rfl ?_
    refine J.iload_n dX12_bestFor_20 rfl rfl ?_
    refine J.callV (M' := mX12_withWhom) (index := 466) (bc := 0) (bs := 0) (bc' := 0) (bs' := 0) (st := []) [.int x1] ml_X12_466 cv_X12_withWhom dX12_bestFor_21 (lt83 hs) (kk83 hs) (by decide) rfl rfl rfl rfl (Nat.le_of_ble_eq_true rfl) (kqi hW (fun r7 I6 hW => ?_))
    exact J.reti dX12_bestFor_24 rfl rfl hW
  · have hc3 := bI_0.mp hc3
    have hW := hW.2 hc3
    refine J.iconst (v := (-1)) dX12_bestFor_13 (by decide) ?_
    exact J.reti dX12_bestFor_14 rfl rfl hW
set_option maxRecDepth 100000 in
set_option maxHeartbeats 4000000 in
theorem w_X12_nextFor {E : Envt} {d : Nat} {Q : Pst} {h : mS} {I : mI} {L : mL} (hs : SL h) (x1 : Int32) 
    (hW : J E mX12_nextFor (d + 5) Q 0 0 7 [some (.ref (eB E + 83)), some (.int x1), some (.int (-1)), some (.int 0), some (.int 0), none] [] h I L) :
    CT E mX12_nextFor (d + 5) 0 0 [.ref (eB E + 83), .int x1] h I L Q := by
  refine CT.of (by decide) [some (.ref (eB E + 83)), some (.int x1), none, none, none, none] rfl (Nat.le_of_ble_eq_true rfl) ?_
  refine J.iconst (v := (-1)) dX12_nextFor_0 (by decide) ?_
  refine J.istore_n (vs' := [some (.ref (eB E + 83)), some (.int x1), some (.int (-1)), none, none, none]) dX12_nextFor_1 rfl (by decide) rfl ?_
  refine J.iconst (v := 0) dX12_nextFor_2 (by decide) ?_
  refine J.istore_n (vs' := [some (.ref (eB E + 83)), some (.int x1), some (.int (-1)), some (.int 0), none, none]) dX12_nextFor_3 rfl (by decide) rfl ?_
  refine J.iconst (v := 0) dX12_nextFor_4 (by decide) ?_
  refine J.istore (vs' := [some (.ref (eB E + 83)), some (.int x1), some (.int (-1)), some (.int 0), some (.int 0), none]) dX12_nextFor_5 (by decide) rfl ?_
  exact hW
set_option maxRecDepth 100000 in
set_option maxHeartbeats 4000000 in
theorem w_X12_nextFor_7 {E : Envt} {d : Nat} {Q : Pst} {h : mS} {I : mI} {L : mL} (hs : SL h)    (x1 : Int32) (x2 : Int32) (x3 : Int32) (x4 : Int32)
    (hW : ((((I 134 0) ≤ x4) → Q (some (.int x2)) h I L) ∧ (¬ ((I 134 0) ≤ x4) → (vp_in ((8 * x4) + x1) 64 ∧ ((((I 137 (((8 * x4) + x1).toNatClampNeg)) = (-1)) → J E mX12_nextFor (d + 5) Q 0 0 7 [some (.ref (eB E + 83)), some (.int x1), some (.int x2), some (.int x3), some (.int (x4 + 1)), none] [] h I L) ∧ (¬ ((I 137 (((8 * x4) + x1).toNatClampNeg)) = (-1)) → (vp_in x1 8 ∧ ((((((I 140 x1.toNatClampNeg) >>> (x4 &&& 31)) &&& 1) = 0) → (vp_in x4 8 ∧ (CT E mX12_likingOf (d + 4) 0 0 [.ref (eB E + 83), .int (I 136 x1.toNatClampNeg), .int (I 135 x4.toNatClampNeg)] h I L (qi h L fun r8 I7 => J E mX12_nextFor (d + 5) Q 0 0 7 [some (.ref (eB E + 83)), some (.int x1), some (.int (if x2 = (-1) then x4 else if r8 ≤ x3 then x2 else x4 : Int32)), some (.int (if x2 = (-1) then r8 else if r8 ≤ x3 then x3 else r8 : Int32)), some (.int (x4 + 1)), none] [] h I7 L)))) ∧ (¬ ((((I 140 x1.toNatClampNeg) >>> (x4 &&& 31)) &&& 1) = 0) → J E mX12_nextFor (d + 5) Q 0 0 7 [some (.ref (eB E + 83)), some (.int x1), some (.int x2), some (.int x3), some (.int (x4 + 1)), none] [] h I L))))))))) :
    J E mX12_nextFor (d + 5) Q 0 0 7 [some (.ref (eB E + 83)), some (.int x1), some (.int x2), some (.int x3), some (.int x4), none] [] h I L := by
  refine J.iload dX12_nextFor_7 rfl ?_
  refine J.aload_n dX12_nextFor_9 rfl rfl ?_
  refine J.getR (r := 134) fl_X12_162 rfl dX12_nextFor_10 (lt83 hs) (kk83 hs) (rr83_68 hs) ?_
  refine J.iconst (v := 0) dX12_nextFor_13 (by decide) ?_
  refine J.iald (x := I 134 0) dX12_nextFor_14 (lt134 hs) (kk134 hs) (by unfold vp_in; decide) rfl ?_
  refine J.ic_ge 90 dX12_nextFor_15 (by decide) (fun hc1 => ?_) (fun hc1 => ?_)
  · have hW := hW.1 hc1
    refine J.iload_n dX12_nextFor_90 rfl rfl ?_
    exact J.reti dX12_nextFor_91 rfl rfl hW
  · have hW := hW.2 hc1
    refine J.aload_n dX12_nextFor_18 rfl rfl ?_
    refine J.getR (r := 137) fl_X12_171 rfl dX12_nextFor_19 (lt83 hs) (kk83 hs) (rr83_71 hs) ?_
    refine J.bipush (v := 8) dX12_nextFor_22 (by decide) ?_
    refine J.iload dX12_nextFor_24 rfl ?_
    refine J.imul dX12_nextFor_26 ?_
    refine J.iload_n dX12_nextFor_27 rfl rfl ?_
    refine J.iadd dX12_nextFor_28 ?_
    obtain ⟨hb2, hW⟩ := hW
    refine J.iald (x := I 137 (((8 * x4) + x1).toNatClampNeg)) dX12_nextFor_29 (lt137 hs) (kk137 hs) hb2 rfl ?_
    refine J.iconst (v := (-1)) dX12_nextFor_30 (by decide) ?_
    refine J.ic_eq 84 dX12_nextFor_31 (by decide) (fun hc3 => ?_) (fun hc3 => ?_)
    · have hW := hW.1 hc3
      refine J.iinc (v := x4 + 1) (vs' := [some (.ref (eB E + 83)), some (.int x1), some (.int x2), some (.int x3), some (.int (x4 + 1)), none]) dX12_nextFor_84 rfl (by rfl) (by decide) rfl ?_
      refine J.goto 7 dX12_nextFor_87 (by decide) ?_
      exact hW
    · have hW := hW.2 hc3
      refine J.aload_n dX12_nextFor_34 rfl rfl ?_
      refine J.getR (r := 140) fl_X12_181 rfl dX12_nextFor_35 (lt83 hs) (kk83 hs) (rr83_74 hs) ?_
      refine J.iload_n dX12_nextFor_38 rfl rfl ?_
      obtain ⟨hb4, hW⟩ := hW
      refine J.iald (x := I 140 x1.toNatClampNeg) dX12_nextFor_39 (lt140 hs) (kk140 hs) hb4 rfl ?_
      refine J.iload dX12_nextFor_40 rfl ?_
      refine J.ishr dX12_nextFor_42 ?_
      refine J.iconst (v := 1) dX12_nextFor_43 (by decide) ?_
      refine J.iand dX12_nextFor_44 ?_
      refine J.if_ne 84 dX12_nextFor_45 (by decide) (fun hc5 => ?_) (fun hc5 => ?_)
      · have hW := hW.2 hc5
        refine J.iinc (v := x4 + 1) (vs' := [some (.ref (eB E + 83)), some (.int x1), some (.int x2), some (.int x3), some (.int (x4 + 1)), none]) dX12_nextFor_84 rfl (by rfl) (by decide) rfl ?_
        refine J.goto 7 dX12_nextFor_87 (by decide) ?_
        exact hW
      · have hW := hW.1 hc5
        refine J.aload_n dX12_nextFor_48 rfl rfl ?_
        refine J.aload_n dX12_nextFor_49 rfl rfl ?_
        refine J.getR (r := 136) fl_X12_168 rfl dX12_nextFor_50 (lt83 hs) (kk83 hs) (rr83_70 hs) ?_
        refine J.iload_n dX12_nextFor_53 rfl rfl ?_
        refine J.iald (x := I 136 x1.toNatClampNeg) dX12_nextFor_54 (lt136 hs) (kk136 hs) hb4 rfl ?_
        refine J.aload_n dX12_nextFor_55 rfl rfl ?_
        refine J.getR (r := 135) fl_X12_165 rfl dX12_nextFor_56 (lt83 hs) (kk83 hs) (rr83_69 hs) ?_
        refine J.iload dX12_nextFor_59 rfl ?_
        obtain ⟨hb6, hW⟩ := hW
        refine J.iald (x := I 135 x4.toNatClampNeg) dX12_nextFor_61 (lt135 hs) (kk135 hs) hb6 rfl ?_
        refine J.callV (M' := mX12_likingOf) (index := 429) (bc := 0) (bs := 0) (bc' := 0) (bs' := 0) (st := []) [.int (I 136 x1.toNatClampNeg), .int (I 135 x4.toNatClampNeg)] ml_X12_429 cv_X12_likingOf dX12_nextFor_62 (lt83 hs) (kk83 hs) (by decide) rfl rfl rfl rfl (Nat.le_of_ble_eq_true rfl) (kqi hW (fun r8 I7 hW => ?_))
        refine J.istore (vs' := [some (.ref (eB E + 83)), some (.int x1), some (.int x2), some (.int x3), some (.int x4), some (.int r8)]) dX12_nextFor_65 (by decide) rfl ?_
        refine J.iload_n dX12_nextFor_67 rfl rfl ?_
        refine J.iconst (v := (-1)) dX12_nextFor_68 (by decide) ?_
        have hj : J E mX12_nextFor (d + 5) Q 0 0 84 [some (.ref (eB E + 83)), some (.int x1), some (.int (if x2 = (-1) then x4 else if r8 ≤ x3 then x2 else x4 : Int32)), some (.int (if x2 = (-1) then r8 else if r8 ≤ x3 then x3 else r8 : Int32)), some (.int x4), some (.int r8)] [] h I7 L := by
          refine J.iinc (v := x4 + 1) (vs' := [some (.ref (eB E + 83)), some (.int x1), some (.int (if x2 = (-1) then x4 else if r8 ≤ x3 then x2 else x4 : Int32)), some (.int (if x2 = (-1) then r8 else if r8 ≤ x3 then x3 else r8 : Int32)), some (.int (x4 + 1)), some (.int r8)]) dX12_nextFor_84 rfl (by rfl) (by decide) rfl ?_
          refine J.goto 7 dX12_nextFor_87 (by decide) ?_
          exact J.mask [true, true, true, true, true, false] rfl hW
        refine J.ic_eq 78 dX12_nextFor_69 (by decide) (fun hc9 => ?_) (fun hc9 => ?_)
        · refine J.iload dX12_nextFor_78 rfl ?_
          refine J.istore_n (vs' := [some (.ref (eB E + 83)), some (.int x1), some (.int x4), some (.int x3), some (.int x4), some (.int r8)]) dX12_nextFor_80 rfl (by decide) rfl ?_
          refine J.iload dX12_nextFor_81 rfl ?_
          refine J.istore_n (vs' := [some (.ref (eB E + 83)), some (.int x1), some (.int x4), some (.int r8), some (.int x4), some (.int r8)]) dX12_nextFor_83 rfl (by decide) rfl ?_
          rw [show ((if x2 = (-1) then x4 else if r8 ≤ x3 then x2 else x4 : Int32) = x4) from by simp only [eq_true hc9, if_true, if_false, bI_true, bI_false, and_true, true_and, and_false, false_and, or_true, true_or, or_false, false_or, not_true_eq_false, not_false_eq_true]] at hj
          rw [show ((if x2 = (-1) then r8 else if r8 ≤ x3 then x3 else r8 : Int32) = r8) from by simp only [eq_true hc9, if_true, if_false, bI_true, bI_false, and_true, true_and, and_false, false_and, or_true, true_or, or_false, false_or, not_true_eq_false, not_false_eq_true]] at hj
          exact hj
        · refine J.iload dX12_nextFor_72 rfl ?_
          refine J.iload_n dX12_nextFor_74 rfl rfl ?_
          refine J.ic_le 84 dX12_nextFor_75 (by decide) (fun hc10 => ?_) (fun hc10 => ?_)
          · rw [show ((if x2 = (-1) then x4 else if r8 ≤ x3 then x2 else x4 : Int32) = x2) from by simp only [eq_false hc9, eq_true hc10, if_true, if_false, bI_true, bI_false, and_true, true_and, and_false, false_and, or_true, true_or, or_false, false_or, not_true_eq_false, not_false_eq_true]] at hj
            rw [show ((if x2 = (-1) then r8 else if r8 ≤ x3 then x3 else r8 : Int32) = x3) from by simp only [eq_false hc9, eq_true hc10, if_true, if_false, bI_true, bI_false, and_true, true_and, and_false, false_and, or_true, true_or, or_false, false_or, not_true_eq_false, not_false_eq_true]] at hj
            exact hj
          · refine J.iload dX12_nextFor_78 rfl ?_
            refine J.istore_n (vs' := [some (.ref (eB E + 83)), some (.int x1), some (.int x4), some (.int x3), some (.int x4), some (.int r8)]) dX12_nextFor_80 rfl (by decide) rfl ?_
            refine J.iload dX12_nextFor_81 rfl ?_
            refine J.istore_n (vs' := [some (.ref (eB E + 83)), some (.int x1), some (.int x4), some (.int r8), some (.int x4), some (.int r8)]) dX12_nextFor_83 rfl (by decide) rfl ?_
            rw [show ((if x2 = (-1) then x4 else if r8 ≤ x3 then x2 else x4 : Int32) = x4) from by simp only [eq_false hc9, eq_false hc10, if_true, if_false, bI_true, bI_false, and_true, true_and, and_false, false_and, or_true, true_or, or_false, false_or, not_true_eq_false, not_false_eq_true]] at hj
            rw [show ((if x2 = (-1) then r8 else if r8 ≤ x3 then x3 else r8 : Int32) = r8) from by simp only [eq_false hc9, eq_false hc10, if_true, if_false, bI_true, bI_false, and_true, true_and, and_false, false_and, or_true, true_or, or_false, false_or, not_true_eq_false, not_false_eq_true]] at hj
            exact hj
set_option maxRecDepth 100000 in
set_option maxHeartbeats 4000000 in
theorem w_X12_isTaken {E : Envt} {d : Nat} {Q : Pst} {h : mS} {I : mI} {L : mL} (hs : SL h) (x1 : Int32) 
    (hW : J E mX12_isTaken d Q 0 0 2 [some (.ref (eB E + 83)), some (.int x1), some (.int 0)] [] h I L) :
    CT E mX12_isTaken d 0 0 [.ref (eB E + 83), .int x1] h I L Q := by
  refine CT.of (by decide) [some (.ref (eB E + 83)), some (.int x1), none] rfl (Nat.le_of_ble_eq_true rfl) ?_
  refine J.iconst (v := 0) dX12_isTaken_0 (by decide) ?_
  refine J.istore_n (vs' := [some (.ref (eB E + 83)), some (.int x1), some (.int 0)]) dX12_isTaken_1 rfl (by decide) rfl ?_
  exact hW
set_option maxRecDepth 100000 in
set_option maxHeartbeats 4000000 in
theorem w_X12_isTaken_2 {E : Envt} {d : Nat} {Q : Pst} {h : mS} {I : mI} {L : mL} (hs : SL h)    (x1 : Int32) (x2 : Int32)
    (hW : ((((I 134 0) ≤ x2) → Q (some (.int 0)) h I L) ∧ (¬ ((I 134 0) ≤ x2) → (vp_in x2 8 ∧ ((((I 139 x2.toNatClampNeg) = x1) → Q (some (.int 1)) h I L) ∧ (¬ ((I 139 x2.toNatClampNeg) = x1) → J E mX12_isTaken d Q 0 0 2 [some (.ref (eB E + 83)), some (.int x1), some (.int (x2 + 1))] [] h I L)))))) :
    J E mX12_isTaken d Q 0 0 2 [some (.ref (eB E + 83)), some (.int x1), some (.int x2)] [] h I L := by
  refine J.iload_n dX12_isTaken_2 rfl rfl ?_
  refine J.aload_n dX12_isTaken_3 rfl rfl ?_
  refine J.getR (r := 134) fl_X12_162 rfl dX12_isTaken_4 (lt83 hs) (kk83 hs) (rr83_68 hs) ?_
  refine J.iconst (v := 0) dX12_isTaken_7 (by decide) ?_
  refine J.iald (x := I 134 0) dX12_isTaken_8 (lt134 hs) (kk134 hs) (by unfold vp_in; decide) rfl ?_
  refine J.ic_ge 30 dX12_isTaken_9 (by decide) (fun hc1 => ?_) (fun hc1 => ?_)
  · have hW := hW.1 hc1
    refine J.iconst (v := 0) dX12_isTaken_30 (by decide) ?_
    exact J.reti dX12_isTaken_31 rfl (bz_nar (Or.inl rfl)) hW
  · have hW := hW.2 hc1
    refine J.aload_n dX12_isTaken_12 rfl rfl ?_
    refine J.getR (r := 139) fl_X12_178 rfl dX12_isTaken_13 (lt83 hs) (kk83 hs) (rr83_73 hs) ?_
    refine J.iload_n dX12_isTaken_16 rfl rfl ?_
    obtain ⟨hb2, hW⟩ := hW
    refine J.iald (x := I 139 x2.toNatClampNeg) dX12_isTaken_17 (lt139 hs) (kk139 hs) hb2 rfl ?_
    refine J.iload_n dX12_isTaken_18 rfl rfl ?_
    refine J.ic_ne 24 dX12_isTaken_19 (by decide) (fun hc3 => ?_) (fun hc3 => ?_)
    · have hW := hW.2 hc3
      refine J.iinc (v := x2 + 1) (vs' := [some (.ref (eB E + 83)), some (.int x1), some (.int (x2 + 1))]) dX12_isTaken_24 rfl (by rfl) (by decide) rfl ?_
      refine J.goto 2 dX12_isTaken_27 (by decide) ?_
      exact hW
    · have hW := hW.1 hc3
      refine J.iconst (v := 1) dX12_isTaken_22 (by decide) ?_
      exact J.reti dX12_isTaken_23 rfl (bz_nar (Or.inr rfl)) hW
set_option maxRecDepth 100000 in
set_option maxHeartbeats 4000000 in
theorem w_X12_rather {E : Envt} {d : Nat} {Q : Pst} {h : mS} {I : mI} {L : mL} (hs : SL h) (x1 : Int32) (x2 : Int32) 
    (hW : (vp_in x1 8 ∧ ((((I 139 x1.toNatClampNeg) = (-1)) → Q (some (.int 1)) h I L) ∧ (¬ ((I 139 x1.toNatClampNeg) = (-1)) → (vp_in (I 139 x1.toNatClampNeg) 8 ∧ (CT E mX12_likingOf (d + 4) 0 0 [.ref (eB E + 83), .int (I 135 x1.toNatClampNeg), .int (I 136 ((I 139 x1.toNatClampNeg).toNatClampNeg))] h I L (qi h L fun r5 I4 => (vp_in x2 8 ∧ (CT E mX12_likingOf (d + 4) 0 0 [.ref (eB E + 83), .int (I4 135 x1.toNatClampNeg), .int (I4 136 x2.toNatClampNeg)] h I4 L (qi h L fun r8 I7 => Q (some (.int (bI ((r5 < r8) ∨ ((r8 = r5) ∧ (¬ ((I7 139 x1.toNatClampNeg) ≤ x2))))))) h I7 L)))))))))) :
    CT E mX12_rather (d + 5) 0 0 [.ref (eB E + 83), .int x1, .int x2] h I L Q := by
  refine CT.of (by decide) [some (.ref (eB E + 83)), some (.int x1), some (.int x2), none, none] rfl (Nat.le_of_ble_eq_true rfl) ?_
  refine J.aload_n dX12_rather_0 rfl rfl ?_
  refine J.getR (r := 139) fl_X12_178 rfl dX12_rather_1 (lt83 hs) (kk83 hs) (rr83_73 hs) ?_
  refine J.iload_n dX12_rather_4 rfl rfl ?_
  obtain ⟨hb1, hW⟩ := hW
  refine J.iald (x := I 139 x1.toNatClampNeg) dX12_rather_5 (lt139 hs) (kk139 hs) hb1 rfl ?_
  refine J.iconst (v := (-1)) dX12_rather_6 (by decide) ?_
  refine J.ic_ne 12 dX12_rather_7 (by decide) (fun hc2 => ?_) (fun hc2 => ?_)
  · have hW := hW.2 hc2
    refine J.aload_n dX12_rather_12 rfl rfl ?_
    refine J.aload_n dX12_rather_13 rfl rfl ?_
    refine J.getR (r := 135) fl_X12_165 rfl dX12_rather_14 (lt83 hs) (kk83 hs) (rr83_69 hs) ?_
    refine J.iload_n dX12_rather_17 rfl rfl ?_
    refine J.iald (x := I 135 x1.toNatClampNeg) dX12_rather_18 (lt135 hs) (kk135 hs) hb1 rfl ?_
    refine J.aload_n dX12_rather_19 rfl rfl ?_
    refine J.getR (r := 136) fl_X12_168 rfl dX12_rather_20 (lt83 hs) (kk83 hs) (rr83_70 hs) ?_
    refine J.aload_n dX12_rather_23 rfl rfl ?_
    refine J.getR (r := 139) fl_X12_178 rfl dX12_rather_24 (lt83 hs) (kk83 hs) (rr83_73 hs) ?_
    refine J.iload_n dX12_rather_27 rfl rfl ?_
    refine J.iald (x := I 139 x1.toNatClampNeg) dX12_rather_28 (lt139 hs) (kk139 hs) hb1 rfl ?_
    obtain ⟨hb3, hW⟩ := hW
    refine J.iald (x := I 136 ((I 139 x1.toNatClampNeg).toNatClampNeg)) dX12_rather_29 (lt136 hs) (kk136 hs) hb3 rfl ?_
    refine J.callV (M' := mX12_likingOf) (index := 429) (bc := 0) (bs := 0) (bc' := 0) (bs' := 0) (st := []) [.int (I 135 x1.toNatClampNeg), .int (I 136 ((I 139 x1.toNatClampNeg).toNatClampNeg))] ml_X12_429 cv_X12_likingOf dX12_rather_30 (lt83 hs) (kk83 hs) (by decide) rfl rfl rfl rfl (Nat.le_of_ble_eq_true rfl) (kqi hW (fun r5 I4 hW => ?_))
    refine J.istore_n (vs' := [some (.ref (eB E + 83)), some (.int x1), some (.int x2), some (.int r5), none]) dX12_rather_33 rfl (by decide) rfl ?_
    refine J.aload_n dX12_rather_34 rfl rfl ?_
    refine J.aload_n dX12_rather_35 rfl rfl ?_
    refine J.getR (r := 135) fl_X12_165 rfl dX12_rather_36 (lt83 hs) (kk83 hs) (rr83_69 hs) ?_
    refine J.iload_n dX12_rather_39 rfl rfl ?_
    refine J.iald (x := I4 135 x1.toNatClampNeg) dX12_rather_40 (lt135 hs) (kk135 hs) hb1 rfl ?_
    refine J.aload_n dX12_rather_41 rfl rfl ?_
    refine J.getR (r := 136) fl_X12_168 rfl dX12_rather_42 (lt83 hs) (kk83 hs) (rr83_70 hs) ?_
    refine J.iload_n dX12_rather_45 rfl rfl ?_
    obtain ⟨hb6, hW⟩ := hW
    refine J.iald (x := I4 136 x2.toNatClampNeg) dX12_rather_46 (lt136 hs) (kk136 hs) hb6 rfl ?_
    refine J.callV (M' := mX12_likingOf) (index := 429) (bc := 0) (bs := 0) (bc' := 0) (bs' := 0) (st := []) [.int (I4 135 x1.toNatClampNeg), .int (I4 136 x2.toNatClampNeg)] ml_X12_429 cv_X12_likingOf dX12_rather_47 (lt83 hs) (kk83 hs) (by decide) rfl rfl rfl rfl (Nat.le_of_ble_eq_true rfl) (kqi hW (fun r8 I7 hW => ?_))
    refine J.istore (vs' := [some (.ref (eB E + 83)), some (.int x1), some (.int x2), some (.int r5), some (.int r8)]) dX12_rather_50 (by decide) rfl ?_
    refine J.iload dX12_rather_52 rfl ?_
    refine J.iload_n dX12_rather_54 rfl rfl ?_
    have hj : J E mX12_rather (d + 5) Q 0 0 79 [some (.ref (eB E + 83)), some (.int x1), some (.int x2), some (.int r5), some (.int r8)] [.int (bI ((r5 < r8) ∨ ((r8 = r5) ∧ (¬ ((I7 139 x1.toNatClampNeg) ≤ x2)))))] h I7 L := by
      exact J.reti dX12_rather_79 rfl (bz_nar (bI_bz _)) hW
    refine J.ic_gt 74 dX12_rather_55 (by decide) (fun hc9 => ?_) (fun hc9 => ?_)
    · refine J.iconst (v := 1) dX12_rather_74 (by decide) ?_
      refine J.goto 79 dX12_rather_75 (by decide) ?_
      rw [show bI ((r5 < r8) ∨ ((r8 = r5) ∧ (¬ ((I7 139 x1.toNatClampNeg) ≤ x2)))) = 1 from bI_t (by simp only [eq_true hc9, and_true, true_and, and_false, false_and, or_true, true_or, or_false, false_or, not_true_eq_false, not_false_eq_true])] at hj
      exact hj
    · refine J.iload dX12_rather_58 rfl ?_
      refine J.iload_n dX12_rather_60 rfl rfl ?_
      refine J.ic_ne 78 dX12_rather_61 (by decide) (fun hc10 => ?_) (fun hc10 => ?_)
      · refine J.iconst (v := 0) dX12_rather_78 (by decide) ?_
        rw [show bI ((r5 < r8) ∨ ((r8 = r5) ∧ (¬ ((I7 139 x1.toNatClampNeg) ≤ x2)))) = 0 from bI_f (by simp only [eq_false hc9, eq_false hc10, and_true, true_and, and_false, false_and, or_true, true_or, or_false, false_or, not_true_eq_false, not_false_eq_true])] at hj
        exact hj
      · refine J.iload_n dX12_rather_64 rfl rfl ?_
        refine J.aload_n dX12_rather_65 rfl rfl ?_
        refine J.getR (r := 139) fl_X12_178 rfl dX12_rather_66 (lt83 hs) (kk83 hs) (rr83_73 hs) ?_
        refine J.iload_n dX12_rather_69 rfl rfl ?_
        refine J.iald (x := I7 139 x1.toNatClampNeg) dX12_rather_70 (lt139 hs) (kk139 hs) hb1 rfl ?_
        refine J.ic_ge 78 dX12_rather_71 (by decide) (fun hc11 => ?_) (fun hc11 => ?_)
        · refine J.iconst (v := 0) dX12_rather_78 (by decide) ?_
          rw [show bI ((r5 < r8) ∨ ((r8 = r5) ∧ (¬ ((I7 139 x1.toNatClampNeg) ≤ x2)))) = 0 from bI_f (by simp only [eq_false hc9, eq_true hc10, eq_true hc11, and_true, true_and, and_false, false_and, or_true, true_or, or_false, false_or, not_true_eq_false, not_false_eq_true])] at hj
          exact hj
        · refine J.iconst (v := 1) dX12_rather_74 (by decide) ?_
          refine J.goto 79 dX12_rather_75 (by decide) ?_
          rw [show bI ((r5 < r8) ∨ ((r8 = r5) ∧ (¬ ((I7 139 x1.toNatClampNeg) ≤ x2)))) = 1 from bI_t (by simp only [eq_false hc9, eq_true hc10, eq_false hc11, and_true, true_and, and_false, false_and, or_true, true_or, or_false, false_or, not_true_eq_false, not_false_eq_true])] at hj
          exact hj
  · have hW := hW.1 hc2
    refine J.iconst (v := 1) dX12_rather_10 (by decide) ?_
    exact J.reti dX12_rather_11 rfl (bz_nar (Or.inr rfl)) hW
set_option maxRecDepth 100000 in
set_option maxHeartbeats 4000000 in
theorem w_X12_stable {E : Envt} {d : Nat} {Q : Pst} {h : mS} {I : mI} {L : mL} (hs : SL h) (x1 : Int32) 
    (hW : (((¬ (x1 < 0) ∧ (¬ ((((uI I 83 0 0) 95 0) - 1) < x1))) → (CT E mX12_findFree (d + 5) 0 0 [.ref (eB E + 83)] h (uI I 83 0 0) L (qv h L fun I4 => J E mX12_stable (d + 6) Q 0 0 21 [some (.ref (eB E + 83)), some (.int x1), some (.int 0), none, none] [] h I4 L))) ∧ (¬ (¬ (x1 < 0) ∧ (¬ ((((uI I 83 0 0) 95 0) - 1) < x1))) → Q (some (.int (-1))) h (uI I 83 0 0) L))) :
    CT E mX12_stable (d + 6) 0 0 [.ref (eB E + 83), .int x1] h I L Q := by
  refine CT.of (by decide) [some (.ref (eB E + 83)), some (.int x1), none, none, none] rfl (Nat.le_of_ble_eq_true rfl) ?_
  refine J.aload_n dX12_stable_0 rfl rfl ?_
  refine J.iconst (v := 0) dX12_stable_1 (by decide) ?_
  refine J.putI fw_X12_202 rfl dX12_stable_2 (lt83 hs) (kk83 hs) ?_
  refine J.aload_n dX12_stable_5 rfl rfl ?_
  refine J.iload_n dX12_stable_6 rfl rfl ?_
  refine J.callV (M' := mX12_isPerson) (index := 222) (bc := 0) (bs := 0) (bc' := 0) (bs' := 0) (st := []) [.int x1] ml_X12_222 cv_X12_isPerson dX12_stable_7 (lt83 hs) (kk83 hs) (by decide) rfl rfl rfl rfl (Nat.le_of_ble_eq_true rfl) (kqi (w_X12_isPerson (d := d + 4) (Q := qi h L (fun v I' => I' = (uI I 83 0 0) ∧ v = bI (¬ (x1 < 0) ∧ (¬ ((((uI I 83 0 0) 95 0) - 1) < x1))))) hs x1 ⟨rfl, rfl, _, rfl, rfl, rfl⟩) (fun v1 I2 hv => ?_))
  rw [hv.1, hv.2]
  refine J.if_ne 15 dX12_stable_10 (by decide) (fun hc3 => ?_) (fun hc3 => ?_)
  · have hc3 := bI_n0.mp hc3
    have hW := hW.1 hc3
    refine J.aload_n dX12_stable_15 rfl rfl ?_
    refine J.callV (M' := mX12_findFree) (index := 456) (bc := 0) (bs := 0) (bc' := 0) (bs' := 0) (st := []) [] ml_X12_456 cv_X12_findFree dX12_stable_16 (lt83 hs) (kk83 hs) (by decide) rfl rfl rfl rfl (Nat.le_of_ble_eq_true rfl) (kqv hW (fun I4 hW => ?_))
    refine J.iconst (v := 0) dX12_stable_19 (by decide) ?_
    refine J.istore_n (vs' := [some (.ref (eB E + 83)), some (.int x1), some (.int 0), none, none]) dX12_stable_20 rfl (by decide) rfl ?_
    exact hW
  · have hc3 := bI_0.mp hc3
    have hW := hW.2 hc3
    refine J.iconst (v := (-1)) dX12_stable_13 (by decide) ?_
    exact J.reti dX12_stable_14 rfl rfl hW
set_option maxRecDepth 100000 in
set_option maxHeartbeats 4000000 in
theorem w_X12_stable_21 {E : Envt} {d : Nat} {Q : Pst} {h : mS} {I : mI} {L : mL} (hs : SL h)    (x1 : Int32) (x2 : Int32)
    (hW : (((8 ≤ x2) → J E mX12_stable (d + 6) Q 0 0 49 [some (.ref (eB E + 83)), some (.int x1), some (.int 1), none, none] [] h I L) ∧ (¬ (8 ≤ x2) → (vp_in x2 8 ∧ J E mX12_stable (d + 6) Q 0 0 21 [some (.ref (eB E + 83)), some (.int x1), some (.int (x2 + 1)), none, none] [] h (uI (uI I 139 x2.toNatClampNeg (-1)) 140 x2.toNatClampNeg 0) L)))) :
    J E mX12_stable (d + 6) Q 0 0 21 [some (.ref (eB E + 83)), some (.int x1), some (.int x2), none, none] [] h I L := by
  refine J.iload_n dX12_stable_21 rfl rfl ?_
  refine J.bipush (v := 8) dX12_stable_22 (by decide) ?_
  refine J.ic_ge 47 dX12_stable_24 (by decide) (fun hc1 => ?_) (fun hc1 => ?_)
  · have hW := hW.1 hc1
    refine J.iconst (v := 1) dX12_stable_47 (by decide) ?_
    refine J.istore_n (vs' := [some (.ref (eB E + 83)), some (.int x1), some (.int 1), none, none]) dX12_stable_48 rfl (by decide) rfl ?_
    exact hW
  · have hW := hW.2 hc1
    refine J.aload_n dX12_stable_27 rfl rfl ?_
    refine J.getR (r := 139) fl_X12_178 rfl dX12_stable_28 (lt83 hs) (kk83 hs) (rr83_73 hs) ?_
    refine J.iload_n dX12_stable_31 rfl rfl ?_
    refine J.iconst (v := (-1)) dX12_stable_32 (by decide) ?_
    obtain ⟨hb2, hW⟩ := hW
    refine J.iast dX12_stable_33 (lt139 hs) (kk139 hs) hb2 ?_
    refine J.aload_n dX12_stable_34 rfl rfl ?_
    refine J.getR (r := 140) fl_X12_181 rfl dX12_stable_35 (lt83 hs) (kk83 hs) (rr83_74 hs) ?_
    refine J.iload_n dX12_stable_38 rfl rfl ?_
    refine J.iconst (v := 0) dX12_stable_39 (by decide) ?_
    refine J.iast dX12_stable_40 (lt140 hs) (kk140 hs) hb2 ?_
    refine J.iinc (v := x2 + 1) (vs' := [some (.ref (eB E + 83)), some (.int x1), some (.int (x2 + 1)), none, none]) dX12_stable_41 rfl (by rfl) (by decide) rfl ?_
    refine J.goto 21 dX12_stable_44 (by decide) ?_
    exact hW
set_option maxRecDepth 100000 in
set_option maxHeartbeats 4000000 in
theorem w_X12_stable_49 {E : Envt} {d : Nat} {Q : Pst} {h : mS} {I : mI} {L : mL} (hs : SL h)    (x1 : Int32) (x2 : Int32)
    (hW : (((x2 = 0) → (CT E mX12_withWhom (d + 5) 0 0 [.ref (eB E + 83), .int x1] h I L (qi h L fun r3 I2 => Q (some (.int r3)) h I2 L))) ∧ (¬ (x2 = 0) → J E mX12_stable (d + 6) Q 0 0 57 [some (.ref (eB E + 83)), some (.int x1), some (.int 0), some (.int 0), none] [] h I L))) :
    J E mX12_stable (d + 6) Q 0 0 49 [some (.ref (eB E + 83)), some (.int x1), some (.int x2), none, none] [] h I L := by
  refine J.iload_n dX12_stable_49 rfl rfl ?_
  refine J.if_eq 144 dX12_stable_50 (by decide) (fun hc1 => ?_) (fun hc1 => ?_)
  · have hW := hW.1 hc1
    refine J.aload_n dX12_stable_144 rfl rfl ?_
    refine J.iload_n dX12_stable_145 rfl rfl ?_
    refine J.callV (M' := mX12_withWhom) (index := 466) (bc := 0) (bs := 0) (bc' := 0) (bs' := 0) (st := []) [.int x1] ml_X12_466 cv_X12_withWhom dX12_stable_146 (lt83 hs) (kk83 hs) (by decide) rfl rfl rfl rfl (Nat.le_of_ble_eq_true rfl) (kqi hW (fun r3 I2 hW => ?_))
    exact J.reti dX12_stable_149 rfl rfl hW
  · have hW := hW.2 hc1
    refine J.iconst (v := 0) dX12_stable_53 (by decide) ?_
    refine J.istore_n (vs' := [some (.ref (eB E + 83)), some (.int x1), some (.int 0), none, none]) dX12_stable_54 rfl (by decide) rfl ?_
    refine J.iconst (v := 0) dX12_stable_55 (by decide) ?_
    refine J.istore_n (vs' := [some (.ref (eB E + 83)), some (.int x1), some (.int 0), some (.int 0), none]) dX12_stable_56 rfl (by decide) rfl ?_
    exact hW
set_option maxRecDepth 100000 in
set_option maxHeartbeats 4000000 in
theorem w_X12_stable_57 {E : Envt} {d : Nat} {Q : Pst} {h : mS} {I : mI} {L : mL} (hs : SL h)    (x1 : Int32) (x2 : Int32) (x3 : Int32)
    (hW : ((((I 134 1) ≤ x3) → J E mX12_stable (d + 6) Q 0 0 49 [some (.ref (eB E + 83)), some (.int x1), some (.int x2), none, none] [] h I L) ∧ (¬ ((I 134 1) ≤ x3) → (CT E mX12_isTaken (d + 5) 0 0 [.ref (eB E + 83), .int x3] h I L (qi h L fun r3 I2 => (((r3 = 0) → (CT E mX12_nextFor (d + 5) 0 0 [.ref (eB E + 83), .int x3] h I2 L (qi h L fun r6 I5 => (((r6 = (-1)) → J E mX12_stable (d + 6) Q 0 0 57 [some (.ref (eB E + 83)), some (.int x1), some (.int x2), some (.int (x3 + 1)), none] [] h I5 L) ∧ (¬ (r6 = (-1)) → (vp_in x3 8 ∧ (CT E mX12_rather (d + 5) 0 0 [.ref (eB E + 83), .int r6, .int x3] h (uI I5 140 x3.toNatClampNeg ((I5 140 x3.toNatClampNeg) ||| ((1 : Int32) <<< (r6 &&& 31)))) L (qi h L fun r10 I9 => (((r10 = 0) → vp_in r6 8) ∧ (vp_in r6 8 ∧ J E mX12_stable (d + 6) Q 0 0 57 [some (.ref (eB E + 83)), some (.int x1), some (.int 1), some (.int (x3 + 1)), none] [] h (uI I9 139 r6.toNatClampNeg (if r10 = 0 then I9 139 r6.toNatClampNeg else x3 : Int32)) L)))))))))) ∧ (¬ (r3 = 0) → J E mX12_stable (d + 6) Q 0 0 57 [some (.ref (eB E + 83)), some (.int x1), some (.int x2), some (.int (x3 + 1)), none] [] h I2 L))))))) :
    J E mX12_stable (d + 6) Q 0 0 57 [some (.ref (eB E + 83)), some (.int x1), some (.int x2), some (.int x3), none] [] h I L := by
  refine J.iload_n dX12_stable_57 rfl rfl ?_
  refine J.aload_n dX12_stable_58 rfl rfl ?_
  refine J.getR (r := 134) fl_X12_162 rfl dX12_stable_59 (lt83 hs) (kk83 hs) (rr83_68 hs) ?_
  refine J.iconst (v := 1) dX12_stable_62 (by decide) ?_
  refine J.iald (x := I 134 1) dX12_stable_63 (lt134 hs) (kk134 hs) (by unfold vp_in; decide) rfl ?_
  refine J.ic_ge 141 dX12_stable_64 (by decide) (fun hc1 => ?_) (fun hc1 => ?_)
  · have hW := hW.1 hc1
    refine J.goto 49 dX12_stable_141 (by decide) ?_
    exact J.mask [true, true, true, false, false] rfl hW
  · have hW := hW.2 hc1
    refine J.aload_n dX12_stable_67 rfl rfl ?_
    refine J.iload_n dX12_stable_68 rfl rfl ?_
    refine J.callV (M' := mX12_isTaken) (index := 469) (bc := 0) (bs := 0) (bc' := 0) (bs' := 0) (st := []) [.int x3] ml_X12_469 cv_X12_isTaken dX12_stable_69 (lt83 hs) (kk83 hs) (by decide) rfl rfl rfl rfl (Nat.le_of_ble_eq_true rfl) (kqi hW (fun r3 I2 hW => ?_))
    refine J.if_eq 79 dX12_stable_72 (by decide) (fun hc4 => ?_) (fun hc4 => ?_)
    · have hW := hW.1 hc4
      refine J.aload_n dX12_stable_79 rfl rfl ?_
      refine J.iload_n dX12_stable_80 rfl rfl ?_
      refine J.callV (M' := mX12_nextFor) (index := 472) (bc := 0) (bs := 0) (bc' := 0) (bs' := 0) (st := []) [.int x3] ml_X12_472 cv_X12_nextFor dX12_stable_81 (lt83 hs) (kk83 hs) (by decide) rfl rfl rfl rfl (Nat.le_of_ble_eq_true rfl) (kqi hW (fun r6 I5 hW => ?_))
      refine J.istore (vs' := [some (.ref (eB E + 83)), some (.int x1), some (.int x2), some (.int x3), some (.int r6)]) dX12_stable_84 (by decide) rfl ?_
      refine J.iload dX12_stable_86 rfl ?_
      refine J.iconst (v := (-1)) dX12_stable_88 (by decide) ?_
      refine J.ic_eq 135 dX12_stable_89 (by decide) (fun hc7 => ?_) (fun hc7 => ?_)
      · have hW := hW.1 hc7
        refine J.iinc (v := x3 + 1) (vs' := [some (.ref (eB E + 83)), some (.int x1), some (.int x2), some (.int (x3 + 1)), some (.int r6)]) dX12_stable_135 rfl (by rfl) (by decide) rfl ?_
        refine J.goto 57 dX12_stable_138 (by decide) ?_
        exact J.mask [true, true, true, true, false] rfl hW
      · have hW := hW.2 hc7
        refine J.aload_n dX12_stable_92 rfl rfl ?_
        refine J.getR (r := 140) fl_X12_181 rfl dX12_stable_93 (lt83 hs) (kk83 hs) (rr83_74 hs) ?_
        refine J.iload_n dX12_stable_96 rfl rfl ?_
        refine J.dup2 dX12_stable_97 rfl rfl ?_
        obtain ⟨hb8, hW⟩ := hW
        refine J.iald (x := I5 140 x3.toNatClampNeg) dX12_stable_98 (lt140 hs) (kk140 hs) hb8 rfl ?_
        refine J.iconst (v := 1) dX12_stable_99 (by decide) ?_
        refine J.iload dX12_stable_100 rfl ?_
        refine J.ishl dX12_stable_102 ?_
        refine J.ior dX12_stable_103 ?_
        refine J.iast dX12_stable_104 (lt140 hs) (kk140 hs) hb8 ?_
        refine J.aload_n dX12_stable_105 rfl rfl ?_
        refine J.getR (r := 139) fl_X12_178 rfl dX12_stable_106 (lt83 hs) (kk83 hs) (rr83_73 hs) ?_
        refine J.iload dX12_stable_109 rfl ?_
        refine J.aload_n dX12_stable_111 rfl rfl ?_
        refine J.iload dX12_stable_112 rfl ?_
        refine J.iload_n dX12_stable_114 rfl rfl ?_
        refine J.callV (M' := mX12_rather) (index := 475) (bc := 0) (bs := 0) (bc' := 0) (bs' := 0) (st := [.int r6, .ref (eB E + 139)]) [.int r6, .int x3] ml_X12_475 cv_X12_rather dX12_stable_115 (lt83 hs) (kk83 hs) (by decide) rfl rfl rfl rfl (Nat.le_of_ble_eq_true rfl) (kqi hW (fun r10 I9 hW => ?_))
        obtain ⟨hq13, hW⟩ := hW
        have hj : J E mX12_stable (d + 6) Q 0 0 132 [some (.ref (eB E + 83)), some (.int x1), some (.int x2), some (.int x3), some (.int r6)] [.int (if r10 = 0 then I9 139 r6.toNatClampNeg else x3 : Int32), .int r6, .ref (eB E + 139)] h I9 L := by
          obtain ⟨hb14, hW⟩ := hW
          refine J.iast dX12_stable_132 (lt139 hs) (kk139 hs) hb14 ?_
          refine J.iconst (v := 1) dX12_stable_133 (by decide) ?_
          refine J.istore_n (vs' := [some (.ref (eB E + 83)), some (.int x1), some (.int 1), some (.int x3), some (.int r6)]) dX12_stable_134 rfl (by decide) rfl ?_
          refine J.iinc (v := x3 + 1) (vs' := [some (.ref (eB E + 83)), some (.int x1), some (.int 1), some (.int (x3 + 1)), some (.int r6)]) dX12_stable_135 rfl (by rfl) (by decide) rfl ?_
          refine J.goto 57 dX12_stable_138 (by decide) ?_
          exact J.mask [true, true, true, true, false] rfl hW
        refine J.if_eq 125 dX12_stable_118 (by decide) (fun hc11 => ?_) (fun hc11 => ?_)
        · refine J.aload_n dX12_stable_125 rfl rfl ?_
          refine J.getR (r := 139) fl_X12_178 rfl dX12_stable_126 (lt83 hs) (kk83 hs) (rr83_73 hs) ?_
          refine J.iload dX12_stable_129 rfl ?_
          have hb12 := hq13 hc11
          refine J.iald (x := I9 139 r6.toNatClampNeg) dX12_stable_131 (lt139 hs) (kk139 hs) hb12 rfl ?_
          rw [show ((if r10 = 0 then I9 139 r6.toNatClampNeg else x3 : Int32) = I9 139 r6.toNatClampNeg) from by simp only [eq_true hc11, if_true, if_false, bI_true, bI_false, and_true, true_and, and_false, false_and, or_true, true_or, or_false, false_or, not_true_eq_false, not_false_eq_true]] at hj
          exact hj
        · refine J.iload_n dX12_stable_121 rfl rfl ?_
          refine J.goto 132 dX12_stable_122 (by decide) ?_
          rw [show ((if r10 = 0 then I9 139 r6.toNatClampNeg else x3 : Int32) = x3) from by simp only [eq_false hc11, if_true, if_false, bI_true, bI_false, and_true, true_and, and_false, false_and, or_true, true_or, or_false, false_or, not_true_eq_false, not_false_eq_true]] at hj
          exact hj
    · have hW := hW.2 hc4
      refine J.iconst (v := (-1)) dX12_stable_75 (by decide) ?_
      refine J.goto 84 dX12_stable_76 (by decide) ?_
      refine J.istore (vs' := [some (.ref (eB E + 83)), some (.int x1), some (.int x2), some (.int x3), some (.int (-1))]) dX12_stable_84 (by decide) rfl ?_
      refine J.iload dX12_stable_86 rfl ?_
      refine J.iconst (v := (-1)) dX12_stable_88 (by decide) ?_
      refine J.ic_eq 135 dX12_stable_89 (by decide) (fun _ => ?_) (fun hc => absurd hc (by decide))
      refine J.iinc (v := x3 + 1) (vs' := [some (.ref (eB E + 83)), some (.int x1), some (.int x2), some (.int (x3 + 1)), some (.int (-1))]) dX12_stable_135 rfl (by rfl) (by decide) rfl ?_
      refine J.goto 57 dX12_stable_138 (by decide) ?_
      exact J.mask [true, true, true, true, false] rfl hW
set_option maxRecDepth 100000 in
set_option maxHeartbeats 4000000 in
theorem w_X12_findCouples {E : Envt} {d : Nat} {Q : Pst} {h : mS} {I : mI} {L : mL} (hs : SL h)  
    (hW : (CT E mX12_findFree (d + 5) 0 0 [.ref (eB E + 83)] h I L (qv h L fun I1 => J E mX12_findCouples (d + 6) Q 0 0 6 [some (.ref (eB E + 83)), some (.int 0), none, none] [] h I1 L))) :
    CT E mX12_findCouples (d + 6) 0 0 [.ref (eB E + 83)] h I L Q := by
  refine CT.of (by decide) [some (.ref (eB E + 83)), none, none, none] rfl (Nat.le_of_ble_eq_true rfl) ?_
  refine J.aload_n dX12_findCouples_0 rfl rfl ?_
  refine J.callV (M' := mX12_findFree) (index := 456) (bc := 0) (bs := 0) (bc' := 0) (bs' := 0) (st := []) [] ml_X12_456 cv_X12_findFree dX12_findCouples_1 (lt83 hs) (kk83 hs) (by decide) rfl rfl rfl rfl (Nat.le_of_ble_eq_true rfl) (kqv hW (fun I1 hW => ?_))
  refine J.iconst (v := 0) dX12_findCouples_4 (by decide) ?_
  refine J.istore_n (vs' := [some (.ref (eB E + 83)), some (.int 0), none, none]) dX12_findCouples_5 rfl (by decide) rfl ?_
  exact hW
set_option maxRecDepth 100000 in
set_option maxHeartbeats 4000000 in
theorem w_X12_findCouples_6 {E : Envt} {d : Nat} {Q : Pst} {h : mS} {I : mI} {L : mL} (hs : SL h)    (x1 : Int32)
    (hW : (((64 ≤ x1) → J E mX12_findCouples (d + 6) Q 0 0 27 [some (.ref (eB E + 83)), some (.int 0), none, none] [] h I L) ∧ (¬ (64 ≤ x1) → (vp_in x1 64 ∧ J E mX12_findCouples (d + 6) Q 0 0 6 [some (.ref (eB E + 83)), some (.int (x1 + 1)), none, none] [] h (uI I 143 x1.toNatClampNeg (-1)) L)))) :
    J E mX12_findCouples (d + 6) Q 0 0 6 [some (.ref (eB E + 83)), some (.int x1), none, none] [] h I L := by
  refine J.iload_n dX12_findCouples_6 rfl rfl ?_
  refine J.bipush (v := 64) dX12_findCouples_7 (by decide) ?_
  refine J.ic_ge 25 dX12_findCouples_9 (by decide) (fun hc1 => ?_) (fun hc1 => ?_)
  · have hW := hW.1 hc1
    refine J.iconst (v := 0) dX12_findCouples_25 (by decide) ?_
    refine J.istore_n (vs' := [some (.ref (eB E + 83)), some (.int 0), none, none]) dX12_findCouples_26 rfl (by decide) rfl ?_
    exact hW
  · have hW := hW.2 hc1
    refine J.aload_n dX12_findCouples_12 rfl rfl ?_
    refine J.getR (r := 143) fl_X12_190 rfl dX12_findCouples_13 (lt83 hs) (kk83 hs) (rr83_77 hs) ?_
    refine J.iload_n dX12_findCouples_16 rfl rfl ?_
    refine J.iconst (v := (-1)) dX12_findCouples_17 (by decide) ?_
    obtain ⟨hb2, hW⟩ := hW
    refine J.iast dX12_findCouples_18 (lt143 hs) (kk143 hs) hb2 ?_
    refine J.iinc (v := x1 + 1) (vs' := [some (.ref (eB E + 83)), some (.int (x1 + 1)), none, none]) dX12_findCouples_19 rfl (by rfl) (by decide) rfl ?_
    refine J.goto 6 dX12_findCouples_22 (by decide) ?_
    exact hW
set_option maxRecDepth 100000 in
set_option maxHeartbeats 4000000 in
theorem w_X12_findCouples_27 {E : Envt} {d : Nat} {Q : Pst} {h : mS} {I : mI} {L : mL} (hs : SL h)    (x1 : Int32)
    (hW : ((((I 134 0) ≤ x1) → Q none h I L) ∧ (¬ ((I 134 0) ≤ x1) → J E mX12_findCouples (d + 6) Q 0 0 39 [some (.ref (eB E + 83)), some (.int x1), some (.int 0), none] [] h I L))) :
    J E mX12_findCouples (d + 6) Q 0 0 27 [some (.ref (eB E + 83)), some (.int x1), none, none] [] h I L := by
  refine J.iload_n dX12_findCouples_27 rfl rfl ?_
  refine J.aload_n dX12_findCouples_28 rfl rfl ?_
  refine J.getR (r := 134) fl_X12_162 rfl dX12_findCouples_29 (lt83 hs) (kk83 hs) (rr83_68 hs) ?_
  refine J.iconst (v := 0) dX12_findCouples_32 (by decide) ?_
  refine J.iald (x := I 134 0) dX12_findCouples_33 (lt134 hs) (kk134 hs) (by unfold vp_in; decide) rfl ?_
  refine J.ic_ge 149 dX12_findCouples_34 (by decide) (fun hc1 => ?_) (fun hc1 => ?_)
  · have hW := hW.1 hc1
    exact J.retv dX12_findCouples_149 rfl hW
  · have hW := hW.2 hc1
    refine J.iconst (v := 0) dX12_findCouples_37 (by decide) ?_
    refine J.istore_n (vs' := [some (.ref (eB E + 83)), some (.int x1), some (.int 0), none]) dX12_findCouples_38 rfl (by decide) rfl ?_
    exact hW
set_option maxRecDepth 100000 in
set_option maxHeartbeats 4000000 in
theorem w_X12_findCouples_39 {E : Envt} {d : Nat} {Q : Pst} {h : mS} {I : mI} {L : mL} (hs : SL h)    (x1 : Int32) (x2 : Int32)
    (hW : ((((I 134 1) ≤ x2) → J E mX12_findCouples (d + 6) Q 0 0 27 [some (.ref (eB E + 83)), some (.int (x1 + 1)), none, none] [] h I L) ∧ (¬ ((I 134 1) ≤ x2) → (vp_in x1 8 ∧ (vp_in (I 135 x1.toNatClampNeg) 80 ∧ (vp_in x2 8 ∧ (vp_in (I 136 x2.toNatClampNeg) 80 ∧ (∀ y6 : Int32, y6 = (8 * (I 96 ((I 135 x1.toNatClampNeg).toNatClampNeg))) + (I 96 ((I 136 x2.toNatClampNeg).toNatClampNeg)) → (vp_in ((8 * x1) + x2) 64 ∧ (vp_in y6 64 ∧ ((((I 137 (((8 * x1) + x2).toNatClampNeg)) ≤ (I 143 y6.toNatClampNeg)) → J E mX12_findCouples (d + 6) Q 0 0 39 [some (.ref (eB E + 83)), some (.int x1), some (.int (x2 + 1)), none] [] h I L) ∧ (¬ ((I 137 (((8 * x1) + x2).toNatClampNeg)) ≤ (I 143 y6.toNatClampNeg)) → J E mX12_findCouples (d + 6) Q 0 0 39 [some (.ref (eB E + 83)), some (.int x1), some (.int (x2 + 1)), none] [] h (uI (uI (uI I 143 y6.toNatClampNeg (I 137 (((8 * x1) + x2).toNatClampNeg))) 141 y6.toNatClampNeg (I 135 x1.toNatClampNeg)) 142 y6.toNatClampNeg (I 136 x2.toNatClampNeg)) L)))))))))))) :
    J E mX12_findCouples (d + 6) Q 0 0 39 [some (.ref (eB E + 83)), some (.int x1), some (.int x2), none] [] h I L := by
  refine J.iload_n dX12_findCouples_39 rfl rfl ?_
  refine J.aload_n dX12_findCouples_40 rfl rfl ?_
  refine J.getR (r := 134) fl_X12_162 rfl dX12_findCouples_41 (lt83 hs) (kk83 hs) (rr83_68 hs) ?_
  refine J.iconst (v := 1) dX12_findCouples_44 (by decide) ?_
  refine J.iald (x := I 134 1) dX12_findCouples_45 (lt134 hs) (kk134 hs) (by unfold vp_in; decide) rfl ?_
  refine J.ic_ge 143 dX12_findCouples_46 (by decide) (fun hc1 => ?_) (fun hc1 => ?_)
  · have hW := hW.1 hc1
    refine J.iinc (v := x1 + 1) (vs' := [some (.ref (eB E + 83)), some (.int (x1 + 1)), some (.int x2), none]) dX12_findCouples_143 rfl (by rfl) (by decide) rfl ?_
    refine J.goto 27 dX12_findCouples_146 (by decide) ?_
    exact J.mask [true, true, false, false] rfl hW
  · have hW := hW.2 hc1
    refine J.bipush (v := 8) dX12_findCouples_49 (by decide) ?_
    refine J.aload_n dX12_findCouples_51 rfl rfl ?_
    refine J.getR (r := 96) fl_X12_47 rfl dX12_findCouples_52 (lt83 hs) (kk83 hs) (rr83_13 hs) ?_
    refine J.aload_n dX12_findCouples_55 rfl rfl ?_
    refine J.getR (r := 135) fl_X12_165 rfl dX12_findCouples_56 (lt83 hs) (kk83 hs) (rr83_69 hs) ?_
    refine J.iload_n dX12_findCouples_59 rfl rfl ?_
    obtain ⟨hb2, hW⟩ := hW
    refine J.iald (x := I 135 x1.toNatClampNeg) dX12_findCouples_60 (lt135 hs) (kk135 hs) hb2 rfl ?_
    obtain ⟨hb3, hW⟩ := hW
    refine J.iald (x := I 96 ((I 135 x1.toNatClampNeg).toNatClampNeg)) dX12_findCouples_61 (lt96 hs) (kk96 hs) hb3 rfl ?_
    refine J.imul dX12_findCouples_62 ?_
    refine J.aload_n dX12_findCouples_63 rfl rfl ?_
    refine J.getR (r := 96) fl_X12_47 rfl dX12_findCouples_64 (lt83 hs) (kk83 hs) (rr83_13 hs) ?_
    refine J.aload_n dX12_findCouples_67 rfl rfl ?_
    refine J.getR (r := 136) fl_X12_168 rfl dX12_findCouples_68 (lt83 hs) (kk83 hs) (rr83_70 hs) ?_
    refine J.iload_n dX12_findCouples_71 rfl rfl ?_
    obtain ⟨hb4, hW⟩ := hW
    refine J.iald (x := I 136 x2.toNatClampNeg) dX12_findCouples_72 (lt136 hs) (kk136 hs) hb4 rfl ?_
    obtain ⟨hb5, hW⟩ := hW
    refine J.iald (x := I 96 ((I 136 x2.toNatClampNeg).toNatClampNeg)) dX12_findCouples_73 (lt96 hs) (kk96 hs) hb5 rfl ?_
    refine J.iadd dX12_findCouples_74 ?_
    refine J.topi (fun y6 hyy6 => ?_)
    have hW := hW y6 hyy6
    refine J.istore_n (vs' := [some (.ref (eB E + 83)), some (.int x1), some (.int x2), some (.int y6)]) dX12_findCouples_75 rfl (by decide) rfl ?_
    refine J.aload_n dX12_findCouples_76 rfl rfl ?_
    refine J.getR (r := 137) fl_X12_171 rfl dX12_findCouples_77 (lt83 hs) (kk83 hs) (rr83_71 hs) ?_
    refine J.bipush (v := 8) dX12_findCouples_80 (by decide) ?_
    refine J.iload_n dX12_findCouples_82 rfl rfl ?_
    refine J.imul dX12_findCouples_83 ?_
    refine J.iload_n dX12_findCouples_84 rfl rfl ?_
    refine J.iadd dX12_findCouples_85 ?_
    obtain ⟨hb7, hW⟩ := hW
    refine J.iald (x := I 137 (((8 * x1) + x2).toNatClampNeg)) dX12_findCouples_86 (lt137 hs) (kk137 hs) hb7 rfl ?_
    refine J.aload_n dX12_findCouples_87 rfl rfl ?_
    refine J.getR (r := 143) fl_X12_190 rfl dX12_findCouples_88 (lt83 hs) (kk83 hs) (rr83_77 hs) ?_
    refine J.iload_n dX12_findCouples_91 rfl rfl ?_
    obtain ⟨hb8, hW⟩ := hW
    refine J.iald (x := I 143 y6.toNatClampNeg) dX12_findCouples_92 (lt143 hs) (kk143 hs) hb8 rfl ?_
    refine J.ic_le 137 dX12_findCouples_93 (by decide) (fun hc9 => ?_) (fun hc9 => ?_)
    · have hW := hW.1 hc9
      refine J.iinc (v := x2 + 1) (vs' := [some (.ref (eB E + 83)), some (.int x1), some (.int (x2 + 1)), some (.int y6)]) dX12_findCouples_137 rfl (by rfl) (by decide) rfl ?_
      refine J.goto 39 dX12_findCouples_140 (by decide) ?_
      exact J.mask [true, true, true, false] rfl hW
    · have hW := hW.2 hc9
      refine J.aload_n dX12_findCouples_96 rfl rfl ?_
      refine J.getR (r := 143) fl_X12_190 rfl dX12_findCouples_97 (lt83 hs) (kk83 hs) (rr83_77 hs) ?_
      refine J.iload_n dX12_findCouples_100 rfl rfl ?_
      refine J.aload_n dX12_findCouples_101 rfl rfl ?_
      refine J.getR (r := 137) fl_X12_171 rfl dX12_findCouples_102 (lt83 hs) (kk83 hs) (rr83_71 hs) ?_
      refine J.bipush (v := 8) dX12_findCouples_105 (by decide) ?_
      refine J.iload_n dX12_findCouples_107 rfl rfl ?_
      refine J.imul dX12_findCouples_108 ?_
      refine J.iload_n dX12_findCouples_109 rfl rfl ?_
      refine J.iadd dX12_findCouples_110 ?_
      refine J.iald (x := I 137 (((8 * x1) + x2).toNatClampNeg)) dX12_findCouples_111 (lt137 hs) (kk137 hs) hb7 rfl ?_
      refine J.iast dX12_findCouples_112 (lt143 hs) (kk143 hs) hb8 ?_
      refine J.aload_n dX12_findCouples_113 rfl rfl ?_
      refine J.getR (r := 141) fl_X12_184 rfl dX12_findCouples_114 (lt83 hs) (kk83 hs) (rr83_75 hs) ?_
      refine J.iload_n dX12_findCouples_117 rfl rfl ?_
      refine J.aload_n dX12_findCouples_118 rfl rfl ?_
      refine J.getR (r := 135) fl_X12_165 rfl dX12_findCouples_119 (lt83 hs) (kk83 hs) (rr83_69 hs) ?_
      refine J.iload_n dX12_findCouples_122 rfl rfl ?_
      refine J.iald (x := I 135 x1.toNatClampNeg) dX12_findCouples_123 (lt135 hs) (kk135 hs) hb2 rfl ?_
      refine J.iast dX12_findCouples_124 (lt141 hs) (kk141 hs) hb8 ?_
      refine J.aload_n dX12_findCouples_125 rfl rfl ?_
      refine J.getR (r := 142) fl_X12_187 rfl dX12_findCouples_126 (lt83 hs) (kk83 hs) (rr83_76 hs) ?_
      refine J.iload_n dX12_findCouples_129 rfl rfl ?_
      refine J.aload_n dX12_findCouples_130 rfl rfl ?_
      refine J.getR (r := 136) fl_X12_168 rfl dX12_findCouples_131 (lt83 hs) (kk83 hs) (rr83_70 hs) ?_
      refine J.iload_n dX12_findCouples_134 rfl rfl ?_
      refine J.iald (x := I 136 x2.toNatClampNeg) dX12_findCouples_135 (lt136 hs) (kk136 hs) hb4 rfl ?_
      refine J.iast dX12_findCouples_136 (lt142 hs) (kk142 hs) hb8 ?_
      refine J.iinc (v := x2 + 1) (vs' := [some (.ref (eB E + 83)), some (.int x1), some (.int (x2 + 1)), some (.int y6)]) dX12_findCouples_137 rfl (by rfl) (by decide) rfl ?_
      refine J.goto 39 dX12_findCouples_140 (by decide) ?_
      exact J.mask [true, true, true, false] rfl hW
