/-! fairCopy from its copying on; take and text with room to make (fair.py) -/
set_option maxRecDepth 100000 in
set_option maxHeartbeats 4000000 in
theorem w_X8_fairCopy_16 {E : Envt} {d : Nat} {Q : Pst} {h : mS} {I : mI} {L : mL} (hs : SL h) {t1 nl_t1 nt_t1 : Nat} (ht_t1 : LT h t1 nl_t1 nt_t1)
    (hW : (CT E mX11_copy (d + 1) 0 0 [.ref (eB E + 49), .ref (eB E + (t1 + 1))] h I L (qv h L fun I1 => (CT E mX11_copy (d + 1) 0 0 [.ref (eB E + 50), .ref (eB E + (t1 + 2))] h I1 L (qv h L fun I2 => (CT E mX11_copy (d + 1) 0 0 [.ref (eB E + 51), .ref (eB E + (t1 + 3))] h I2 L (qv h L fun I3 => (CT E mX11_copy (d + 1) 0 0 [.ref (eB E + 52), .ref (eB E + (t1 + 4))] h I3 L (qv h L fun I4 => (CT E mX11_copy (d + 1) 0 0 [.ref (eB E + 53), .ref (eB E + (t1 + 5))] h I4 L (qv h L fun I5 => (CT E mX11_copy (d + 1) 0 0 [.ref (eB E + 54), .ref (eB E + (t1 + 6))] h I5 L (qv h L fun I6 => (CT E mX11_copyFlags (d + 1) 0 0 [.ref (eB E + 55), .ref (eB E + (t1 + 7))] h I6 L (qv h L fun I7 => Q (some (.ref (eB E + t1))) h I7 L))))))))))))))) :
    J E mX8_fairCopy (d + 2) Q 0 0 16 [some (.ref (eB E + 47)), some (.ref (eB E + t1))] [] h I L := by
  refine J.aload_n dX8_fairCopy_16 rfl rfl ?_
  refine J.getR (r := 48) fl_X8_14 rfl dX8_fairCopy_17 (lt47 hs) (kk47 hs) (rr47_11 hs) ?_
  refine J.getR (r := 49) fl_X8_58 rfl dX8_fairCopy_20 (lt48 hs) (kk48 hs) (rr48_1 hs) ?_
  refine J.aload_n dX8_fairCopy_23 rfl rfl ?_
  refine J.getR (r := t1 + 1) fl_X8_58 rfl dX8_fairCopy_24 ht_t1.l0 ht_t1.k0 ht_t1.r1 ?_
  refine J.callSN (M' := mX11_copy) (index := 62) (bc := 0) (bs := 0) (bc' := 0) (bs' := 0) (st := []) [.ref (eB E + 49), .ref (eB E + (t1 + 1))] nk_X8_62 cv_X11_copy dX8_fairCopy_27 rfl rfl (Nat.le_of_ble_eq_true rfl) (kqv hW (fun I1 hW => ?_))
  refine J.aload_n dX8_fairCopy_30 rfl rfl ?_
  refine J.getR (r := 48) fl_X8_14 rfl dX8_fairCopy_31 (lt47 hs) (kk47 hs) (rr47_11 hs) ?_
  refine J.getR (r := 50) fl_X8_66 rfl dX8_fairCopy_34 (lt48 hs) (kk48 hs) (rr48_2 hs) ?_
  refine J.aload_n dX8_fairCopy_37 rfl rfl ?_
  refine J.getR (r := t1 + 2) fl_X8_66 rfl dX8_fairCopy_38 ht_t1.l0 ht_t1.k0 ht_t1.r2 ?_
  refine J.callSN (M' := mX11_copy) (index := 62) (bc := 0) (bs := 0) (bc' := 0) (bs' := 0) (st := []) [.ref (eB E + 50), .ref (eB E + (t1 + 2))] nk_X8_62 cv_X11_copy dX8_fairCopy_41 rfl rfl (Nat.le_of_ble_eq_true rfl) (kqv hW (fun I2 hW => ?_))
  refine J.aload_n dX8_fairCopy_44 rfl rfl ?_
  refine J.getR (r := 48) fl_X8_14 rfl dX8_fairCopy_45 (lt47 hs) (kk47 hs) (rr47_11 hs) ?_
  refine J.getR (r := 51) fl_X8_69 rfl dX8_fairCopy_48 (lt48 hs) (kk48 hs) (rr48_3 hs) ?_
  refine J.aload_n dX8_fairCopy_51 rfl rfl ?_
  refine J.getR (r := t1 + 3) fl_X8_69 rfl dX8_fairCopy_52 ht_t1.l0 ht_t1.k0 ht_t1.r3 ?_
  refine J.callSN (M' := mX11_copy) (index := 62) (bc := 0) (bs := 0) (bc' := 0) (bs' := 0) (st := []) [.ref (eB E + 51), .ref (eB E + (t1 + 3))] nk_X8_62 cv_X11_copy dX8_fairCopy_55 rfl rfl (Nat.le_of_ble_eq_true rfl) (kqv hW (fun I3 hW => ?_))
  refine J.aload_n dX8_fairCopy_58 rfl rfl ?_
  refine J.getR (r := 48) fl_X8_14 rfl dX8_fairCopy_59 (lt47 hs) (kk47 hs) (rr47_11 hs) ?_
  refine J.getR (r := 52) fl_X8_72 rfl dX8_fairCopy_62 (lt48 hs) (kk48 hs) (rr48_4 hs) ?_
  refine J.aload_n dX8_fairCopy_65 rfl rfl ?_
  refine J.getR (r := t1 + 4) fl_X8_72 rfl dX8_fairCopy_66 ht_t1.l0 ht_t1.k0 ht_t1.r4 ?_
  refine J.callSN (M' := mX11_copy) (index := 62) (bc := 0) (bs := 0) (bc' := 0) (bs' := 0) (st := []) [.ref (eB E + 52), .ref (eB E + (t1 + 4))] nk_X8_62 cv_X11_copy dX8_fairCopy_69 rfl rfl (Nat.le_of_ble_eq_true rfl) (kqv hW (fun I4 hW => ?_))
  refine J.aload_n dX8_fairCopy_72 rfl rfl ?_
  refine J.getR (r := 48) fl_X8_14 rfl dX8_fairCopy_73 (lt47 hs) (kk47 hs) (rr47_11 hs) ?_
  refine J.getR (r := 53) fl_X8_75 rfl dX8_fairCopy_76 (lt48 hs) (kk48 hs) (rr48_5 hs) ?_
  refine J.aload_n dX8_fairCopy_79 rfl rfl ?_
  refine J.getR (r := t1 + 5) fl_X8_75 rfl dX8_fairCopy_80 ht_t1.l0 ht_t1.k0 ht_t1.r5 ?_
  refine J.callSN (M' := mX11_copy) (index := 62) (bc := 0) (bs := 0) (bc' := 0) (bs' := 0) (st := []) [.ref (eB E + 53), .ref (eB E + (t1 + 5))] nk_X8_62 cv_X11_copy dX8_fairCopy_83 rfl rfl (Nat.le_of_ble_eq_true rfl) (kqv hW (fun I5 hW => ?_))
  refine J.aload_n dX8_fairCopy_86 rfl rfl ?_
  refine J.getR (r := 48) fl_X8_14 rfl dX8_fairCopy_87 (lt47 hs) (kk47 hs) (rr47_11 hs) ?_
  refine J.getR (r := 54) fl_X8_78 rfl dX8_fairCopy_90 (lt48 hs) (kk48 hs) (rr48_6 hs) ?_
  refine J.aload_n dX8_fairCopy_93 rfl rfl ?_
  refine J.getR (r := t1 + 6) fl_X8_78 rfl dX8_fairCopy_94 ht_t1.l0 ht_t1.k0 ht_t1.r6 ?_
  refine J.callSN (M' := mX11_copy) (index := 62) (bc := 0) (bs := 0) (bc' := 0) (bs' := 0) (st := []) [.ref (eB E + 54), .ref (eB E + (t1 + 6))] nk_X8_62 cv_X11_copy dX8_fairCopy_97 rfl rfl (Nat.le_of_ble_eq_true rfl) (kqv hW (fun I6 hW => ?_))
  refine J.aload_n dX8_fairCopy_100 rfl rfl ?_
  refine J.getR (r := 48) fl_X8_14 rfl dX8_fairCopy_101 (lt47 hs) (kk47 hs) (rr47_11 hs) ?_
  refine J.getR (r := 55) fl_X8_81 rfl dX8_fairCopy_104 (lt48 hs) (kk48 hs) (rr48_7 hs) ?_
  refine J.aload_n dX8_fairCopy_107 rfl rfl ?_
  refine J.getR (r := t1 + 7) fl_X8_81 rfl dX8_fairCopy_108 ht_t1.l0 ht_t1.k0 ht_t1.r7 ?_
  refine J.callSN (M' := mX11_copyFlags) (index := 85) (bc := 0) (bs := 0) (bc' := 0) (bs' := 0) (st := []) [.ref (eB E + 55), .ref (eB E + (t1 + 7))] nk_X8_85 cv_X11_copyFlags dX8_fairCopy_111 rfl rfl (Nat.le_of_ble_eq_true rfl) (kqv hW (fun I7 hW => ?_))
  refine J.aload_n dX8_fairCopy_114 rfl rfl ?_
  exact J.ret (some (.ref (eB E + t1))) ⟨dX8_fairCopy_115, _, rfl⟩ hW
set_option maxRecDepth 100000 in
set_option maxHeartbeats 4000000 in
theorem wb_X8_take {bc bs : Nat} {E : Envt} {d : Nat} {Q : Pst} {h : mS} {I : mI} {L : mL} (hs : SL h) (x1 : Int32) 
    (hW : (bz x1 ∧ (CT E mX8_advance (d + 8) 0 0 [.ref (eB E + 47)] h (uI (uI (uI (uI (uI (uI I 47 5 x1) 47 3 0) 47 6 0) 47 7 0) 47 9 0) 47 10 (-1)) L (qv h L fun I1 => J E mX8_take (d + 9) Q bc bs 38 [some (.ref (eB E + 47)), some (.int x1), some (.int 1), some (.int 0)] [] h I1 L)))) :
    CT E mX8_take (d + 9) bc bs [.ref (eB E + 47), .int x1] h I L Q := by
  refine CT.of (by decide) [some (.ref (eB E + 47)), some (.int x1), none, none] rfl (Nat.le_of_ble_eq_true rfl) ?_
  refine J.aload_n dX8_take_0 rfl rfl ?_
  refine J.iload_n dX8_take_1 rfl rfl ?_
  obtain ⟨hz, hW⟩ := hW
  refine J.putZ fw_X8_24 rfl hz dX8_take_2 (lt47 hs) (kk47 hs) ?_
  refine J.aload_n dX8_take_5 rfl rfl ?_
  refine J.iconst (v := 0) dX8_take_6 (by decide) ?_
  refine J.putI fw_X8_28 rfl dX8_take_7 (lt47 hs) (kk47 hs) ?_
  refine J.aload_n dX8_take_10 rfl rfl ?_
  refine J.iconst (v := 0) dX8_take_11 (by decide) ?_
  refine J.putI fw_X8_32 rfl dX8_take_12 (lt47 hs) (kk47 hs) ?_
  refine J.aload_n dX8_take_15 rfl rfl ?_
  refine J.iconst (v := 0) dX8_take_16 (by decide) ?_
  refine J.putI fw_X8_35 rfl dX8_take_17 (lt47 hs) (kk47 hs) ?_
  refine J.aload_n dX8_take_20 rfl rfl ?_
  refine J.iconst (v := 0) dX8_take_21 (by decide) ?_
  refine J.putI fw_X8_38 rfl dX8_take_22 (lt47 hs) (kk47 hs) ?_
  refine J.aload_n dX8_take_25 rfl rfl ?_
  refine J.iconst (v := (-1)) dX8_take_26 (by decide) ?_
  refine J.putI fw_X8_41 rfl dX8_take_27 (lt47 hs) (kk47 hs) ?_
  refine J.aload_n dX8_take_30 rfl rfl ?_
  refine J.callV (M' := mX8_advance) (index := 44) (bc := bc) (bs := bs) (bc' := 0) (bs' := 0) (st := []) [] ml_X8_44 cv_X8_advance dX8_take_31 (lt47 hs) (kk47 hs) (by decide) rfl rfl rfl rfl (Nat.le_of_ble_eq_true rfl) (kqv hW (fun I1 hW => ?_))
  refine J.iconst (v := 1) dX8_take_34 (by decide) ?_
  refine J.istore_n (vs' := [some (.ref (eB E + 47)), some (.int x1), some (.int 1), none]) dX8_take_35 rfl (by decide) rfl ?_
  refine J.iconst (v := 0) dX8_take_36 (by decide) ?_
  refine J.istore_n (vs' := [some (.ref (eB E + 47)), some (.int x1), some (.int 1), some (.int 0)]) dX8_take_37 rfl (by decide) rfl ?_
  exact hW

set_option maxRecDepth 100000 in
set_option maxHeartbeats 4000000 in
theorem wb_X8_take_38 {bc bs : Nat} {E : Envt} {d : Nat} {Q : Pst} {h : mS} {I : mI} {L : mL} (hs : SL h)    (x1 : Int32) (x2 : Int32) (x3 : Int32)
    (hW : (((500 < x3) → ((((I 47 9) = 0) → (CT E mX8_fairCopy (d + 8) bc bs [.ref (eB E + 47)] h I L (gt E fun t7 h3 I4 L5 => SL h3 ∧ Q (some (.ref (eB E + t7))) h3 I4 L5))) ∧ (¬ ((I 47 9) = 0) → Q (some .null) h I L))) ∧ (¬ (500 < x3) → (((x2 = 0) → ((((I 47 9) = 0) → (CT E mX8_fairCopy (d + 8) bc bs [.ref (eB E + 47)] h I L (gt E fun t14 h10 I11 L12 => SL h10 ∧ Q (some (.ref (eB E + t14))) h10 I11 L12))) ∧ (¬ ((I 47 9) = 0) → Q (some .null) h I L))) ∧ (¬ (x2 = 0) → ((((I 47 1) = 0) → ((((I 47 9) = 0) → (CT E mX8_fairCopy (d + 8) bc bs [.ref (eB E + 47)] h I L (gt E fun t21 h17 I18 L19 => SL h17 ∧ Q (some (.ref (eB E + t21))) h17 I18 L19))) ∧ (¬ ((I 47 9) = 0) → Q (some .null) h I L))) ∧ (¬ ((I 47 1) = 0) → (CT E mX8_readLine (d + 8) 0 0 [.ref (eB E + 47)] h I L (qi h L fun r23 I22 => J E mX8_take (d + 9) Q bc bs 38 [some (.ref (eB E + 47)), some (.int x1), some (.int r23), some (.int (x3 + 1))] [] h I22 L))))))))) :
    J E mX8_take (d + 9) Q bc bs 38 [some (.ref (eB E + 47)), some (.int x1), some (.int x2), some (.int x3)] [] h I L := by
  refine J.iload_n dX8_take_38 rfl rfl ?_
  refine J.sipush (v := 500) dX8_take_39 (by decide) ?_
  refine J.ic_gt 67 dX8_take_42 (by decide) (fun hc1 => ?_) (fun hc1 => ?_)
  · have hW := hW.1 hc1
    refine J.aload_n dX8_take_67 rfl rfl ?_
    refine J.getI (x := I 47 9) fl_X8_38 rfl dX8_take_68 (lt47 hs) (kk47 hs) rfl ?_
    refine J.if_ne 81 dX8_take_71 (by decide) (fun hc2 => ?_) (fun hc2 => ?_)
    · have hW := hW.2 hc2
      refine J.null dX8_take_81 ?_
      exact J.ret (some .null) ⟨dX8_take_82, _, rfl⟩ hW
    · have hW := hW.1 hc2
      refine J.aload_n dX8_take_74 rfl rfl ?_
      refine J.less (bc' := 0 + bc) (bs' := 0 + bs) ?_ (by omega) (by omega)
      refine J.callV (M' := mX8_fairCopy) (index := 54) (bc := 0) (bs := 0) (bc' := bc) (bs' := bs) (st := []) [] ml_X8_54 cv_X8_fairCopy dX8_take_75 (lt47 hs) (kk47 hs) (by decide) rfl rfl rfl rfl (Nat.le_of_ble_eq_true rfl) (kgt hW (fun t7 h3 I4 L5 hW => ?_))
      obtain ⟨hs6, hW⟩ := hW
      refine J.goto 82 dX8_take_78 (by decide) ?_
      exact J.ret (some (.ref (eB E + t7))) ⟨dX8_take_82, _, rfl⟩ hW
  · have hW := hW.2 hc1
    refine J.iload_n dX8_take_45 rfl rfl ?_
    refine J.if_eq 67 dX8_take_46 (by decide) (fun hc8 => ?_) (fun hc8 => ?_)
    · have hW := hW.1 hc8
      refine J.aload_n dX8_take_67 rfl rfl ?_
      refine J.getI (x := I 47 9) fl_X8_38 rfl dX8_take_68 (lt47 hs) (kk47 hs) rfl ?_
      refine J.if_ne 81 dX8_take_71 (by decide) (fun hc9 => ?_) (fun hc9 => ?_)
      · have hW := hW.2 hc9
        refine J.null dX8_take_81 ?_
        exact J.ret (some .null) ⟨dX8_take_82, _, rfl⟩ hW
      · have hW := hW.1 hc9
        refine J.aload_n dX8_take_74 rfl rfl ?_
        refine J.less (bc' := 0 + bc) (bs' := 0 + bs) ?_ (by omega) (by omega)
        refine J.callV (M' := mX8_fairCopy) (index := 54) (bc := 0) (bs := 0) (bc' := bc) (bs' := bs) (st := []) [] ml_X8_54 cv_X8_fairCopy dX8_take_75 (lt47 hs) (kk47 hs) (by decide) rfl rfl rfl rfl (Nat.le_of_ble_eq_true rfl) (kgt hW (fun t14 h10 I11 L12 hW => ?_))
        obtain ⟨hs13, hW⟩ := hW
        refine J.goto 82 dX8_take_78 (by decide) ?_
        exact J.ret (some (.ref (eB E + t14))) ⟨dX8_take_82, _, rfl⟩ hW
    · have hW := hW.2 hc8
      refine J.aload_n dX8_take_49 rfl rfl ?_
      refine J.getI (x := I 47 1) fl_X8_47 rfl dX8_take_50 (lt47 hs) (kk47 hs) rfl ?_
      refine J.if_eq 67 dX8_take_53 (by decide) (fun hc15 => ?_) (fun hc15 => ?_)
      · have hW := hW.1 hc15
        refine J.aload_n dX8_take_67 rfl rfl ?_
        refine J.getI (x := I 47 9) fl_X8_38 rfl dX8_take_68 (lt47 hs) (kk47 hs) rfl ?_
        refine J.if_ne 81 dX8_take_71 (by decide) (fun hc16 => ?_) (fun hc16 => ?_)
        · have hW := hW.2 hc16
          refine J.null dX8_take_81 ?_
          exact J.ret (some .null) ⟨dX8_take_82, _, rfl⟩ hW
        · have hW := hW.1 hc16
          refine J.aload_n dX8_take_74 rfl rfl ?_
          refine J.less (bc' := 0 + bc) (bs' := 0 + bs) ?_ (by omega) (by omega)
          refine J.callV (M' := mX8_fairCopy) (index := 54) (bc := 0) (bs := 0) (bc' := bc) (bs' := bs) (st := []) [] ml_X8_54 cv_X8_fairCopy dX8_take_75 (lt47 hs) (kk47 hs) (by decide) rfl rfl rfl rfl (Nat.le_of_ble_eq_true rfl) (kgt hW (fun t21 h17 I18 L19 hW => ?_))
          obtain ⟨hs20, hW⟩ := hW
          refine J.goto 82 dX8_take_78 (by decide) ?_
          exact J.ret (some (.ref (eB E + t21))) ⟨dX8_take_82, _, rfl⟩ hW
      · have hW := hW.2 hc15
        refine J.aload_n dX8_take_56 rfl rfl ?_
        refine J.callV (M' := mX8_readLine) (index := 50) (bc := bc) (bs := bs) (bc' := 0) (bs' := 0) (st := []) [] ml_X8_50 cv_X8_readLine dX8_take_57 (lt47 hs) (kk47 hs) (by decide) rfl rfl rfl rfl (Nat.le_of_ble_eq_true rfl) (kqi hW (fun r23 I22 hW => ?_))
        refine J.istore_n (vs' := [some (.ref (eB E + 47)), some (.int x1), some (.int r23), some (.int x3)]) dX8_take_60 rfl (by decide) rfl ?_
        refine J.iinc (v := x3 + 1) (vs' := [some (.ref (eB E + 47)), some (.int x1), some (.int r23), some (.int (x3 + 1))]) dX8_take_61 rfl (by rfl) (by decide) rfl ?_
        refine J.goto 38 dX8_take_64 (by decide) ?_
        exact hW

set_option maxRecDepth 100000 in
set_option maxHeartbeats 4000000 in
theorem wb_X11_text {bc bs : Nat} {E : Envt} {d : Nat} {Q : Pst} {h : mS} {I : mI} {L : mL} (hs : SL h) (x1 : Int32) 
    (hW : (((¬ (x1 < 0) ∧ (¬ (6 < x1))) → (CT E mX8_take (d + 9) bc bs [.ref (eB E + 47), .int (bI (¬ (x1 < 5)))] h I L (go E fun o9 h5 I6 L7 => SL h5 ∧ ((o9 = none → Q (some (.int (-1))) h5 (uI (uI (uI I6 1 7 0) 1 8 (I6 47 9)) 1 9 (I6 47 10)) L7) ∧ (∀ t11 : Nat, o9 = some t11 → (vp_in x1 7 ∧ (∃ nl14 nt15 : Nat, LT h5 t11 nl14 nt15 ∧ Q (some (.int ((uI (uI (uI I6 1 7 0) 1 8 (I6 47 9)) 1 9 (I6 47 10)) t11 0))) (uRh h5 36 x1.toNatClampNeg (some t11)) (uI (uI (uI I6 1 7 0) 1 8 (I6 47 9)) 1 9 (I6 47 10)) L7))))))) ∧ (¬ (¬ (x1 < 0) ∧ (¬ (6 < x1))) → Q (some (.int (-2))) h (uI (uI (uI I 1 7 0) 1 8 0) 1 9 (-1)) L))) :
    CT E mX11_text (d + 10) bc bs [.ref (eB E + 0), .int x1] h I L Q := by
  refine CT.of (by decide) [some (.ref (eB E + 0)), some (.int x1), none] rfl (Nat.le_of_ble_eq_true rfl) ?_
  refine J.iload_n dX11_text_0 rfl rfl ?_
  refine J.iconst (v := 0) dX11_text_1 (by decide) ?_
  refine J.bipush (v := 6) dX11_text_2 (by decide) ?_
  refine J.callS (M' := mX11_within) (index := 63) (bc := bc) (bs := bs) (bc' := 0) (bs' := 0) (st := []) [.int x1, .int 0, .int 6] ml_X11_63 cv_X11_within dX11_text_4 rfl rfl (Nat.le_of_ble_eq_true rfl) (kqi (w_X11_within (d := d + 9) (Q := qi h L (fun v I' => I' = I ∧ v = bI (¬ (x1 < 0) ∧ (¬ (6 < x1))))) hs x1 0 6 ⟨rfl, rfl, _, rfl, rfl, rfl⟩) (fun v1 I2 hv => ?_))
  rw [hv.1, hv.2]
  refine J.if_ne 37 dX11_text_7 (by decide) (fun hc3 => ?_) (fun hc3 => ?_)
  · have hc3 := bI_n0.mp hc3
    have hW := hW.1 hc3
    refine J.aload_n dX11_text_37 rfl rfl ?_
    refine J.getR (r := 47) fl_X11_25 rfl dX11_text_38 (lt0 hs) (kk0 hs) (rr0_2 hs) ?_
    refine J.iload_n dX11_text_41 rfl rfl ?_
    refine J.iconst (v := 5) dX11_text_42 (by decide) ?_
    have hj : J E mX11_text (d + 10) Q bc bs 51 [some (.ref (eB E + 0)), some (.int x1), none] [.int (bI (¬ (x1 < 5))), .ref (eB E + 47)] h I L := by
      refine J.less (bc' := 0 + bc) (bs' := 0 + bs) ?_ (by omega) (by omega)
      refine J.callV (M' := mX8_take) (index := 215) (bc := 0) (bs := 0) (bc' := bc) (bs' := bs) (st := []) [.int (bI (¬ (x1 < 5)))] ml_X11_215 cv_X8_take dX11_text_51 (lt47 hs) (kk47 hs) (by decide) rfl rfl rfl rfl (Nat.le_of_ble_eq_true rfl) (kgo hW (fun o9 h5 I6 L7 hW => ?_))
      obtain ⟨hs8, hW⟩ := hW
      rcases ho10 : o9 with _ | t11
      · have hW := hW.1 ho10
        rw [rlf_none]
        refine J.astore_nN (vs' := [some (.ref (eB E + 0)), some (.int x1), some (.null)]) dX11_text_54 rfl (by decide) rfl ?_
        refine J.aload_n dX11_text_55 rfl rfl ?_
        refine J.getR (r := 1) fl_X11_12 rfl dX11_text_56 (lt0 hs8) (kk0 hs8) (rr0_0 hs8) ?_
        refine J.iconst (v := 0) dX11_text_59 (by decide) ?_
        refine J.putI fw_X11_203 rfl dX11_text_60 (lt1 hs8) (kk1 hs8) ?_
        refine J.aload_n dX11_text_63 rfl rfl ?_
        refine J.getR (r := 1) fl_X11_12 rfl dX11_text_64 (lt0 hs8) (kk0 hs8) (rr0_0 hs8) ?_
        refine J.aload_n dX11_text_67 rfl rfl ?_
        refine J.getR (r := 47) fl_X11_25 rfl dX11_text_68 (lt0 hs8) (kk0 hs8) (rr0_2 hs8) ?_
        refine J.getI (x := I6 47 9) fl_X11_219 rfl dX11_text_71 (lt47 hs8) (kk47 hs8) rfl ?_
        refine J.putI fw_X11_209 rfl dX11_text_74 (lt1 hs8) (kk1 hs8) ?_
        refine J.aload_n dX11_text_77 rfl rfl ?_
        refine J.getR (r := 1) fl_X11_12 rfl dX11_text_78 (lt0 hs8) (kk0 hs8) (rr0_0 hs8) ?_
        refine J.aload_n dX11_text_81 rfl rfl ?_
        refine J.getR (r := 47) fl_X11_25 rfl dX11_text_82 (lt0 hs8) (kk0 hs8) (rr0_2 hs8) ?_
        refine J.getI (x := I6 47 10) fl_X11_220 rfl dX11_text_85 (lt47 hs8) (kk47 hs8) rfl ?_
        refine J.putI fw_X11_212 rfl dX11_text_88 (lt1 hs8) (kk1 hs8) ?_
        refine J.aload_nN dX11_text_91 rfl rfl ?_
        refine J.ifnonnullN dX11_text_92 ?_
        refine J.iconst (v := (-1)) dX11_text_95 (by decide) ?_
        exact J.reti dX11_text_96 rfl rfl hW
      · have hW := hW.2 t11 ho10
        rw [rlf_some]
        refine J.astore_n (vs' := [some (.ref (eB E + 0)), some (.int x1), some (.ref (eB E + t11))]) dX11_text_54 rfl (by decide) rfl ?_
        refine J.aload_n dX11_text_55 rfl rfl ?_
        refine J.getR (r := 1) fl_X11_12 rfl dX11_text_56 (lt0 hs8) (kk0 hs8) (rr0_0 hs8) ?_
        refine J.iconst (v := 0) dX11_text_59 (by decide) ?_
        refine J.putI fw_X11_203 rfl dX11_text_60 (lt1 hs8) (kk1 hs8) ?_
        refine J.aload_n dX11_text_63 rfl rfl ?_
        refine J.getR (r := 1) fl_X11_12 rfl dX11_text_64 (lt0 hs8) (kk0 hs8) (rr0_0 hs8) ?_
        refine J.aload_n dX11_text_67 rfl rfl ?_
        refine J.getR (r := 47) fl_X11_25 rfl dX11_text_68 (lt0 hs8) (kk0 hs8) (rr0_2 hs8) ?_
        refine J.getI (x := I6 47 9) fl_X11_219 rfl dX11_text_71 (lt47 hs8) (kk47 hs8) rfl ?_
        refine J.putI fw_X11_209 rfl dX11_text_74 (lt1 hs8) (kk1 hs8) ?_
        refine J.aload_n dX11_text_77 rfl rfl ?_
        refine J.getR (r := 1) fl_X11_12 rfl dX11_text_78 (lt0 hs8) (kk0 hs8) (rr0_0 hs8) ?_
        refine J.aload_n dX11_text_81 rfl rfl ?_
        refine J.getR (r := 47) fl_X11_25 rfl dX11_text_82 (lt0 hs8) (kk0 hs8) (rr0_2 hs8) ?_
        refine J.getI (x := I6 47 10) fl_X11_220 rfl dX11_text_85 (lt47 hs8) (kk47 hs8) rfl ?_
        refine J.putI fw_X11_212 rfl dX11_text_88 (lt1 hs8) (kk1 hs8) ?_
        refine J.aload_n dX11_text_91 rfl rfl ?_
        refine J.ifnonnull 97 dX11_text_92 (by decide) ?_
        refine J.aload_n dX11_text_97 rfl rfl ?_
        refine J.getR (r := 1) fl_X11_12 rfl dX11_text_98 (lt0 hs8) (kk0 hs8) (rr0_0 hs8) ?_
        refine J.getR (r := 36) fl_X11_221 rfl dX11_text_101 (lt1 hs8) (kk1 hs8) (rr1_5 hs8) ?_
        refine J.iload_n dX11_text_104 rfl rfl ?_
        refine J.aload_n dX11_text_105 rfl rfl ?_
        obtain ⟨hb12, hW⟩ := hW
        obtain ⟨nl14, nt15, ht13, hW⟩ := hW
        refine J.aastT dX11_text_106 (lt36 hs8) (kk36 hs8) hb12 ht13.l0 ht13.k0 ?_
        have hs16 : SL (uRh h5 36 x1.toNatClampNeg (some t11)) := SL_uR hs8 (by decide)
        have ht17 := LT_uR (a := 36) (i := x1.toNatClampNeg) (r := (some t11)) ht13 (LT_ne ht13 (kk36 hs8))
        refine J.aload_n dX11_text_107 rfl rfl ?_
        refine J.getI (x := (uI (uI (uI I6 1 7 0) 1 8 (I6 47 9)) 1 9 (I6 47 10)) t11 0) fl_X11_225 rfl dX11_text_108 ht17.l0 ht17.k0 rfl ?_
        exact J.reti dX11_text_111 rfl rfl hW
    refine J.ic_lt 50 dX11_text_43 (by decide) (fun hc4 => ?_) (fun hc4 => ?_)
    · refine J.iconst (v := 0) dX11_text_50 (by decide) ?_
      rw [show bI (¬ (x1 < 5)) = 0 from bI_f (by simp only [eq_true hc4, and_true, true_and, and_false, false_and, or_true, true_or, or_false, false_or, not_true_eq_false, not_false_eq_true])] at hj
      exact hj
    · refine J.iconst (v := 1) dX11_text_46 (by decide) ?_
      refine J.goto 51 dX11_text_47 (by decide) ?_
      rw [show bI (¬ (x1 < 5)) = 1 from bI_t (by simp only [eq_false hc4, and_true, true_and, and_false, false_and, or_true, true_or, or_false, false_or, not_true_eq_false, not_false_eq_true])] at hj
      exact hj
  · have hc3 := bI_0.mp hc3
    have hW := hW.2 hc3
    refine J.aload_n dX11_text_10 rfl rfl ?_
    refine J.getR (r := 1) fl_X11_12 rfl dX11_text_11 (lt0 hs) (kk0 hs) (rr0_0 hs) ?_
    refine J.iconst (v := 0) dX11_text_14 (by decide) ?_
    refine J.putI fw_X11_203 rfl dX11_text_15 (lt1 hs) (kk1 hs) ?_
    refine J.aload_n dX11_text_18 rfl rfl ?_
    refine J.getR (r := 1) fl_X11_12 rfl dX11_text_19 (lt0 hs) (kk0 hs) (rr0_0 hs) ?_
    refine J.iconst (v := 0) dX11_text_22 (by decide) ?_
    refine J.putI fw_X11_209 rfl dX11_text_23 (lt1 hs) (kk1 hs) ?_
    refine J.aload_n dX11_text_26 rfl rfl ?_
    refine J.getR (r := 1) fl_X11_12 rfl dX11_text_27 (lt0 hs) (kk0 hs) (rr0_0 hs) ?_
    refine J.iconst (v := (-1)) dX11_text_30 (by decide) ?_
    refine J.putI fw_X11_212 rfl dX11_text_31 (lt1 hs) (kk1 hs) ?_
    refine J.bipush (v := (-2)) dX11_text_34 (by decide) ?_
    exact J.reti dX11_text_36 rfl rfl hW

